/-! What each straight stretch of code does, as an equation. Printed by program. -/
/-! 225: Law.law -/
set_option maxRecDepth 100000 in
theorem s225_16 {d : Nat} {σ : St} {q0 q1 q2 : Nat} {x3 : Int32}  : exec d 225 16 [vR 64 q0, vR 6 q1, vR 7 q2, vI x3] [] σ = exec d 225 18 [vR 64 q0, vR 6 q1, vR 7 q2, vI 0] [] σ := e_sw (e_one rfl rfl) (e_sw (e_one rfl rfl) (rfl))
set_option maxRecDepth 100000 in
theorem s225_18 {d : Nat} {σ : St} {q0 q1 q2 : Nat} {x3 : Int32}  : exec d 225 18 [vR 64 q0, vR 6 q1, vR 7 q2, vI x3] [] σ = if ((nI (scL σ)) - 4) < x3 then exec d 225 967 [vR 64 q0, vR 6 q1, vR 7 q2, vI x3] [] σ else exec d 225 26 [vR 64 q0, vR 6 q1, vR 7 q2, vI x3] [] σ := e_sw (e_one rfl rfl) (e_sw (e_one rfl rfl) (e_sw (e_one rfl rfl) (e_sw (e_one rfl rfl) (e_sw (e_one rfl rfl) (e_if (e_one rfl rfl) cnd_gt)))))
set_option maxRecDepth 100000 in
theorem s225_26 {d : Nat} {σ : St} {q0 q1 q2 : Nat} {x3 : Int32}  : exec d 225 26 [vR 64 q0, vR 6 q1, vR 7 q2, vI x3] [] σ = if oob x3 (scL σ) = true then none else exec d 225 29 [vR 64 q0, vR 6 q1, vR 7 q2, vI x3] [vI (scF σ (x3).toNatClampNeg)] σ := e_sw (e_one rfl rfl) (e_sw (e_one rfl rfl) (e_iald_s rfl))
set_option maxRecDepth 100000 in
theorem s225_29 {d : Nat} {σ : St} {q0 q1 q2 : Nat} {x3 y0 : Int32}  : exec d 225 29 [vR 64 q0, vR 6 q1, vR 7 q2, vI x3] [vI y0] σ = if ((y0 &&& 31)).toInt = 0 then exec d 225 160 [vR 64 q0, vR 6 q1, vR 7 q2, vI x3] [] σ else if ((y0 &&& 31)).toInt = 1 then exec d 225 183 [vR 64 q0, vR 6 q1, vR 7 q2, vI x3] [] σ else if ((y0 &&& 31)).toInt = 2 then exec d 225 196 [vR 64 q0, vR 6 q1, vR 7 q2, vI x3] [] σ else if ((y0 &&& 31)).toInt = 3 then exec d 225 209 [vR 64 q0, vR 6 q1, vR 7 q2, vI x3] [] σ else if ((y0 &&& 31)).toInt = 4 then exec d 225 222 [vR 64 q0, vR 6 q1, vR 7 q2, vI x3] [] σ else if ((y0 &&& 31)).toInt = 5 then exec d 225 255 [vR 64 q0, vR 6 q1, vR 7 q2, vI x3] [] σ else if ((y0 &&& 31)).toInt = 6 then exec d 225 288 [vR 64 q0, vR 6 q1, vR 7 q2, vI x3] [] σ else if ((y0 &&& 31)).toInt = 7 then exec d 225 321 [vR 64 q0, vR 6 q1, vR 7 q2, vI x3] [] σ else if ((y0 &&& 31)).toInt = 8 then exec d 225 354 [vR 64 q0, vR 6 q1, vR 7 q2, vI x3] [] σ else if ((y0 &&& 31)).toInt = 9 then exec d 225 387 [vR 64 q0, vR 6 q1, vR 7 q2, vI x3] [] σ else if ((y0 &&& 31)).toInt = 10 then exec d 225 430 [vR 64 q0, vR 6 q1, vR 7 q2, vI x3] [] σ else if ((y0 &&& 31)).toInt = 11 then exec d 225 463 [vR 64 q0, vR 6 q1, vR 7 q2, vI x3] [] σ else if ((y0 &&& 31)).toInt = 12 then exec d 225 522 [vR 64 q0, vR 6 q1, vR 7 q2, vI x3] [] σ else if ((y0 &&& 31)).toInt = 13 then exec d 225 555 [vR 64 q0, vR 6 q1, vR 7 q2, vI x3] [] σ else if ((y0 &&& 31)).toInt = 14 then exec d 225 568 [vR 64 q0, vR 6 q1, vR 7 q2, vI x3] [] σ else if ((y0 &&& 31)).toInt = 15 then exec d 225 581 [vR 64 q0, vR 6 q1, vR 7 q2, vI x3] [] σ else if ((y0 &&& 31)).toInt = 16 then exec d 225 604 [vR 64 q0, vR 6 q1, vR 7 q2, vI x3] [] σ else if ((y0 &&& 31)).toInt = 17 then exec d 225 647 [vR 64 q0, vR 6 q1, vR 7 q2, vI x3] [] σ else if ((y0 &&& 31)).toInt = 18 then exec d 225 680 [vR 64 q0, vR 6 q1, vR 7 q2, vI x3] [] σ else if ((y0 &&& 31)).toInt = 19 then exec d 225 723 [vR 64 q0, vR 6 q1, vR 7 q2, vI x3] [] σ else if ((y0 &&& 31)).toInt = 20 then exec d 225 756 [vR 64 q0, vR 6 q1, vR 7 q2, vI x3] [] σ else if ((y0 &&& 31)).toInt = 21 then exec d 225 799 [vR 64 q0, vR 6 q1, vR 7 q2, vI x3] [] σ else if ((y0 &&& 31)).toInt = 22 then exec d 225 812 [vR 64 q0, vR 6 q1, vR 7 q2, vI x3] [] σ else if ((y0 &&& 31)).toInt = 23 then exec d 225 855 [vR 64 q0, vR 6 q1, vR 7 q2, vI x3] [] σ else if ((y0 &&& 31)).toInt = 24 then exec d 225 898 [vR 64 q0, vR 6 q1, vR 7 q2, vI x3] [] σ else if ((y0 &&& 31)).toInt = 25 then exec d 225 911 [vR 64 q0, vR 6 q1, vR 7 q2, vI x3] [] σ else if ((y0 &&& 31)).toInt = 26 then exec d 225 924 [vR 64 q0, vR 6 q1, vR 7 q2, vI x3] [] σ else if ((y0 &&& 31)).toInt = 27 then exec d 225 947 [vR 64 q0, vR 6 q1, vR 7 q2, vI x3] [] σ else exec d 225 961 [vR 64 q0, vR 6 q1, vR 7 q2, vI x3] [] σ := e_sw (e_one rfl rfl) (e_sw (e_one rfl rfl) (e_sw (e_one rfl rfl) (e_swc rfl (e_swc rfl (e_swc rfl (e_swc rfl (e_swc rfl (e_swc rfl (e_swc rfl (e_swc rfl (e_swc rfl (e_swc rfl (e_swc rfl (e_swc rfl (e_swc rfl (e_swc rfl (e_swc rfl (e_swc rfl (e_swc rfl (e_swc rfl (e_swc rfl (e_swc rfl (e_swc rfl (e_swc rfl (e_swc rfl (e_swc rfl (e_swc rfl (e_swc rfl (e_swc rfl (e_swc rfl (rfl)))))))))))))))))))))))))))))))
set_option maxRecDepth 100000 in
theorem s225_160 {d : Nat} {σ : St} {q0 q1 q2 : Nat} {x3 : Int32}  : exec d 225 160 [vR 64 q0, vR 6 q1, vR 7 q2, vI x3] [] σ = if oob (x3 + 1) (scL σ) = true then none else exec d 225 166 [vR 64 q0, vR 6 q1, vR 7 q2, vI x3] [vI (scF σ ((x3 + 1)).toNatClampNeg), vR 6 q1] σ := e_sw (e_one rfl rfl) (e_sw (e_one rfl rfl) (e_sw (e_one rfl rfl) (e_sw (e_one rfl rfl) (e_sw (e_one rfl rfl) (e_iald_s rfl)))))
set_option maxRecDepth 100000 in
theorem s225_166 {d : Nat} {σ : St} {q0 q1 q2 p0 : Nat} {x3 y1 : Int32}  : exec (d + 1) 225 166 [vR 64 q0, vR 6 q1, vR 7 q2, vI x3] [vI y1, vR 6 p0] σ = (call d 95 [vR 6 p0, vI y1] σ).bind (fun r => exec (d + 1) 225 169 [vR 64 q0, vR 6 q1, vR 7 q2, vI x3] (r.1.toList ++ []) r.2) := e_inv rfl rfl rfl rfl rfl
set_option maxRecDepth 100000 in
theorem s225_169 {d : Nat} {σ : St} {q0 q1 q2 : Nat} {x3 y0 : Int32}  : exec d 225 169 [vR 64 q0, vR 6 q1, vR 7 q2, vI x3] [vI y0] σ = if oob (x3 + 1) (scL σ) = true then none else exec d 225 175 [vR 64 q0, vR 6 q1, vR 7 q2, vI x3] [vI (scF σ ((x3 + 1)).toNatClampNeg), vR 7 q2, vI y0] σ := e_sw (e_one rfl rfl) (e_sw (e_one rfl rfl) (e_sw (e_one rfl rfl) (e_sw (e_one rfl rfl) (e_sw (e_one rfl rfl) (e_iald_s rfl)))))
set_option maxRecDepth 100000 in
theorem s225_175 {d : Nat} {σ : St} {q0 q1 q2 p1 : Nat} {x3 y0 y2 : Int32}  : exec (d + 1) 225 175 [vR 64 q0, vR 6 q1, vR 7 q2, vI x3] [vI y2, vR 7 p1, vI y0] σ = (call d 133 [vR 7 p1, vI y2] σ).bind (fun r => exec (d + 1) 225 178 [vR 64 q0, vR 6 q1, vR 7 q2, vI x3] (r.1.toList ++ [vI y0]) r.2) := e_inv rfl rfl rfl rfl rfl
set_option maxRecDepth 100000 in
theorem s225_178 {d : Nat} {σ : St} {q0 q1 q2 : Nat} {x3 y0 y1 : Int32}  : exec d 225 178 [vR 64 q0, vR 6 q1, vR 7 q2, vI x3] [vI y1, vI y0] σ = if y0 = y1 then exec d 225 961 [vR 64 q0, vR 6 q1, vR 7 q2, vI x3] [] σ else exec d 225 181 [vR 64 q0, vR 6 q1, vR 7 q2, vI x3] [] σ := e_if (e_one rfl rfl) cnd_eq
set_option maxRecDepth 100000 in
theorem s225_181 {d : Nat} {σ : St} {q0 q1 q2 : Nat} {x3 : Int32}  : exec d 225 181 [vR 64 q0, vR 6 q1, vR 7 q2, vI x3] [] σ = some (some (vI 0), σ) := e_sw (e_one rfl rfl) (e_rtn rfl rfl rfl)
set_option maxRecDepth 100000 in
theorem s225_183 {d : Nat} {σ : St} {q0 q1 q2 : Nat} {x3 : Int32}  : exec (d + 1) 225 183 [vR 64 q0, vR 6 q1, vR 7 q2, vI x3] [] σ = (call d 96 [vR 6 q1] σ).bind (fun r => exec (d + 1) 225 187 [vR 64 q0, vR 6 q1, vR 7 q2, vI x3] (r.1.toList ++ []) r.2) := e_sw (e_one rfl rfl) (e_inv rfl rfl rfl rfl rfl)
set_option maxRecDepth 100000 in
theorem s225_187 {d : Nat} {σ : St} {q0 q1 q2 : Nat} {x3 y0 : Int32}  : exec (d + 1) 225 187 [vR 64 q0, vR 6 q1, vR 7 q2, vI x3] [vI y0] σ = (call d 134 [vR 7 q2] σ).bind (fun r => exec (d + 1) 225 191 [vR 64 q0, vR 6 q1, vR 7 q2, vI x3] (r.1.toList ++ [vI y0]) r.2) := e_sw (e_one rfl rfl) (e_inv rfl rfl rfl rfl rfl)
set_option maxRecDepth 100000 in
theorem s225_191 {d : Nat} {σ : St} {q0 q1 q2 : Nat} {x3 y0 y1 : Int32}  : exec d 225 191 [vR 64 q0, vR 6 q1, vR 7 q2, vI x3] [vI y1, vI y0] σ = if y0 = y1 then exec d 225 961 [vR 64 q0, vR 6 q1, vR 7 q2, vI x3] [] σ else exec d 225 194 [vR 64 q0, vR 6 q1, vR 7 q2, vI x3] [] σ := e_if (e_one rfl rfl) cnd_eq
set_option maxRecDepth 100000 in
theorem s225_194 {d : Nat} {σ : St} {q0 q1 q2 : Nat} {x3 : Int32}  : exec d 225 194 [vR 64 q0, vR 6 q1, vR 7 q2, vI x3] [] σ = some (some (vI 0), σ) := e_sw (e_one rfl rfl) (e_rtn rfl rfl rfl)
set_option maxRecDepth 100000 in
theorem s225_196 {d : Nat} {σ : St} {q0 q1 q2 : Nat} {x3 : Int32}  : exec (d + 1) 225 196 [vR 64 q0, vR 6 q1, vR 7 q2, vI x3] [] σ = (call d 97 [vR 6 q1] σ).bind (fun r => exec (d + 1) 225 200 [vR 64 q0, vR 6 q1, vR 7 q2, vI x3] (r.1.toList ++ []) r.2) := e_sw (e_one rfl rfl) (e_inv rfl rfl rfl rfl rfl)
set_option maxRecDepth 100000 in
theorem s225_200 {d : Nat} {σ : St} {q0 q1 q2 : Nat} {x3 y0 : Int32}  : exec (d + 1) 225 200 [vR 64 q0, vR 6 q1, vR 7 q2, vI x3] [vI y0] σ = (call d 139 [vR 7 q2] σ).bind (fun r => exec (d + 1) 225 204 [vR 64 q0, vR 6 q1, vR 7 q2, vI x3] (r.1.toList ++ [vI y0]) r.2) := e_sw (e_one rfl rfl) (e_inv rfl rfl rfl rfl rfl)
set_option maxRecDepth 100000 in
theorem s225_204 {d : Nat} {σ : St} {q0 q1 q2 : Nat} {x3 y0 y1 : Int32}  : exec d 225 204 [vR 64 q0, vR 6 q1, vR 7 q2, vI x3] [vI y1, vI y0] σ = if y0 = y1 then exec d 225 961 [vR 64 q0, vR 6 q1, vR 7 q2, vI x3] [] σ else exec d 225 207 [vR 64 q0, vR 6 q1, vR 7 q2, vI x3] [] σ := e_if (e_one rfl rfl) cnd_eq
set_option maxRecDepth 100000 in
theorem s225_207 {d : Nat} {σ : St} {q0 q1 q2 : Nat} {x3 : Int32}  : exec d 225 207 [vR 64 q0, vR 6 q1, vR 7 q2, vI x3] [] σ = some (some (vI 0), σ) := e_sw (e_one rfl rfl) (e_rtn rfl rfl rfl)
set_option maxRecDepth 100000 in
theorem s225_209 {d : Nat} {σ : St} {q0 q1 q2 : Nat} {x3 : Int32}  : exec (d + 1) 225 209 [vR 64 q0, vR 6 q1, vR 7 q2, vI x3] [] σ = (call d 98 [vR 6 q1] σ).bind (fun r => exec (d + 1) 225 213 [vR 64 q0, vR 6 q1, vR 7 q2, vI x3] (r.1.toList ++ []) r.2) := e_sw (e_one rfl rfl) (e_inv rfl rfl rfl rfl rfl)
set_option maxRecDepth 100000 in
theorem s225_213 {d : Nat} {σ : St} {q0 q1 q2 : Nat} {x3 y0 : Int32}  : exec (d + 1) 225 213 [vR 64 q0, vR 6 q1, vR 7 q2, vI x3] [vI y0] σ = (call d 141 [vR 7 q2] σ).bind (fun r => exec (d + 1) 225 217 [vR 64 q0, vR 6 q1, vR 7 q2, vI x3] (r.1.toList ++ [vI y0]) r.2) := e_sw (e_one rfl rfl) (e_inv rfl rfl rfl rfl rfl)
set_option maxRecDepth 100000 in
theorem s225_217 {d : Nat} {σ : St} {q0 q1 q2 : Nat} {x3 y0 y1 : Int32}  : exec d 225 217 [vR 64 q0, vR 6 q1, vR 7 q2, vI x3] [vI y1, vI y0] σ = if y0 = y1 then exec d 225 961 [vR 64 q0, vR 6 q1, vR 7 q2, vI x3] [] σ else exec d 225 220 [vR 64 q0, vR 6 q1, vR 7 q2, vI x3] [] σ := e_if (e_one rfl rfl) cnd_eq
set_option maxRecDepth 100000 in
theorem s225_220 {d : Nat} {σ : St} {q0 q1 q2 : Nat} {x3 : Int32}  : exec d 225 220 [vR 64 q0, vR 6 q1, vR 7 q2, vI x3] [] σ = some (some (vI 0), σ) := e_sw (e_one rfl rfl) (e_rtn rfl rfl rfl)
set_option maxRecDepth 100000 in
theorem s225_222 {d : Nat} {σ : St} {q0 q1 q2 : Nat} {x3 : Int32}  : exec d 225 222 [vR 64 q0, vR 6 q1, vR 7 q2, vI x3] [] σ = if oob (x3 + 1) (scL σ) = true then none else exec d 225 228 [vR 64 q0, vR 6 q1, vR 7 q2, vI x3] [vI (scF σ ((x3 + 1)).toNatClampNeg), vR 6 q1] σ := e_sw (e_one rfl rfl) (e_sw (e_one rfl rfl) (e_sw (e_one rfl rfl) (e_sw (e_one rfl rfl) (e_sw (e_one rfl rfl) (e_iald_s rfl)))))
set_option maxRecDepth 100000 in
theorem s225_228 {d : Nat} {σ : St} {q0 q1 q2 p0 : Nat} {x3 y1 : Int32}  : exec d 225 228 [vR 64 q0, vR 6 q1, vR 7 q2, vI x3] [vI y1, vR 6 p0] σ = if oob (x3 + 2) (scL σ) = true then none else exec d 225 233 [vR 64 q0, vR 6 q1, vR 7 q2, vI x3] [vI (scF σ ((x3 + 2)).toNatClampNeg), vI y1, vR 6 p0] σ := e_sw (e_one rfl rfl) (e_sw (e_one rfl rfl) (e_sw (e_one rfl rfl) (e_sw (e_one rfl rfl) (e_iald_s rfl))))
set_option maxRecDepth 100000 in
theorem s225_233 {d : Nat} {σ : St} {q0 q1 q2 p0 : Nat} {x3 y1 y2 : Int32}  : exec (d + 1) 225 233 [vR 64 q0, vR 6 q1, vR 7 q2, vI x3] [vI y2, vI y1, vR 6 p0] σ = (call d 99 [vR 6 p0, vI y1, vI y2] σ).bind (fun r => exec (d + 1) 225 236 [vR 64 q0, vR 6 q1, vR 7 q2, vI x3] (r.1.toList ++ []) r.2) := e_inv rfl rfl rfl rfl rfl
set_option maxRecDepth 100000 in
theorem s225_236 {d : Nat} {σ : St} {q0 q1 q2 : Nat} {x3 y0 : Int32}  : exec d 225 236 [vR 64 q0, vR 6 q1, vR 7 q2, vI x3] [vI y0] σ = if oob (x3 + 1) (scL σ) = true then none else exec d 225 242 [vR 64 q0, vR 6 q1, vR 7 q2, vI x3] [vI (scF σ ((x3 + 1)).toNatClampNeg), vR 7 q2, vI y0] σ := e_sw (e_one rfl rfl) (e_sw (e_one rfl rfl) (e_sw (e_one rfl rfl) (e_sw (e_one rfl rfl) (e_sw (e_one rfl rfl) (e_iald_s rfl)))))
set_option maxRecDepth 100000 in
theorem s225_242 {d : Nat} {σ : St} {q0 q1 q2 p1 : Nat} {x3 y0 y2 : Int32}  : exec d 225 242 [vR 64 q0, vR 6 q1, vR 7 q2, vI x3] [vI y2, vR 7 p1, vI y0] σ = if oob (x3 + 2) (scL σ) = true then none else exec d 225 247 [vR 64 q0, vR 6 q1, vR 7 q2, vI x3] [vI (scF σ ((x3 + 2)).toNatClampNeg), vI y2, vR 7 p1, vI y0] σ := e_sw (e_one rfl rfl) (e_sw (e_one rfl rfl) (e_sw (e_one rfl rfl) (e_sw (e_one rfl rfl) (e_iald_s rfl))))
set_option maxRecDepth 100000 in
theorem s225_247 {d : Nat} {σ : St} {q0 q1 q2 p1 : Nat} {x3 y0 y2 y3 : Int32}  : exec (d + 1) 225 247 [vR 64 q0, vR 6 q1, vR 7 q2, vI x3] [vI y3, vI y2, vR 7 p1, vI y0] σ = (call d 157 [vR 7 p1, vI y2, vI y3] σ).bind (fun r => exec (d + 1) 225 250 [vR 64 q0, vR 6 q1, vR 7 q2, vI x3] (r.1.toList ++ [vI y0]) r.2) := e_inv rfl rfl rfl rfl rfl
set_option maxRecDepth 100000 in
theorem s225_250 {d : Nat} {σ : St} {q0 q1 q2 : Nat} {x3 y0 y1 : Int32}  : exec d 225 250 [vR 64 q0, vR 6 q1, vR 7 q2, vI x3] [vI y1, vI y0] σ = if y0 = y1 then exec d 225 961 [vR 64 q0, vR 6 q1, vR 7 q2, vI x3] [] σ else exec d 225 253 [vR 64 q0, vR 6 q1, vR 7 q2, vI x3] [] σ := e_if (e_one rfl rfl) cnd_eq
set_option maxRecDepth 100000 in
theorem s225_253 {d : Nat} {σ : St} {q0 q1 q2 : Nat} {x3 : Int32}  : exec d 225 253 [vR 64 q0, vR 6 q1, vR 7 q2, vI x3] [] σ = some (some (vI 0), σ) := e_sw (e_one rfl rfl) (e_rtn rfl rfl rfl)
set_option maxRecDepth 100000 in
theorem s225_255 {d : Nat} {σ : St} {q0 q1 q2 : Nat} {x3 : Int32}  : exec d 225 255 [vR 64 q0, vR 6 q1, vR 7 q2, vI x3] [] σ = if oob (x3 + 1) (scL σ) = true then none else exec d 225 261 [vR 64 q0, vR 6 q1, vR 7 q2, vI x3] [vI (scF σ ((x3 + 1)).toNatClampNeg), vR 6 q1] σ := e_sw (e_one rfl rfl) (e_sw (e_one rfl rfl) (e_sw (e_one rfl rfl) (e_sw (e_one rfl rfl) (e_sw (e_one rfl rfl) (e_iald_s rfl)))))
set_option maxRecDepth 100000 in
theorem s225_261 {d : Nat} {σ : St} {q0 q1 q2 p0 : Nat} {x3 y1 : Int32}  : exec d 225 261 [vR 64 q0, vR 6 q1, vR 7 q2, vI x3] [vI y1, vR 6 p0] σ = if oob (x3 + 2) (scL σ) = true then none else exec d 225 266 [vR 64 q0, vR 6 q1, vR 7 q2, vI x3] [vI (scF σ ((x3 + 2)).toNatClampNeg), vI y1, vR 6 p0] σ := e_sw (e_one rfl rfl) (e_sw (e_one rfl rfl) (e_sw (e_one rfl rfl) (e_sw (e_one rfl rfl) (e_iald_s rfl))))
set_option maxRecDepth 100000 in
theorem s225_266 {d : Nat} {σ : St} {q0 q1 q2 p0 : Nat} {x3 y1 y2 : Int32}  : exec (d + 1) 225 266 [vR 64 q0, vR 6 q1, vR 7 q2, vI x3] [vI y2, vI y1, vR 6 p0] σ = (call d 100 [vR 6 p0, vI y1, vI y2] σ).bind (fun r => exec (d + 1) 225 269 [vR 64 q0, vR 6 q1, vR 7 q2, vI x3] (r.1.toList ++ []) r.2) := e_inv rfl rfl rfl rfl rfl
set_option maxRecDepth 100000 in
theorem s225_269 {d : Nat} {σ : St} {q0 q1 q2 : Nat} {x3 y0 : Int32}  : exec d 225 269 [vR 64 q0, vR 6 q1, vR 7 q2, vI x3] [vI y0] σ = if oob (x3 + 1) (scL σ) = true then none else exec d 225 275 [vR 64 q0, vR 6 q1, vR 7 q2, vI x3] [vI (scF σ ((x3 + 1)).toNatClampNeg), vR 7 q2, vI y0] σ := e_sw (e_one rfl rfl) (e_sw (e_one rfl rfl) (e_sw (e_one rfl rfl) (e_sw (e_one rfl rfl) (e_sw (e_one rfl rfl) (e_iald_s rfl)))))
set_option maxRecDepth 100000 in
theorem s225_275 {d : Nat} {σ : St} {q0 q1 q2 p1 : Nat} {x3 y0 y2 : Int32}  : exec d 225 275 [vR 64 q0, vR 6 q1, vR 7 q2, vI x3] [vI y2, vR 7 p1, vI y0] σ = if oob (x3 + 2) (scL σ) = true then none else exec d 225 280 [vR 64 q0, vR 6 q1, vR 7 q2, vI x3] [vI (scF σ ((x3 + 2)).toNatClampNeg), vI y2, vR 7 p1, vI y0] σ := e_sw (e_one rfl rfl) (e_sw (e_one rfl rfl) (e_sw (e_one rfl rfl) (e_sw (e_one rfl rfl) (e_iald_s rfl))))
set_option maxRecDepth 100000 in
theorem s225_280 {d : Nat} {σ : St} {q0 q1 q2 p1 : Nat} {x3 y0 y2 y3 : Int32}  : exec (d + 1) 225 280 [vR 64 q0, vR 6 q1, vR 7 q2, vI x3] [vI y3, vI y2, vR 7 p1, vI y0] σ = (call d 158 [vR 7 p1, vI y2, vI y3] σ).bind (fun r => exec (d + 1) 225 283 [vR 64 q0, vR 6 q1, vR 7 q2, vI x3] (r.1.toList ++ [vI y0]) r.2) := e_inv rfl rfl rfl rfl rfl
set_option maxRecDepth 100000 in
theorem s225_283 {d : Nat} {σ : St} {q0 q1 q2 : Nat} {x3 y0 y1 : Int32}  : exec d 225 283 [vR 64 q0, vR 6 q1, vR 7 q2, vI x3] [vI y1, vI y0] σ = if y0 = y1 then exec d 225 961 [vR 64 q0, vR 6 q1, vR 7 q2, vI x3] [] σ else exec d 225 286 [vR 64 q0, vR 6 q1, vR 7 q2, vI x3] [] σ := e_if (e_one rfl rfl) cnd_eq
set_option maxRecDepth 100000 in
theorem s225_286 {d : Nat} {σ : St} {q0 q1 q2 : Nat} {x3 : Int32}  : exec d 225 286 [vR 64 q0, vR 6 q1, vR 7 q2, vI x3] [] σ = some (some (vI 0), σ) := e_sw (e_one rfl rfl) (e_rtn rfl rfl rfl)
set_option maxRecDepth 100000 in
theorem s225_288 {d : Nat} {σ : St} {q0 q1 q2 : Nat} {x3 : Int32}  : exec d 225 288 [vR 64 q0, vR 6 q1, vR 7 q2, vI x3] [] σ = if oob (x3 + 1) (scL σ) = true then none else exec d 225 294 [vR 64 q0, vR 6 q1, vR 7 q2, vI x3] [vI (scF σ ((x3 + 1)).toNatClampNeg), vR 6 q1] σ := e_sw (e_one rfl rfl) (e_sw (e_one rfl rfl) (e_sw (e_one rfl rfl) (e_sw (e_one rfl rfl) (e_sw (e_one rfl rfl) (e_iald_s rfl)))))
set_option maxRecDepth 100000 in
theorem s225_294 {d : Nat} {σ : St} {q0 q1 q2 p0 : Nat} {x3 y1 : Int32}  : exec d 225 294 [vR 64 q0, vR 6 q1, vR 7 q2, vI x3] [vI y1, vR 6 p0] σ = if oob (x3 + 2) (scL σ) = true then none else exec d 225 299 [vR 64 q0, vR 6 q1, vR 7 q2, vI x3] [vI (scF σ ((x3 + 2)).toNatClampNeg), vI y1, vR 6 p0] σ := e_sw (e_one rfl rfl) (e_sw (e_one rfl rfl) (e_sw (e_one rfl rfl) (e_sw (e_one rfl rfl) (e_iald_s rfl))))
set_option maxRecDepth 100000 in
theorem s225_299 {d : Nat} {σ : St} {q0 q1 q2 p0 : Nat} {x3 y1 y2 : Int32}  : exec (d + 1) 225 299 [vR 64 q0, vR 6 q1, vR 7 q2, vI x3] [vI y2, vI y1, vR 6 p0] σ = (call d 101 [vR 6 p0, vI y1, vI y2] σ).bind (fun r => exec (d + 1) 225 302 [vR 64 q0, vR 6 q1, vR 7 q2, vI x3] (r.1.toList ++ []) r.2) := e_inv rfl rfl rfl rfl rfl
set_option maxRecDepth 100000 in
theorem s225_302 {d : Nat} {σ : St} {q0 q1 q2 : Nat} {x3 y0 : Int32}  : exec d 225 302 [vR 64 q0, vR 6 q1, vR 7 q2, vI x3] [vI y0] σ = if oob (x3 + 1) (scL σ) = true then none else exec d 225 308 [vR 64 q0, vR 6 q1, vR 7 q2, vI x3] [vI (scF σ ((x3 + 1)).toNatClampNeg), vR 7 q2, vI y0] σ := e_sw (e_one rfl rfl) (e_sw (e_one rfl rfl) (e_sw (e_one rfl rfl) (e_sw (e_one rfl rfl) (e_sw (e_one rfl rfl) (e_iald_s rfl)))))
set_option maxRecDepth 100000 in
theorem s225_308 {d : Nat} {σ : St} {q0 q1 q2 p1 : Nat} {x3 y0 y2 : Int32}  : exec d 225 308 [vR 64 q0, vR 6 q1, vR 7 q2, vI x3] [vI y2, vR 7 p1, vI y0] σ = if oob (x3 + 2) (scL σ) = true then none else exec d 225 313 [vR 64 q0, vR 6 q1, vR 7 q2, vI x3] [vI (scF σ ((x3 + 2)).toNatClampNeg), vI y2, vR 7 p1, vI y0] σ := e_sw (e_one rfl rfl) (e_sw (e_one rfl rfl) (e_sw (e_one rfl rfl) (e_sw (e_one rfl rfl) (e_iald_s rfl))))
set_option maxRecDepth 100000 in
theorem s225_313 {d : Nat} {σ : St} {q0 q1 q2 p1 : Nat} {x3 y0 y2 y3 : Int32}  : exec (d + 1) 225 313 [vR 64 q0, vR 6 q1, vR 7 q2, vI x3] [vI y3, vI y2, vR 7 p1, vI y0] σ = (call d 159 [vR 7 p1, vI y2, vI y3] σ).bind (fun r => exec (d + 1) 225 316 [vR 64 q0, vR 6 q1, vR 7 q2, vI x3] (r.1.toList ++ [vI y0]) r.2) := e_inv rfl rfl rfl rfl rfl
set_option maxRecDepth 100000 in
theorem s225_316 {d : Nat} {σ : St} {q0 q1 q2 : Nat} {x3 y0 y1 : Int32}  : exec d 225 316 [vR 64 q0, vR 6 q1, vR 7 q2, vI x3] [vI y1, vI y0] σ = if y0 = y1 then exec d 225 961 [vR 64 q0, vR 6 q1, vR 7 q2, vI x3] [] σ else exec d 225 319 [vR 64 q0, vR 6 q1, vR 7 q2, vI x3] [] σ := e_if (e_one rfl rfl) cnd_eq
set_option maxRecDepth 100000 in
theorem s225_319 {d : Nat} {σ : St} {q0 q1 q2 : Nat} {x3 : Int32}  : exec d 225 319 [vR 64 q0, vR 6 q1, vR 7 q2, vI x3] [] σ = some (some (vI 0), σ) := e_sw (e_one rfl rfl) (e_rtn rfl rfl rfl)
set_option maxRecDepth 100000 in
theorem s225_321 {d : Nat} {σ : St} {q0 q1 q2 : Nat} {x3 : Int32}  : exec d 225 321 [vR 64 q0, vR 6 q1, vR 7 q2, vI x3] [] σ = if oob (x3 + 1) (scL σ) = true then none else exec d 225 327 [vR 64 q0, vR 6 q1, vR 7 q2, vI x3] [vI (scF σ ((x3 + 1)).toNatClampNeg), vR 6 q1] σ := e_sw (e_one rfl rfl) (e_sw (e_one rfl rfl) (e_sw (e_one rfl rfl) (e_sw (e_one rfl rfl) (e_sw (e_one rfl rfl) (e_iald_s rfl)))))
set_option maxRecDepth 100000 in
theorem s225_327 {d : Nat} {σ : St} {q0 q1 q2 p0 : Nat} {x3 y1 : Int32}  : exec d 225 327 [vR 64 q0, vR 6 q1, vR 7 q2, vI x3] [vI y1, vR 6 p0] σ = if oob (x3 + 2) (scL σ) = true then none else exec d 225 332 [vR 64 q0, vR 6 q1, vR 7 q2, vI x3] [vI (scF σ ((x3 + 2)).toNatClampNeg), vI y1, vR 6 p0] σ := e_sw (e_one rfl rfl) (e_sw (e_one rfl rfl) (e_sw (e_one rfl rfl) (e_sw (e_one rfl rfl) (e_iald_s rfl))))
set_option maxRecDepth 100000 in
theorem s225_332 {d : Nat} {σ : St} {q0 q1 q2 p0 : Nat} {x3 y1 y2 : Int32}  : exec (d + 1) 225 332 [vR 64 q0, vR 6 q1, vR 7 q2, vI x3] [vI y2, vI y1, vR 6 p0] σ = (call d 102 [vR 6 p0, vI y1, vI y2] σ).bind (fun r => exec (d + 1) 225 335 [vR 64 q0, vR 6 q1, vR 7 q2, vI x3] (r.1.toList ++ []) r.2) := e_inv rfl rfl rfl rfl rfl
set_option maxRecDepth 100000 in
theorem s225_335 {d : Nat} {σ : St} {q0 q1 q2 : Nat} {x3 y0 : Int32}  : exec d 225 335 [vR 64 q0, vR 6 q1, vR 7 q2, vI x3] [vI y0] σ = if oob (x3 + 1) (scL σ) = true then none else exec d 225 341 [vR 64 q0, vR 6 q1, vR 7 q2, vI x3] [vI (scF σ ((x3 + 1)).toNatClampNeg), vR 7 q2, vI y0] σ := e_sw (e_one rfl rfl) (e_sw (e_one rfl rfl) (e_sw (e_one rfl rfl) (e_sw (e_one rfl rfl) (e_sw (e_one rfl rfl) (e_iald_s rfl)))))
set_option maxRecDepth 100000 in
theorem s225_341 {d : Nat} {σ : St} {q0 q1 q2 p1 : Nat} {x3 y0 y2 : Int32}  : exec d 225 341 [vR 64 q0, vR 6 q1, vR 7 q2, vI x3] [vI y2, vR 7 p1, vI y0] σ = if oob (x3 + 2) (scL σ) = true then none else exec d 225 346 [vR 64 q0, vR 6 q1, vR 7 q2, vI x3] [vI (scF σ ((x3 + 2)).toNatClampNeg), vI y2, vR 7 p1, vI y0] σ := e_sw (e_one rfl rfl) (e_sw (e_one rfl rfl) (e_sw (e_one rfl rfl) (e_sw (e_one rfl rfl) (e_iald_s rfl))))
set_option maxRecDepth 100000 in
theorem s225_346 {d : Nat} {σ : St} {q0 q1 q2 p1 : Nat} {x3 y0 y2 y3 : Int32}  : exec (d + 1) 225 346 [vR 64 q0, vR 6 q1, vR 7 q2, vI x3] [vI y3, vI y2, vR 7 p1, vI y0] σ = (call d 161 [vR 7 p1, vI y2, vI y3] σ).bind (fun r => exec (d + 1) 225 349 [vR 64 q0, vR 6 q1, vR 7 q2, vI x3] (r.1.toList ++ [vI y0]) r.2) := e_inv rfl rfl rfl rfl rfl
set_option maxRecDepth 100000 in
theorem s225_349 {d : Nat} {σ : St} {q0 q1 q2 : Nat} {x3 y0 y1 : Int32}  : exec d 225 349 [vR 64 q0, vR 6 q1, vR 7 q2, vI x3] [vI y1, vI y0] σ = if y0 = y1 then exec d 225 961 [vR 64 q0, vR 6 q1, vR 7 q2, vI x3] [] σ else exec d 225 352 [vR 64 q0, vR 6 q1, vR 7 q2, vI x3] [] σ := e_if (e_one rfl rfl) cnd_eq
set_option maxRecDepth 100000 in
theorem s225_352 {d : Nat} {σ : St} {q0 q1 q2 : Nat} {x3 : Int32}  : exec d 225 352 [vR 64 q0, vR 6 q1, vR 7 q2, vI x3] [] σ = some (some (vI 0), σ) := e_sw (e_one rfl rfl) (e_rtn rfl rfl rfl)
set_option maxRecDepth 100000 in
theorem s225_354 {d : Nat} {σ : St} {q0 q1 q2 : Nat} {x3 : Int32}  : exec d 225 354 [vR 64 q0, vR 6 q1, vR 7 q2, vI x3] [] σ = if oob (x3 + 1) (scL σ) = true then none else exec d 225 360 [vR 64 q0, vR 6 q1, vR 7 q2, vI x3] [vI (scF σ ((x3 + 1)).toNatClampNeg), vR 6 q1] σ := e_sw (e_one rfl rfl) (e_sw (e_one rfl rfl) (e_sw (e_one rfl rfl) (e_sw (e_one rfl rfl) (e_sw (e_one rfl rfl) (e_iald_s rfl)))))
set_option maxRecDepth 100000 in
theorem s225_360 {d : Nat} {σ : St} {q0 q1 q2 p0 : Nat} {x3 y1 : Int32}  : exec d 225 360 [vR 64 q0, vR 6 q1, vR 7 q2, vI x3] [vI y1, vR 6 p0] σ = if oob (x3 + 2) (scL σ) = true then none else exec d 225 365 [vR 64 q0, vR 6 q1, vR 7 q2, vI x3] [vI (scF σ ((x3 + 2)).toNatClampNeg), vI y1, vR 6 p0] σ := e_sw (e_one rfl rfl) (e_sw (e_one rfl rfl) (e_sw (e_one rfl rfl) (e_sw (e_one rfl rfl) (e_iald_s rfl))))
set_option maxRecDepth 100000 in
theorem s225_365 {d : Nat} {σ : St} {q0 q1 q2 p0 : Nat} {x3 y1 y2 : Int32}  : exec (d + 1) 225 365 [vR 64 q0, vR 6 q1, vR 7 q2, vI x3] [vI y2, vI y1, vR 6 p0] σ = (call d 103 [vR 6 p0, vI y1, vI y2] σ).bind (fun r => exec (d + 1) 225 368 [vR 64 q0, vR 6 q1, vR 7 q2, vI x3] (r.1.toList ++ []) r.2) := e_inv rfl rfl rfl rfl rfl
set_option maxRecDepth 100000 in
theorem s225_368 {d : Nat} {σ : St} {q0 q1 q2 : Nat} {x3 y0 : Int32}  : exec d 225 368 [vR 64 q0, vR 6 q1, vR 7 q2, vI x3] [vI y0] σ = if oob (x3 + 1) (scL σ) = true then none else exec d 225 374 [vR 64 q0, vR 6 q1, vR 7 q2, vI x3] [vI (scF σ ((x3 + 1)).toNatClampNeg), vR 7 q2, vI y0] σ := e_sw (e_one rfl rfl) (e_sw (e_one rfl rfl) (e_sw (e_one rfl rfl) (e_sw (e_one rfl rfl) (e_sw (e_one rfl rfl) (e_iald_s rfl)))))
set_option maxRecDepth 100000 in
theorem s225_374 {d : Nat} {σ : St} {q0 q1 q2 p1 : Nat} {x3 y0 y2 : Int32}  : exec d 225 374 [vR 64 q0, vR 6 q1, vR 7 q2, vI x3] [vI y2, vR 7 p1, vI y0] σ = if oob (x3 + 2) (scL σ) = true then none else exec d 225 379 [vR 64 q0, vR 6 q1, vR 7 q2, vI x3] [vI (scF σ ((x3 + 2)).toNatClampNeg), vI y2, vR 7 p1, vI y0] σ := e_sw (e_one rfl rfl) (e_sw (e_one rfl rfl) (e_sw (e_one rfl rfl) (e_sw (e_one rfl rfl) (e_iald_s rfl))))
set_option maxRecDepth 100000 in
theorem s225_379 {d : Nat} {σ : St} {q0 q1 q2 p1 : Nat} {x3 y0 y2 y3 : Int32}  : exec (d + 1) 225 379 [vR 64 q0, vR 6 q1, vR 7 q2, vI x3] [vI y3, vI y2, vR 7 p1, vI y0] σ = (call d 162 [vR 7 p1, vI y2, vI y3] σ).bind (fun r => exec (d + 1) 225 382 [vR 64 q0, vR 6 q1, vR 7 q2, vI x3] (r.1.toList ++ [vI y0]) r.2) := e_inv rfl rfl rfl rfl rfl
set_option maxRecDepth 100000 in
theorem s225_382 {d : Nat} {σ : St} {q0 q1 q2 : Nat} {x3 y0 y1 : Int32}  : exec d 225 382 [vR 64 q0, vR 6 q1, vR 7 q2, vI x3] [vI y1, vI y0] σ = if y0 = y1 then exec d 225 961 [vR 64 q0, vR 6 q1, vR 7 q2, vI x3] [] σ else exec d 225 385 [vR 64 q0, vR 6 q1, vR 7 q2, vI x3] [] σ := e_if (e_one rfl rfl) cnd_eq
set_option maxRecDepth 100000 in
theorem s225_385 {d : Nat} {σ : St} {q0 q1 q2 : Nat} {x3 : Int32}  : exec d 225 385 [vR 64 q0, vR 6 q1, vR 7 q2, vI x3] [] σ = some (some (vI 0), σ) := e_sw (e_one rfl rfl) (e_rtn rfl rfl rfl)
set_option maxRecDepth 100000 in
theorem s225_387 {d : Nat} {σ : St} {q0 q1 q2 : Nat} {x3 : Int32}  : exec d 225 387 [vR 64 q0, vR 6 q1, vR 7 q2, vI x3] [] σ = if oob (x3 + 1) (scL σ) = true then none else exec d 225 393 [vR 64 q0, vR 6 q1, vR 7 q2, vI x3] [vI (scF σ ((x3 + 1)).toNatClampNeg), vR 6 q1] σ := e_sw (e_one rfl rfl) (e_sw (e_one rfl rfl) (e_sw (e_one rfl rfl) (e_sw (e_one rfl rfl) (e_sw (e_one rfl rfl) (e_iald_s rfl)))))
set_option maxRecDepth 100000 in
theorem s225_393 {d : Nat} {σ : St} {q0 q1 q2 p0 : Nat} {x3 y1 : Int32}  : exec d 225 393 [vR 64 q0, vR 6 q1, vR 7 q2, vI x3] [vI y1, vR 6 p0] σ = if oob (x3 + 2) (scL σ) = true then none else exec d 225 398 [vR 64 q0, vR 6 q1, vR 7 q2, vI x3] [vI (scF σ ((x3 + 2)).toNatClampNeg), vI y1, vR 6 p0] σ := e_sw (e_one rfl rfl) (e_sw (e_one rfl rfl) (e_sw (e_one rfl rfl) (e_sw (e_one rfl rfl) (e_iald_s rfl))))
set_option maxRecDepth 100000 in
theorem s225_398 {d : Nat} {σ : St} {q0 q1 q2 p0 : Nat} {x3 y1 y2 : Int32}  : exec d 225 398 [vR 64 q0, vR 6 q1, vR 7 q2, vI x3] [vI y2, vI y1, vR 6 p0] σ = if oob (x3 + 3) (scL σ) = true then none else exec d 225 403 [vR 64 q0, vR 6 q1, vR 7 q2, vI x3] [vI (scF σ ((x3 + 3)).toNatClampNeg), vI y2, vI y1, vR 6 p0] σ := e_sw (e_one rfl rfl) (e_sw (e_one rfl rfl) (e_sw (e_one rfl rfl) (e_sw (e_one rfl rfl) (e_iald_s rfl))))
set_option maxRecDepth 100000 in
theorem s225_403 {d : Nat} {σ : St} {q0 q1 q2 p0 : Nat} {x3 y1 y2 y3 : Int32}  : exec (d + 1) 225 403 [vR 64 q0, vR 6 q1, vR 7 q2, vI x3] [vI y3, vI y2, vI y1, vR 6 p0] σ = (call d 104 [vR 6 p0, vI y1, vI y2, vI y3] σ).bind (fun r => exec (d + 1) 225 406 [vR 64 q0, vR 6 q1, vR 7 q2, vI x3] (r.1.toList ++ []) r.2) := e_inv rfl rfl rfl rfl rfl
set_option maxRecDepth 100000 in
theorem s225_406 {d : Nat} {σ : St} {q0 q1 q2 : Nat} {x3 y0 : Int32}  : exec d 225 406 [vR 64 q0, vR 6 q1, vR 7 q2, vI x3] [vI y0] σ = if oob (x3 + 1) (scL σ) = true then none else exec d 225 412 [vR 64 q0, vR 6 q1, vR 7 q2, vI x3] [vI (scF σ ((x3 + 1)).toNatClampNeg), vR 7 q2, vI y0] σ := e_sw (e_one rfl rfl) (e_sw (e_one rfl rfl) (e_sw (e_one rfl rfl) (e_sw (e_one rfl rfl) (e_sw (e_one rfl rfl) (e_iald_s rfl)))))
set_option maxRecDepth 100000 in
theorem s225_412 {d : Nat} {σ : St} {q0 q1 q2 p1 : Nat} {x3 y0 y2 : Int32}  : exec d 225 412 [vR 64 q0, vR 6 q1, vR 7 q2, vI x3] [vI y2, vR 7 p1, vI y0] σ = if oob (x3 + 2) (scL σ) = true then none else exec d 225 417 [vR 64 q0, vR 6 q1, vR 7 q2, vI x3] [vI (scF σ ((x3 + 2)).toNatClampNeg), vI y2, vR 7 p1, vI y0] σ := e_sw (e_one rfl rfl) (e_sw (e_one rfl rfl) (e_sw (e_one rfl rfl) (e_sw (e_one rfl rfl) (e_iald_s rfl))))
set_option maxRecDepth 100000 in
theorem s225_417 {d : Nat} {σ : St} {q0 q1 q2 p1 : Nat} {x3 y0 y2 y3 : Int32}  : exec d 225 417 [vR 64 q0, vR 6 q1, vR 7 q2, vI x3] [vI y3, vI y2, vR 7 p1, vI y0] σ = if oob (x3 + 3) (scL σ) = true then none else exec d 225 422 [vR 64 q0, vR 6 q1, vR 7 q2, vI x3] [vI (scF σ ((x3 + 3)).toNatClampNeg), vI y3, vI y2, vR 7 p1, vI y0] σ := e_sw (e_one rfl rfl) (e_sw (e_one rfl rfl) (e_sw (e_one rfl rfl) (e_sw (e_one rfl rfl) (e_iald_s rfl))))
set_option maxRecDepth 100000 in
theorem s225_422 {d : Nat} {σ : St} {q0 q1 q2 p1 : Nat} {x3 y0 y2 y3 y4 : Int32}  : exec (d + 1) 225 422 [vR 64 q0, vR 6 q1, vR 7 q2, vI x3] [vI y4, vI y3, vI y2, vR 7 p1, vI y0] σ = (call d 163 [vR 7 p1, vI y2, vI y3, vI y4] σ).bind (fun r => exec (d + 1) 225 425 [vR 64 q0, vR 6 q1, vR 7 q2, vI x3] (r.1.toList ++ [vI y0]) r.2) := e_inv rfl rfl rfl rfl rfl
set_option maxRecDepth 100000 in
theorem s225_425 {d : Nat} {σ : St} {q0 q1 q2 : Nat} {x3 y0 y1 : Int32}  : exec d 225 425 [vR 64 q0, vR 6 q1, vR 7 q2, vI x3] [vI y1, vI y0] σ = if y0 = y1 then exec d 225 961 [vR 64 q0, vR 6 q1, vR 7 q2, vI x3] [] σ else exec d 225 428 [vR 64 q0, vR 6 q1, vR 7 q2, vI x3] [] σ := e_if (e_one rfl rfl) cnd_eq
set_option maxRecDepth 100000 in
theorem s225_428 {d : Nat} {σ : St} {q0 q1 q2 : Nat} {x3 : Int32}  : exec d 225 428 [vR 64 q0, vR 6 q1, vR 7 q2, vI x3] [] σ = some (some (vI 0), σ) := e_sw (e_one rfl rfl) (e_rtn rfl rfl rfl)
set_option maxRecDepth 100000 in
theorem s225_430 {d : Nat} {σ : St} {q0 q1 q2 : Nat} {x3 : Int32}  : exec d 225 430 [vR 64 q0, vR 6 q1, vR 7 q2, vI x3] [] σ = if oob (x3 + 1) (scL σ) = true then none else exec d 225 436 [vR 64 q0, vR 6 q1, vR 7 q2, vI x3] [vI (scF σ ((x3 + 1)).toNatClampNeg), vR 6 q1] σ := e_sw (e_one rfl rfl) (e_sw (e_one rfl rfl) (e_sw (e_one rfl rfl) (e_sw (e_one rfl rfl) (e_sw (e_one rfl rfl) (e_iald_s rfl)))))
set_option maxRecDepth 100000 in
theorem s225_436 {d : Nat} {σ : St} {q0 q1 q2 p0 : Nat} {x3 y1 : Int32}  : exec d 225 436 [vR 64 q0, vR 6 q1, vR 7 q2, vI x3] [vI y1, vR 6 p0] σ = if oob (x3 + 2) (scL σ) = true then none else exec d 225 441 [vR 64 q0, vR 6 q1, vR 7 q2, vI x3] [vI (scF σ ((x3 + 2)).toNatClampNeg), vI y1, vR 6 p0] σ := e_sw (e_one rfl rfl) (e_sw (e_one rfl rfl) (e_sw (e_one rfl rfl) (e_sw (e_one rfl rfl) (e_iald_s rfl))))
set_option maxRecDepth 100000 in
theorem s225_441 {d : Nat} {σ : St} {q0 q1 q2 p0 : Nat} {x3 y1 y2 : Int32}  : exec (d + 1) 225 441 [vR 64 q0, vR 6 q1, vR 7 q2, vI x3] [vI y2, vI y1, vR 6 p0] σ = (call d 105 [vR 6 p0, vI y1, vI y2] σ).bind (fun r => exec (d + 1) 225 444 [vR 64 q0, vR 6 q1, vR 7 q2, vI x3] (r.1.toList ++ []) r.2) := e_inv rfl rfl rfl rfl rfl
set_option maxRecDepth 100000 in
theorem s225_444 {d : Nat} {σ : St} {q0 q1 q2 : Nat} {x3 y0 : Int32}  : exec d 225 444 [vR 64 q0, vR 6 q1, vR 7 q2, vI x3] [vI y0] σ = if oob (x3 + 1) (scL σ) = true then none else exec d 225 450 [vR 64 q0, vR 6 q1, vR 7 q2, vI x3] [vI (scF σ ((x3 + 1)).toNatClampNeg), vR 7 q2, vI y0] σ := e_sw (e_one rfl rfl) (e_sw (e_one rfl rfl) (e_sw (e_one rfl rfl) (e_sw (e_one rfl rfl) (e_sw (e_one rfl rfl) (e_iald_s rfl)))))
set_option maxRecDepth 100000 in
theorem s225_450 {d : Nat} {σ : St} {q0 q1 q2 p1 : Nat} {x3 y0 y2 : Int32}  : exec d 225 450 [vR 64 q0, vR 6 q1, vR 7 q2, vI x3] [vI y2, vR 7 p1, vI y0] σ = if oob (x3 + 2) (scL σ) = true then none else exec d 225 455 [vR 64 q0, vR 6 q1, vR 7 q2, vI x3] [vI (scF σ ((x3 + 2)).toNatClampNeg), vI y2, vR 7 p1, vI y0] σ := e_sw (e_one rfl rfl) (e_sw (e_one rfl rfl) (e_sw (e_one rfl rfl) (e_sw (e_one rfl rfl) (e_iald_s rfl))))
set_option maxRecDepth 100000 in
theorem s225_455 {d : Nat} {σ : St} {q0 q1 q2 p1 : Nat} {x3 y0 y2 y3 : Int32}  : exec (d + 1) 225 455 [vR 64 q0, vR 6 q1, vR 7 q2, vI x3] [vI y3, vI y2, vR 7 p1, vI y0] σ = (call d 164 [vR 7 p1, vI y2, vI y3] σ).bind (fun r => exec (d + 1) 225 458 [vR 64 q0, vR 6 q1, vR 7 q2, vI x3] (r.1.toList ++ [vI y0]) r.2) := e_inv rfl rfl rfl rfl rfl
set_option maxRecDepth 100000 in
theorem s225_458 {d : Nat} {σ : St} {q0 q1 q2 : Nat} {x3 y0 y1 : Int32}  : exec d 225 458 [vR 64 q0, vR 6 q1, vR 7 q2, vI x3] [vI y1, vI y0] σ = if y0 = y1 then exec d 225 961 [vR 64 q0, vR 6 q1, vR 7 q2, vI x3] [] σ else exec d 225 461 [vR 64 q0, vR 6 q1, vR 7 q2, vI x3] [] σ := e_if (e_one rfl rfl) cnd_eq
set_option maxRecDepth 100000 in
theorem s225_461 {d : Nat} {σ : St} {q0 q1 q2 : Nat} {x3 : Int32}  : exec d 225 461 [vR 64 q0, vR 6 q1, vR 7 q2, vI x3] [] σ = some (some (vI 0), σ) := e_sw (e_one rfl rfl) (e_rtn rfl rfl rfl)
set_option maxRecDepth 100000 in
theorem s225_463 {d : Nat} {σ : St} {q0 q1 q2 : Nat} {x3 : Int32}  : exec d 225 463 [vR 64 q0, vR 6 q1, vR 7 q2, vI x3] [] σ = if oob (x3 + 1) (scL σ) = true then none else exec d 225 469 [vR 64 q0, vR 6 q1, vR 7 q2, vI x3] [vI (scF σ ((x3 + 1)).toNatClampNeg), vR 6 q1] σ := e_sw (e_one rfl rfl) (e_sw (e_one rfl rfl) (e_sw (e_one rfl rfl) (e_sw (e_one rfl rfl) (e_sw (e_one rfl rfl) (e_iald_s rfl)))))
set_option maxRecDepth 100000 in
theorem s225_469 {d : Nat} {σ : St} {q0 q1 q2 p0 : Nat} {x3 y1 : Int32}  : exec d 225 469 [vR 64 q0, vR 6 q1, vR 7 q2, vI x3] [vI y1, vR 6 p0] σ = if oob (x3 + 2) (scL σ) = true then none else exec d 225 474 [vR 64 q0, vR 6 q1, vR 7 q2, vI x3] [vI (scF σ ((x3 + 2)).toNatClampNeg), vI y1, vR 6 p0] σ := e_sw (e_one rfl rfl) (e_sw (e_one rfl rfl) (e_sw (e_one rfl rfl) (e_sw (e_one rfl rfl) (e_iald_s rfl))))
set_option maxRecDepth 100000 in
theorem s225_474 {d : Nat} {σ : St} {q0 q1 q2 p0 : Nat} {x3 y1 y2 : Int32}  : exec d 225 474 [vR 64 q0, vR 6 q1, vR 7 q2, vI x3] [vI y2, vI y1, vR 6 p0] σ = if oob (x3 + 3) (scL σ) = true then none else exec d 225 479 [vR 64 q0, vR 6 q1, vR 7 q2, vI x3] [vI (scF σ ((x3 + 3)).toNatClampNeg), vI y2, vI y1, vR 6 p0] σ := e_sw (e_one rfl rfl) (e_sw (e_one rfl rfl) (e_sw (e_one rfl rfl) (e_sw (e_one rfl rfl) (e_iald_s rfl))))
set_option maxRecDepth 100000 in
theorem s225_479 {d : Nat} {σ : St} {q0 q1 q2 p0 : Nat} {x3 y1 y2 y3 : Int32}  : exec d 225 479 [vR 64 q0, vR 6 q1, vR 7 q2, vI x3] [vI y3, vI y2, vI y1, vR 6 p0] σ = if y3 = 0 then exec d 225 486 [vR 64 q0, vR 6 q1, vR 7 q2, vI x3] [vI y2, vI y1, vR 6 p0] σ else exec d 225 482 [vR 64 q0, vR 6 q1, vR 7 q2, vI x3] [vI y2, vI y1, vR 6 p0] σ := e_if (e_one rfl rfl) cnd_eq
set_option maxRecDepth 100000 in
theorem s225_482 {d : Nat} {σ : St} {q0 q1 q2 p0 : Nat} {x3 y1 y2 : Int32}  : exec d 225 482 [vR 64 q0, vR 6 q1, vR 7 q2, vI x3] [vI y2, vI y1, vR 6 p0] σ = exec d 225 487 [vR 64 q0, vR 6 q1, vR 7 q2, vI x3] [vI 1, vI y2, vI y1, vR 6 p0] σ := e_sw (e_one rfl rfl) (e_sw (e_one rfl rfl) (rfl))
set_option maxRecDepth 100000 in
theorem s225_486 {d : Nat} {σ : St} {q0 q1 q2 p0 : Nat} {x3 y1 y2 : Int32}  : exec d 225 486 [vR 64 q0, vR 6 q1, vR 7 q2, vI x3] [vI y2, vI y1, vR 6 p0] σ = exec d 225 487 [vR 64 q0, vR 6 q1, vR 7 q2, vI x3] [vI 0, vI y2, vI y1, vR 6 p0] σ := e_sw (e_one rfl rfl) (rfl)
set_option maxRecDepth 100000 in
theorem s225_487 {d : Nat} {σ : St} {q0 q1 q2 p0 : Nat} {x3 y1 y2 y3 : Int32}  : exec (d + 1) 225 487 [vR 64 q0, vR 6 q1, vR 7 q2, vI x3] [vI y3, vI y2, vI y1, vR 6 p0] σ = (call d 106 [vR 6 p0, vI y1, vI y2, vI y3] σ).bind (fun r => exec (d + 1) 225 490 [vR 64 q0, vR 6 q1, vR 7 q2, vI x3] (r.1.toList ++ []) r.2) := e_inv rfl rfl rfl rfl rfl
set_option maxRecDepth 100000 in
theorem s225_490 {d : Nat} {σ : St} {q0 q1 q2 : Nat} {x3 y0 : Int32}  : exec d 225 490 [vR 64 q0, vR 6 q1, vR 7 q2, vI x3] [vI y0] σ = if oob (x3 + 1) (scL σ) = true then none else exec d 225 496 [vR 64 q0, vR 6 q1, vR 7 q2, vI x3] [vI (scF σ ((x3 + 1)).toNatClampNeg), vR 7 q2, vI y0] σ := e_sw (e_one rfl rfl) (e_sw (e_one rfl rfl) (e_sw (e_one rfl rfl) (e_sw (e_one rfl rfl) (e_sw (e_one rfl rfl) (e_iald_s rfl)))))
set_option maxRecDepth 100000 in
theorem s225_496 {d : Nat} {σ : St} {q0 q1 q2 p1 : Nat} {x3 y0 y2 : Int32}  : exec d 225 496 [vR 64 q0, vR 6 q1, vR 7 q2, vI x3] [vI y2, vR 7 p1, vI y0] σ = if oob (x3 + 2) (scL σ) = true then none else exec d 225 501 [vR 64 q0, vR 6 q1, vR 7 q2, vI x3] [vI (scF σ ((x3 + 2)).toNatClampNeg), vI y2, vR 7 p1, vI y0] σ := e_sw (e_one rfl rfl) (e_sw (e_one rfl rfl) (e_sw (e_one rfl rfl) (e_sw (e_one rfl rfl) (e_iald_s rfl))))
set_option maxRecDepth 100000 in
theorem s225_501 {d : Nat} {σ : St} {q0 q1 q2 p1 : Nat} {x3 y0 y2 y3 : Int32}  : exec d 225 501 [vR 64 q0, vR 6 q1, vR 7 q2, vI x3] [vI y3, vI y2, vR 7 p1, vI y0] σ = if oob (x3 + 3) (scL σ) = true then none else exec d 225 506 [vR 64 q0, vR 6 q1, vR 7 q2, vI x3] [vI (scF σ ((x3 + 3)).toNatClampNeg), vI y3, vI y2, vR 7 p1, vI y0] σ := e_sw (e_one rfl rfl) (e_sw (e_one rfl rfl) (e_sw (e_one rfl rfl) (e_sw (e_one rfl rfl) (e_iald_s rfl))))
set_option maxRecDepth 100000 in
theorem s225_506 {d : Nat} {σ : St} {q0 q1 q2 p1 : Nat} {x3 y0 y2 y3 y4 : Int32}  : exec d 225 506 [vR 64 q0, vR 6 q1, vR 7 q2, vI x3] [vI y4, vI y3, vI y2, vR 7 p1, vI y0] σ = if y4 = 0 then exec d 225 513 [vR 64 q0, vR 6 q1, vR 7 q2, vI x3] [vI y3, vI y2, vR 7 p1, vI y0] σ else exec d 225 509 [vR 64 q0, vR 6 q1, vR 7 q2, vI x3] [vI y3, vI y2, vR 7 p1, vI y0] σ := e_if (e_one rfl rfl) cnd_eq
set_option maxRecDepth 100000 in
theorem s225_509 {d : Nat} {σ : St} {q0 q1 q2 p1 : Nat} {x3 y0 y2 y3 : Int32}  : exec d 225 509 [vR 64 q0, vR 6 q1, vR 7 q2, vI x3] [vI y3, vI y2, vR 7 p1, vI y0] σ = exec d 225 514 [vR 64 q0, vR 6 q1, vR 7 q2, vI x3] [vI 1, vI y3, vI y2, vR 7 p1, vI y0] σ := e_sw (e_one rfl rfl) (e_sw (e_one rfl rfl) (rfl))
set_option maxRecDepth 100000 in
theorem s225_513 {d : Nat} {σ : St} {q0 q1 q2 p1 : Nat} {x3 y0 y2 y3 : Int32}  : exec d 225 513 [vR 64 q0, vR 6 q1, vR 7 q2, vI x3] [vI y3, vI y2, vR 7 p1, vI y0] σ = exec d 225 514 [vR 64 q0, vR 6 q1, vR 7 q2, vI x3] [vI 0, vI y3, vI y2, vR 7 p1, vI y0] σ := e_sw (e_one rfl rfl) (rfl)
set_option maxRecDepth 100000 in
theorem s225_514 {d : Nat} {σ : St} {q0 q1 q2 p1 : Nat} {x3 y0 y2 y3 y4 : Int32}  : exec (d + 1) 225 514 [vR 64 q0, vR 6 q1, vR 7 q2, vI x3] [vI y4, vI y3, vI y2, vR 7 p1, vI y0] σ = (call d 166 [vR 7 p1, vI y2, vI y3, vI y4] σ).bind (fun r => exec (d + 1) 225 517 [vR 64 q0, vR 6 q1, vR 7 q2, vI x3] (r.1.toList ++ [vI y0]) r.2) := e_inv rfl rfl rfl rfl rfl
set_option maxRecDepth 100000 in
theorem s225_517 {d : Nat} {σ : St} {q0 q1 q2 : Nat} {x3 y0 y1 : Int32}  : exec d 225 517 [vR 64 q0, vR 6 q1, vR 7 q2, vI x3] [vI y1, vI y0] σ = if y0 = y1 then exec d 225 961 [vR 64 q0, vR 6 q1, vR 7 q2, vI x3] [] σ else exec d 225 520 [vR 64 q0, vR 6 q1, vR 7 q2, vI x3] [] σ := e_if (e_one rfl rfl) cnd_eq
set_option maxRecDepth 100000 in
theorem s225_520 {d : Nat} {σ : St} {q0 q1 q2 : Nat} {x3 : Int32}  : exec d 225 520 [vR 64 q0, vR 6 q1, vR 7 q2, vI x3] [] σ = some (some (vI 0), σ) := e_sw (e_one rfl rfl) (e_rtn rfl rfl rfl)
set_option maxRecDepth 100000 in
theorem s225_522 {d : Nat} {σ : St} {q0 q1 q2 : Nat} {x3 : Int32}  : exec d 225 522 [vR 64 q0, vR 6 q1, vR 7 q2, vI x3] [] σ = if oob (x3 + 1) (scL σ) = true then none else exec d 225 528 [vR 64 q0, vR 6 q1, vR 7 q2, vI x3] [vI (scF σ ((x3 + 1)).toNatClampNeg), vR 6 q1] σ := e_sw (e_one rfl rfl) (e_sw (e_one rfl rfl) (e_sw (e_one rfl rfl) (e_sw (e_one rfl rfl) (e_sw (e_one rfl rfl) (e_iald_s rfl)))))
set_option maxRecDepth 100000 in
theorem s225_528 {d : Nat} {σ : St} {q0 q1 q2 p0 : Nat} {x3 y1 : Int32}  : exec d 225 528 [vR 64 q0, vR 6 q1, vR 7 q2, vI x3] [vI y1, vR 6 p0] σ = if oob (x3 + 2) (scL σ) = true then none else exec d 225 533 [vR 64 q0, vR 6 q1, vR 7 q2, vI x3] [vI (scF σ ((x3 + 2)).toNatClampNeg), vI y1, vR 6 p0] σ := e_sw (e_one rfl rfl) (e_sw (e_one rfl rfl) (e_sw (e_one rfl rfl) (e_sw (e_one rfl rfl) (e_iald_s rfl))))
set_option maxRecDepth 100000 in
theorem s225_533 {d : Nat} {σ : St} {q0 q1 q2 p0 : Nat} {x3 y1 y2 : Int32}  : exec (d + 1) 225 533 [vR 64 q0, vR 6 q1, vR 7 q2, vI x3] [vI y2, vI y1, vR 6 p0] σ = (call d 107 [vR 6 p0, vI y1, vI y2] σ).bind (fun r => exec (d + 1) 225 536 [vR 64 q0, vR 6 q1, vR 7 q2, vI x3] (r.1.toList ++ []) r.2) := e_inv rfl rfl rfl rfl rfl
set_option maxRecDepth 100000 in
theorem s225_536 {d : Nat} {σ : St} {q0 q1 q2 : Nat} {x3 y0 : Int32}  : exec d 225 536 [vR 64 q0, vR 6 q1, vR 7 q2, vI x3] [vI y0] σ = if oob (x3 + 1) (scL σ) = true then none else exec d 225 542 [vR 64 q0, vR 6 q1, vR 7 q2, vI x3] [vI (scF σ ((x3 + 1)).toNatClampNeg), vR 7 q2, vI y0] σ := e_sw (e_one rfl rfl) (e_sw (e_one rfl rfl) (e_sw (e_one rfl rfl) (e_sw (e_one rfl rfl) (e_sw (e_one rfl rfl) (e_iald_s rfl)))))
set_option maxRecDepth 100000 in
theorem s225_542 {d : Nat} {σ : St} {q0 q1 q2 p1 : Nat} {x3 y0 y2 : Int32}  : exec d 225 542 [vR 64 q0, vR 6 q1, vR 7 q2, vI x3] [vI y2, vR 7 p1, vI y0] σ = if oob (x3 + 2) (scL σ) = true then none else exec d 225 547 [vR 64 q0, vR 6 q1, vR 7 q2, vI x3] [vI (scF σ ((x3 + 2)).toNatClampNeg), vI y2, vR 7 p1, vI y0] σ := e_sw (e_one rfl rfl) (e_sw (e_one rfl rfl) (e_sw (e_one rfl rfl) (e_sw (e_one rfl rfl) (e_iald_s rfl))))
set_option maxRecDepth 100000 in
theorem s225_547 {d : Nat} {σ : St} {q0 q1 q2 p1 : Nat} {x3 y0 y2 y3 : Int32}  : exec (d + 1) 225 547 [vR 64 q0, vR 6 q1, vR 7 q2, vI x3] [vI y3, vI y2, vR 7 p1, vI y0] σ = (call d 167 [vR 7 p1, vI y2, vI y3] σ).bind (fun r => exec (d + 1) 225 550 [vR 64 q0, vR 6 q1, vR 7 q2, vI x3] (r.1.toList ++ [vI y0]) r.2) := e_inv rfl rfl rfl rfl rfl
set_option maxRecDepth 100000 in
theorem s225_550 {d : Nat} {σ : St} {q0 q1 q2 : Nat} {x3 y0 y1 : Int32}  : exec d 225 550 [vR 64 q0, vR 6 q1, vR 7 q2, vI x3] [vI y1, vI y0] σ = if y0 = y1 then exec d 225 961 [vR 64 q0, vR 6 q1, vR 7 q2, vI x3] [] σ else exec d 225 553 [vR 64 q0, vR 6 q1, vR 7 q2, vI x3] [] σ := e_if (e_one rfl rfl) cnd_eq
set_option maxRecDepth 100000 in
theorem s225_553 {d : Nat} {σ : St} {q0 q1 q2 : Nat} {x3 : Int32}  : exec d 225 553 [vR 64 q0, vR 6 q1, vR 7 q2, vI x3] [] σ = some (some (vI 0), σ) := e_sw (e_one rfl rfl) (e_rtn rfl rfl rfl)
set_option maxRecDepth 100000 in
theorem s225_555 {d : Nat} {σ : St} {q0 q1 q2 : Nat} {x3 : Int32}  : exec (d + 1) 225 555 [vR 64 q0, vR 6 q1, vR 7 q2, vI x3] [] σ = (call d 108 [vR 6 q1] σ).bind (fun r => exec (d + 1) 225 559 [vR 64 q0, vR 6 q1, vR 7 q2, vI x3] (r.1.toList ++ []) r.2) := e_sw (e_one rfl rfl) (e_inv rfl rfl rfl rfl rfl)
set_option maxRecDepth 100000 in
theorem s225_559 {d : Nat} {σ : St} {q0 q1 q2 : Nat} {x3 y0 : Int32}  : exec (d + 1) 225 559 [vR 64 q0, vR 6 q1, vR 7 q2, vI x3] [vI y0] σ = (call d 168 [vR 7 q2] σ).bind (fun r => exec (d + 1) 225 563 [vR 64 q0, vR 6 q1, vR 7 q2, vI x3] (r.1.toList ++ [vI y0]) r.2) := e_sw (e_one rfl rfl) (e_inv rfl rfl rfl rfl rfl)
set_option maxRecDepth 100000 in
theorem s225_563 {d : Nat} {σ : St} {q0 q1 q2 : Nat} {x3 y0 y1 : Int32}  : exec d 225 563 [vR 64 q0, vR 6 q1, vR 7 q2, vI x3] [vI y1, vI y0] σ = if y0 = y1 then exec d 225 961 [vR 64 q0, vR 6 q1, vR 7 q2, vI x3] [] σ else exec d 225 566 [vR 64 q0, vR 6 q1, vR 7 q2, vI x3] [] σ := e_if (e_one rfl rfl) cnd_eq
set_option maxRecDepth 100000 in
theorem s225_566 {d : Nat} {σ : St} {q0 q1 q2 : Nat} {x3 : Int32}  : exec d 225 566 [vR 64 q0, vR 6 q1, vR 7 q2, vI x3] [] σ = some (some (vI 0), σ) := e_sw (e_one rfl rfl) (e_rtn rfl rfl rfl)
set_option maxRecDepth 100000 in
theorem s225_568 {d : Nat} {σ : St} {q0 q1 q2 : Nat} {x3 : Int32}  : exec (d + 1) 225 568 [vR 64 q0, vR 6 q1, vR 7 q2, vI x3] [] σ = (call d 109 [vR 6 q1] σ).bind (fun r => exec (d + 1) 225 572 [vR 64 q0, vR 6 q1, vR 7 q2, vI x3] (r.1.toList ++ []) r.2) := e_sw (e_one rfl rfl) (e_inv rfl rfl rfl rfl rfl)
set_option maxRecDepth 100000 in
theorem s225_572 {d : Nat} {σ : St} {q0 q1 q2 : Nat} {x3 y0 : Int32}  : exec (d + 1) 225 572 [vR 64 q0, vR 6 q1, vR 7 q2, vI x3] [vI y0] σ = (call d 172 [vR 7 q2] σ).bind (fun r => exec (d + 1) 225 576 [vR 64 q0, vR 6 q1, vR 7 q2, vI x3] (r.1.toList ++ [vI y0]) r.2) := e_sw (e_one rfl rfl) (e_inv rfl rfl rfl rfl rfl)
set_option maxRecDepth 100000 in
theorem s225_576 {d : Nat} {σ : St} {q0 q1 q2 : Nat} {x3 y0 y1 : Int32}  : exec d 225 576 [vR 64 q0, vR 6 q1, vR 7 q2, vI x3] [vI y1, vI y0] σ = if y0 = y1 then exec d 225 961 [vR 64 q0, vR 6 q1, vR 7 q2, vI x3] [] σ else exec d 225 579 [vR 64 q0, vR 6 q1, vR 7 q2, vI x3] [] σ := e_if (e_one rfl rfl) cnd_eq
set_option maxRecDepth 100000 in
theorem s225_579 {d : Nat} {σ : St} {q0 q1 q2 : Nat} {x3 : Int32}  : exec d 225 579 [vR 64 q0, vR 6 q1, vR 7 q2, vI x3] [] σ = some (some (vI 0), σ) := e_sw (e_one rfl rfl) (e_rtn rfl rfl rfl)
set_option maxRecDepth 100000 in
theorem s225_581 {d : Nat} {σ : St} {q0 q1 q2 : Nat} {x3 : Int32}  : exec d 225 581 [vR 64 q0, vR 6 q1, vR 7 q2, vI x3] [] σ = if oob (x3 + 1) (scL σ) = true then none else exec d 225 587 [vR 64 q0, vR 6 q1, vR 7 q2, vI x3] [vI (scF σ ((x3 + 1)).toNatClampNeg), vR 6 q1] σ := e_sw (e_one rfl rfl) (e_sw (e_one rfl rfl) (e_sw (e_one rfl rfl) (e_sw (e_one rfl rfl) (e_sw (e_one rfl rfl) (e_iald_s rfl)))))
set_option maxRecDepth 100000 in
theorem s225_587 {d : Nat} {σ : St} {q0 q1 q2 p0 : Nat} {x3 y1 : Int32}  : exec (d + 1) 225 587 [vR 64 q0, vR 6 q1, vR 7 q2, vI x3] [vI y1, vR 6 p0] σ = (call d 110 [vR 6 p0, vI y1] σ).bind (fun r => exec (d + 1) 225 590 [vR 64 q0, vR 6 q1, vR 7 q2, vI x3] (r.1.toList ++ []) r.2) := e_inv rfl rfl rfl rfl rfl
set_option maxRecDepth 100000 in
theorem s225_590 {d : Nat} {σ : St} {q0 q1 q2 : Nat} {x3 y0 : Int32}  : exec d 225 590 [vR 64 q0, vR 6 q1, vR 7 q2, vI x3] [vI y0] σ = if oob (x3 + 1) (scL σ) = true then none else exec d 225 596 [vR 64 q0, vR 6 q1, vR 7 q2, vI x3] [vI (scF σ ((x3 + 1)).toNatClampNeg), vR 7 q2, vI y0] σ := e_sw (e_one rfl rfl) (e_sw (e_one rfl rfl) (e_sw (e_one rfl rfl) (e_sw (e_one rfl rfl) (e_sw (e_one rfl rfl) (e_iald_s rfl)))))
set_option maxRecDepth 100000 in
theorem s225_596 {d : Nat} {σ : St} {q0 q1 q2 p1 : Nat} {x3 y0 y2 : Int32}  : exec (d + 1) 225 596 [vR 64 q0, vR 6 q1, vR 7 q2, vI x3] [vI y2, vR 7 p1, vI y0] σ = (call d 174 [vR 7 p1, vI y2] σ).bind (fun r => exec (d + 1) 225 599 [vR 64 q0, vR 6 q1, vR 7 q2, vI x3] (r.1.toList ++ [vI y0]) r.2) := e_inv rfl rfl rfl rfl rfl
set_option maxRecDepth 100000 in
theorem s225_599 {d : Nat} {σ : St} {q0 q1 q2 : Nat} {x3 y0 y1 : Int32}  : exec d 225 599 [vR 64 q0, vR 6 q1, vR 7 q2, vI x3] [vI y1, vI y0] σ = if y0 = y1 then exec d 225 961 [vR 64 q0, vR 6 q1, vR 7 q2, vI x3] [] σ else exec d 225 602 [vR 64 q0, vR 6 q1, vR 7 q2, vI x3] [] σ := e_if (e_one rfl rfl) cnd_eq
set_option maxRecDepth 100000 in
theorem s225_602 {d : Nat} {σ : St} {q0 q1 q2 : Nat} {x3 : Int32}  : exec d 225 602 [vR 64 q0, vR 6 q1, vR 7 q2, vI x3] [] σ = some (some (vI 0), σ) := e_sw (e_one rfl rfl) (e_rtn rfl rfl rfl)
set_option maxRecDepth 100000 in
theorem s225_604 {d : Nat} {σ : St} {q0 q1 q2 : Nat} {x3 : Int32}  : exec d 225 604 [vR 64 q0, vR 6 q1, vR 7 q2, vI x3] [] σ = if oob (x3 + 1) (scL σ) = true then none else exec d 225 610 [vR 64 q0, vR 6 q1, vR 7 q2, vI x3] [vI (scF σ ((x3 + 1)).toNatClampNeg), vR 6 q1] σ := e_sw (e_one rfl rfl) (e_sw (e_one rfl rfl) (e_sw (e_one rfl rfl) (e_sw (e_one rfl rfl) (e_sw (e_one rfl rfl) (e_iald_s rfl)))))
set_option maxRecDepth 100000 in
theorem s225_610 {d : Nat} {σ : St} {q0 q1 q2 p0 : Nat} {x3 y1 : Int32}  : exec d 225 610 [vR 64 q0, vR 6 q1, vR 7 q2, vI x3] [vI y1, vR 6 p0] σ = if oob (x3 + 2) (scL σ) = true then none else exec d 225 615 [vR 64 q0, vR 6 q1, vR 7 q2, vI x3] [vI (scF σ ((x3 + 2)).toNatClampNeg), vI y1, vR 6 p0] σ := e_sw (e_one rfl rfl) (e_sw (e_one rfl rfl) (e_sw (e_one rfl rfl) (e_sw (e_one rfl rfl) (e_iald_s rfl))))
set_option maxRecDepth 100000 in
theorem s225_615 {d : Nat} {σ : St} {q0 q1 q2 p0 : Nat} {x3 y1 y2 : Int32}  : exec d 225 615 [vR 64 q0, vR 6 q1, vR 7 q2, vI x3] [vI y2, vI y1, vR 6 p0] σ = if oob (x3 + 3) (scL σ) = true then none else exec d 225 620 [vR 64 q0, vR 6 q1, vR 7 q2, vI x3] [vI (scF σ ((x3 + 3)).toNatClampNeg), vI y2, vI y1, vR 6 p0] σ := e_sw (e_one rfl rfl) (e_sw (e_one rfl rfl) (e_sw (e_one rfl rfl) (e_sw (e_one rfl rfl) (e_iald_s rfl))))
set_option maxRecDepth 100000 in
theorem s225_620 {d : Nat} {σ : St} {q0 q1 q2 p0 : Nat} {x3 y1 y2 y3 : Int32}  : exec (d + 1) 225 620 [vR 64 q0, vR 6 q1, vR 7 q2, vI x3] [vI y3, vI y2, vI y1, vR 6 p0] σ = (call d 111 [vR 6 p0, vI y1, vI y2, vI y3] σ).bind (fun r => exec (d + 1) 225 623 [vR 64 q0, vR 6 q1, vR 7 q2, vI x3] (r.1.toList ++ []) r.2) := e_inv rfl rfl rfl rfl rfl
set_option maxRecDepth 100000 in
theorem s225_623 {d : Nat} {σ : St} {q0 q1 q2 : Nat} {x3 y0 : Int32}  : exec d 225 623 [vR 64 q0, vR 6 q1, vR 7 q2, vI x3] [vI y0] σ = if oob (x3 + 1) (scL σ) = true then none else exec d 225 629 [vR 64 q0, vR 6 q1, vR 7 q2, vI x3] [vI (scF σ ((x3 + 1)).toNatClampNeg), vR 7 q2, vI y0] σ := e_sw (e_one rfl rfl) (e_sw (e_one rfl rfl) (e_sw (e_one rfl rfl) (e_sw (e_one rfl rfl) (e_sw (e_one rfl rfl) (e_iald_s rfl)))))
set_option maxRecDepth 100000 in
theorem s225_629 {d : Nat} {σ : St} {q0 q1 q2 p1 : Nat} {x3 y0 y2 : Int32}  : exec d 225 629 [vR 64 q0, vR 6 q1, vR 7 q2, vI x3] [vI y2, vR 7 p1, vI y0] σ = if oob (x3 + 2) (scL σ) = true then none else exec d 225 634 [vR 64 q0, vR 6 q1, vR 7 q2, vI x3] [vI (scF σ ((x3 + 2)).toNatClampNeg), vI y2, vR 7 p1, vI y0] σ := e_sw (e_one rfl rfl) (e_sw (e_one rfl rfl) (e_sw (e_one rfl rfl) (e_sw (e_one rfl rfl) (e_iald_s rfl))))
set_option maxRecDepth 100000 in
theorem s225_634 {d : Nat} {σ : St} {q0 q1 q2 p1 : Nat} {x3 y0 y2 y3 : Int32}  : exec d 225 634 [vR 64 q0, vR 6 q1, vR 7 q2, vI x3] [vI y3, vI y2, vR 7 p1, vI y0] σ = if oob (x3 + 3) (scL σ) = true then none else exec d 225 639 [vR 64 q0, vR 6 q1, vR 7 q2, vI x3] [vI (scF σ ((x3 + 3)).toNatClampNeg), vI y3, vI y2, vR 7 p1, vI y0] σ := e_sw (e_one rfl rfl) (e_sw (e_one rfl rfl) (e_sw (e_one rfl rfl) (e_sw (e_one rfl rfl) (e_iald_s rfl))))
set_option maxRecDepth 100000 in
theorem s225_639 {d : Nat} {σ : St} {q0 q1 q2 p1 : Nat} {x3 y0 y2 y3 y4 : Int32}  : exec (d + 1) 225 639 [vR 64 q0, vR 6 q1, vR 7 q2, vI x3] [vI y4, vI y3, vI y2, vR 7 p1, vI y0] σ = (call d 182 [vR 7 p1, vI y2, vI y3, vI y4] σ).bind (fun r => exec (d + 1) 225 642 [vR 64 q0, vR 6 q1, vR 7 q2, vI x3] (r.1.toList ++ [vI y0]) r.2) := e_inv rfl rfl rfl rfl rfl
set_option maxRecDepth 100000 in
theorem s225_642 {d : Nat} {σ : St} {q0 q1 q2 : Nat} {x3 y0 y1 : Int32}  : exec d 225 642 [vR 64 q0, vR 6 q1, vR 7 q2, vI x3] [vI y1, vI y0] σ = if y0 = y1 then exec d 225 961 [vR 64 q0, vR 6 q1, vR 7 q2, vI x3] [] σ else exec d 225 645 [vR 64 q0, vR 6 q1, vR 7 q2, vI x3] [] σ := e_if (e_one rfl rfl) cnd_eq
set_option maxRecDepth 100000 in
theorem s225_645 {d : Nat} {σ : St} {q0 q1 q2 : Nat} {x3 : Int32}  : exec d 225 645 [vR 64 q0, vR 6 q1, vR 7 q2, vI x3] [] σ = some (some (vI 0), σ) := e_sw (e_one rfl rfl) (e_rtn rfl rfl rfl)
set_option maxRecDepth 100000 in
theorem s225_647 {d : Nat} {σ : St} {q0 q1 q2 : Nat} {x3 : Int32}  : exec d 225 647 [vR 64 q0, vR 6 q1, vR 7 q2, vI x3] [] σ = if oob (x3 + 1) (scL σ) = true then none else exec d 225 653 [vR 64 q0, vR 6 q1, vR 7 q2, vI x3] [vI (scF σ ((x3 + 1)).toNatClampNeg), vR 6 q1] σ := e_sw (e_one rfl rfl) (e_sw (e_one rfl rfl) (e_sw (e_one rfl rfl) (e_sw (e_one rfl rfl) (e_sw (e_one rfl rfl) (e_iald_s rfl)))))
set_option maxRecDepth 100000 in
theorem s225_653 {d : Nat} {σ : St} {q0 q1 q2 p0 : Nat} {x3 y1 : Int32}  : exec d 225 653 [vR 64 q0, vR 6 q1, vR 7 q2, vI x3] [vI y1, vR 6 p0] σ = if oob (x3 + 2) (scL σ) = true then none else exec d 225 658 [vR 64 q0, vR 6 q1, vR 7 q2, vI x3] [vI (scF σ ((x3 + 2)).toNatClampNeg), vI y1, vR 6 p0] σ := e_sw (e_one rfl rfl) (e_sw (e_one rfl rfl) (e_sw (e_one rfl rfl) (e_sw (e_one rfl rfl) (e_iald_s rfl))))
set_option maxRecDepth 100000 in
theorem s225_658 {d : Nat} {σ : St} {q0 q1 q2 p0 : Nat} {x3 y1 y2 : Int32}  : exec (d + 1) 225 658 [vR 64 q0, vR 6 q1, vR 7 q2, vI x3] [vI y2, vI y1, vR 6 p0] σ = (call d 112 [vR 6 p0, vI y1, vI y2] σ).bind (fun r => exec (d + 1) 225 661 [vR 64 q0, vR 6 q1, vR 7 q2, vI x3] (r.1.toList ++ []) r.2) := e_inv rfl rfl rfl rfl rfl
set_option maxRecDepth 100000 in
theorem s225_661 {d : Nat} {σ : St} {q0 q1 q2 : Nat} {x3 y0 : Int32}  : exec d 225 661 [vR 64 q0, vR 6 q1, vR 7 q2, vI x3] [vI y0] σ = if oob (x3 + 1) (scL σ) = true then none else exec d 225 667 [vR 64 q0, vR 6 q1, vR 7 q2, vI x3] [vI (scF σ ((x3 + 1)).toNatClampNeg), vR 7 q2, vI y0] σ := e_sw (e_one rfl rfl) (e_sw (e_one rfl rfl) (e_sw (e_one rfl rfl) (e_sw (e_one rfl rfl) (e_sw (e_one rfl rfl) (e_iald_s rfl)))))
set_option maxRecDepth 100000 in
theorem s225_667 {d : Nat} {σ : St} {q0 q1 q2 p1 : Nat} {x3 y0 y2 : Int32}  : exec d 225 667 [vR 64 q0, vR 6 q1, vR 7 q2, vI x3] [vI y2, vR 7 p1, vI y0] σ = if oob (x3 + 2) (scL σ) = true then none else exec d 225 672 [vR 64 q0, vR 6 q1, vR 7 q2, vI x3] [vI (scF σ ((x3 + 2)).toNatClampNeg), vI y2, vR 7 p1, vI y0] σ := e_sw (e_one rfl rfl) (e_sw (e_one rfl rfl) (e_sw (e_one rfl rfl) (e_sw (e_one rfl rfl) (e_iald_s rfl))))
set_option maxRecDepth 100000 in
theorem s225_672 {d : Nat} {σ : St} {q0 q1 q2 p1 : Nat} {x3 y0 y2 y3 : Int32}  : exec (d + 1) 225 672 [vR 64 q0, vR 6 q1, vR 7 q2, vI x3] [vI y3, vI y2, vR 7 p1, vI y0] σ = (call d 185 [vR 7 p1, vI y2, vI y3] σ).bind (fun r => exec (d + 1) 225 675 [vR 64 q0, vR 6 q1, vR 7 q2, vI x3] (r.1.toList ++ [vI y0]) r.2) := e_inv rfl rfl rfl rfl rfl
set_option maxRecDepth 100000 in
theorem s225_675 {d : Nat} {σ : St} {q0 q1 q2 : Nat} {x3 y0 y1 : Int32}  : exec d 225 675 [vR 64 q0, vR 6 q1, vR 7 q2, vI x3] [vI y1, vI y0] σ = if y0 = y1 then exec d 225 961 [vR 64 q0, vR 6 q1, vR 7 q2, vI x3] [] σ else exec d 225 678 [vR 64 q0, vR 6 q1, vR 7 q2, vI x3] [] σ := e_if (e_one rfl rfl) cnd_eq
set_option maxRecDepth 100000 in
theorem s225_678 {d : Nat} {σ : St} {q0 q1 q2 : Nat} {x3 : Int32}  : exec d 225 678 [vR 64 q0, vR 6 q1, vR 7 q2, vI x3] [] σ = some (some (vI 0), σ) := e_sw (e_one rfl rfl) (e_rtn rfl rfl rfl)
set_option maxRecDepth 100000 in
theorem s225_680 {d : Nat} {σ : St} {q0 q1 q2 : Nat} {x3 : Int32}  : exec d 225 680 [vR 64 q0, vR 6 q1, vR 7 q2, vI x3] [] σ = if oob (x3 + 1) (scL σ) = true then none else exec d 225 686 [vR 64 q0, vR 6 q1, vR 7 q2, vI x3] [vI (scF σ ((x3 + 1)).toNatClampNeg), vR 6 q1] σ := e_sw (e_one rfl rfl) (e_sw (e_one rfl rfl) (e_sw (e_one rfl rfl) (e_sw (e_one rfl rfl) (e_sw (e_one rfl rfl) (e_iald_s rfl)))))
set_option maxRecDepth 100000 in
theorem s225_686 {d : Nat} {σ : St} {q0 q1 q2 p0 : Nat} {x3 y1 : Int32}  : exec d 225 686 [vR 64 q0, vR 6 q1, vR 7 q2, vI x3] [vI y1, vR 6 p0] σ = if oob (x3 + 2) (scL σ) = true then none else exec d 225 691 [vR 64 q0, vR 6 q1, vR 7 q2, vI x3] [vI (scF σ ((x3 + 2)).toNatClampNeg), vI y1, vR 6 p0] σ := e_sw (e_one rfl rfl) (e_sw (e_one rfl rfl) (e_sw (e_one rfl rfl) (e_sw (e_one rfl rfl) (e_iald_s rfl))))
set_option maxRecDepth 100000 in
theorem s225_691 {d : Nat} {σ : St} {q0 q1 q2 p0 : Nat} {x3 y1 y2 : Int32}  : exec d 225 691 [vR 64 q0, vR 6 q1, vR 7 q2, vI x3] [vI y2, vI y1, vR 6 p0] σ = if oob (x3 + 3) (scL σ) = true then none else exec d 225 696 [vR 64 q0, vR 6 q1, vR 7 q2, vI x3] [vI (scF σ ((x3 + 3)).toNatClampNeg), vI y2, vI y1, vR 6 p0] σ := e_sw (e_one rfl rfl) (e_sw (e_one rfl rfl) (e_sw (e_one rfl rfl) (e_sw (e_one rfl rfl) (e_iald_s rfl))))
set_option maxRecDepth 100000 in
theorem s225_696 {d : Nat} {σ : St} {q0 q1 q2 p0 : Nat} {x3 y1 y2 y3 : Int32}  : exec (d + 1) 225 696 [vR 64 q0, vR 6 q1, vR 7 q2, vI x3] [vI y3, vI y2, vI y1, vR 6 p0] σ = (call d 113 [vR 6 p0, vI y1, vI y2, vI y3] σ).bind (fun r => exec (d + 1) 225 699 [vR 64 q0, vR 6 q1, vR 7 q2, vI x3] (r.1.toList ++ []) r.2) := e_inv rfl rfl rfl rfl rfl
set_option maxRecDepth 100000 in
theorem s225_699 {d : Nat} {σ : St} {q0 q1 q2 : Nat} {x3 y0 : Int32}  : exec d 225 699 [vR 64 q0, vR 6 q1, vR 7 q2, vI x3] [vI y0] σ = if oob (x3 + 1) (scL σ) = true then none else exec d 225 705 [vR 64 q0, vR 6 q1, vR 7 q2, vI x3] [vI (scF σ ((x3 + 1)).toNatClampNeg), vR 7 q2, vI y0] σ := e_sw (e_one rfl rfl) (e_sw (e_one rfl rfl) (e_sw (e_one rfl rfl) (e_sw (e_one rfl rfl) (e_sw (e_one rfl rfl) (e_iald_s rfl)))))
set_option maxRecDepth 100000 in
theorem s225_705 {d : Nat} {σ : St} {q0 q1 q2 p1 : Nat} {x3 y0 y2 : Int32}  : exec d 225 705 [vR 64 q0, vR 6 q1, vR 7 q2, vI x3] [vI y2, vR 7 p1, vI y0] σ = if oob (x3 + 2) (scL σ) = true then none else exec d 225 710 [vR 64 q0, vR 6 q1, vR 7 q2, vI x3] [vI (scF σ ((x3 + 2)).toNatClampNeg), vI y2, vR 7 p1, vI y0] σ := e_sw (e_one rfl rfl) (e_sw (e_one rfl rfl) (e_sw (e_one rfl rfl) (e_sw (e_one rfl rfl) (e_iald_s rfl))))
set_option maxRecDepth 100000 in
theorem s225_710 {d : Nat} {σ : St} {q0 q1 q2 p1 : Nat} {x3 y0 y2 y3 : Int32}  : exec d 225 710 [vR 64 q0, vR 6 q1, vR 7 q2, vI x3] [vI y3, vI y2, vR 7 p1, vI y0] σ = if oob (x3 + 3) (scL σ) = true then none else exec d 225 715 [vR 64 q0, vR 6 q1, vR 7 q2, vI x3] [vI (scF σ ((x3 + 3)).toNatClampNeg), vI y3, vI y2, vR 7 p1, vI y0] σ := e_sw (e_one rfl rfl) (e_sw (e_one rfl rfl) (e_sw (e_one rfl rfl) (e_sw (e_one rfl rfl) (e_iald_s rfl))))
set_option maxRecDepth 100000 in
theorem s225_715 {d : Nat} {σ : St} {q0 q1 q2 p1 : Nat} {x3 y0 y2 y3 y4 : Int32}  : exec (d + 1) 225 715 [vR 64 q0, vR 6 q1, vR 7 q2, vI x3] [vI y4, vI y3, vI y2, vR 7 p1, vI y0] σ = (call d 187 [vR 7 p1, vI y2, vI y3, vI y4] σ).bind (fun r => exec (d + 1) 225 718 [vR 64 q0, vR 6 q1, vR 7 q2, vI x3] (r.1.toList ++ [vI y0]) r.2) := e_inv rfl rfl rfl rfl rfl
set_option maxRecDepth 100000 in
theorem s225_718 {d : Nat} {σ : St} {q0 q1 q2 : Nat} {x3 y0 y1 : Int32}  : exec d 225 718 [vR 64 q0, vR 6 q1, vR 7 q2, vI x3] [vI y1, vI y0] σ = if y0 = y1 then exec d 225 961 [vR 64 q0, vR 6 q1, vR 7 q2, vI x3] [] σ else exec d 225 721 [vR 64 q0, vR 6 q1, vR 7 q2, vI x3] [] σ := e_if (e_one rfl rfl) cnd_eq
set_option maxRecDepth 100000 in
theorem s225_721 {d : Nat} {σ : St} {q0 q1 q2 : Nat} {x3 : Int32}  : exec d 225 721 [vR 64 q0, vR 6 q1, vR 7 q2, vI x3] [] σ = some (some (vI 0), σ) := e_sw (e_one rfl rfl) (e_rtn rfl rfl rfl)
set_option maxRecDepth 100000 in
theorem s225_723 {d : Nat} {σ : St} {q0 q1 q2 : Nat} {x3 : Int32}  : exec d 225 723 [vR 64 q0, vR 6 q1, vR 7 q2, vI x3] [] σ = if oob (x3 + 1) (scL σ) = true then none else exec d 225 729 [vR 64 q0, vR 6 q1, vR 7 q2, vI x3] [vI (scF σ ((x3 + 1)).toNatClampNeg), vR 6 q1] σ := e_sw (e_one rfl rfl) (e_sw (e_one rfl rfl) (e_sw (e_one rfl rfl) (e_sw (e_one rfl rfl) (e_sw (e_one rfl rfl) (e_iald_s rfl)))))
set_option maxRecDepth 100000 in
theorem s225_729 {d : Nat} {σ : St} {q0 q1 q2 p0 : Nat} {x3 y1 : Int32}  : exec d 225 729 [vR 64 q0, vR 6 q1, vR 7 q2, vI x3] [vI y1, vR 6 p0] σ = if oob (x3 + 2) (scL σ) = true then none else exec d 225 734 [vR 64 q0, vR 6 q1, vR 7 q2, vI x3] [vI (scF σ ((x3 + 2)).toNatClampNeg), vI y1, vR 6 p0] σ := e_sw (e_one rfl rfl) (e_sw (e_one rfl rfl) (e_sw (e_one rfl rfl) (e_sw (e_one rfl rfl) (e_iald_s rfl))))
set_option maxRecDepth 100000 in
theorem s225_734 {d : Nat} {σ : St} {q0 q1 q2 p0 : Nat} {x3 y1 y2 : Int32}  : exec (d + 1) 225 734 [vR 64 q0, vR 6 q1, vR 7 q2, vI x3] [vI y2, vI y1, vR 6 p0] σ = (call d 114 [vR 6 p0, vI y1, vI y2] σ).bind (fun r => exec (d + 1) 225 737 [vR 64 q0, vR 6 q1, vR 7 q2, vI x3] (r.1.toList ++ []) r.2) := e_inv rfl rfl rfl rfl rfl
set_option maxRecDepth 100000 in
theorem s225_737 {d : Nat} {σ : St} {q0 q1 q2 : Nat} {x3 y0 : Int32}  : exec d 225 737 [vR 64 q0, vR 6 q1, vR 7 q2, vI x3] [vI y0] σ = if oob (x3 + 1) (scL σ) = true then none else exec d 225 743 [vR 64 q0, vR 6 q1, vR 7 q2, vI x3] [vI (scF σ ((x3 + 1)).toNatClampNeg), vR 7 q2, vI y0] σ := e_sw (e_one rfl rfl) (e_sw (e_one rfl rfl) (e_sw (e_one rfl rfl) (e_sw (e_one rfl rfl) (e_sw (e_one rfl rfl) (e_iald_s rfl)))))
set_option maxRecDepth 100000 in
theorem s225_743 {d : Nat} {σ : St} {q0 q1 q2 p1 : Nat} {x3 y0 y2 : Int32}  : exec d 225 743 [vR 64 q0, vR 6 q1, vR 7 q2, vI x3] [vI y2, vR 7 p1, vI y0] σ = if oob (x3 + 2) (scL σ) = true then none else exec d 225 748 [vR 64 q0, vR 6 q1, vR 7 q2, vI x3] [vI (scF σ ((x3 + 2)).toNatClampNeg), vI y2, vR 7 p1, vI y0] σ := e_sw (e_one rfl rfl) (e_sw (e_one rfl rfl) (e_sw (e_one rfl rfl) (e_sw (e_one rfl rfl) (e_iald_s rfl))))
set_option maxRecDepth 100000 in
theorem s225_748 {d : Nat} {σ : St} {q0 q1 q2 p1 : Nat} {x3 y0 y2 y3 : Int32}  : exec (d + 1) 225 748 [vR 64 q0, vR 6 q1, vR 7 q2, vI x3] [vI y3, vI y2, vR 7 p1, vI y0] σ = (call d 190 [vR 7 p1, vI y2, vI y3] σ).bind (fun r => exec (d + 1) 225 751 [vR 64 q0, vR 6 q1, vR 7 q2, vI x3] (r.1.toList ++ [vI y0]) r.2) := e_inv rfl rfl rfl rfl rfl
set_option maxRecDepth 100000 in
theorem s225_751 {d : Nat} {σ : St} {q0 q1 q2 : Nat} {x3 y0 y1 : Int32}  : exec d 225 751 [vR 64 q0, vR 6 q1, vR 7 q2, vI x3] [vI y1, vI y0] σ = if y0 = y1 then exec d 225 961 [vR 64 q0, vR 6 q1, vR 7 q2, vI x3] [] σ else exec d 225 754 [vR 64 q0, vR 6 q1, vR 7 q2, vI x3] [] σ := e_if (e_one rfl rfl) cnd_eq
set_option maxRecDepth 100000 in
theorem s225_754 {d : Nat} {σ : St} {q0 q1 q2 : Nat} {x3 : Int32}  : exec d 225 754 [vR 64 q0, vR 6 q1, vR 7 q2, vI x3] [] σ = some (some (vI 0), σ) := e_sw (e_one rfl rfl) (e_rtn rfl rfl rfl)
set_option maxRecDepth 100000 in
theorem s225_756 {d : Nat} {σ : St} {q0 q1 q2 : Nat} {x3 : Int32}  : exec d 225 756 [vR 64 q0, vR 6 q1, vR 7 q2, vI x3] [] σ = if oob (x3 + 1) (scL σ) = true then none else exec d 225 762 [vR 64 q0, vR 6 q1, vR 7 q2, vI x3] [vI (scF σ ((x3 + 1)).toNatClampNeg), vR 6 q1] σ := e_sw (e_one rfl rfl) (e_sw (e_one rfl rfl) (e_sw (e_one rfl rfl) (e_sw (e_one rfl rfl) (e_sw (e_one rfl rfl) (e_iald_s rfl)))))
set_option maxRecDepth 100000 in
theorem s225_762 {d : Nat} {σ : St} {q0 q1 q2 p0 : Nat} {x3 y1 : Int32}  : exec d 225 762 [vR 64 q0, vR 6 q1, vR 7 q2, vI x3] [vI y1, vR 6 p0] σ = if oob (x3 + 2) (scL σ) = true then none else exec d 225 767 [vR 64 q0, vR 6 q1, vR 7 q2, vI x3] [vI (scF σ ((x3 + 2)).toNatClampNeg), vI y1, vR 6 p0] σ := e_sw (e_one rfl rfl) (e_sw (e_one rfl rfl) (e_sw (e_one rfl rfl) (e_sw (e_one rfl rfl) (e_iald_s rfl))))
set_option maxRecDepth 100000 in
theorem s225_767 {d : Nat} {σ : St} {q0 q1 q2 p0 : Nat} {x3 y1 y2 : Int32}  : exec d 225 767 [vR 64 q0, vR 6 q1, vR 7 q2, vI x3] [vI y2, vI y1, vR 6 p0] σ = if oob (x3 + 3) (scL σ) = true then none else exec d 225 772 [vR 64 q0, vR 6 q1, vR 7 q2, vI x3] [vI (scF σ ((x3 + 3)).toNatClampNeg), vI y2, vI y1, vR 6 p0] σ := e_sw (e_one rfl rfl) (e_sw (e_one rfl rfl) (e_sw (e_one rfl rfl) (e_sw (e_one rfl rfl) (e_iald_s rfl))))
set_option maxRecDepth 100000 in
theorem s225_772 {d : Nat} {σ : St} {q0 q1 q2 p0 : Nat} {x3 y1 y2 y3 : Int32}  : exec (d + 1) 225 772 [vR 64 q0, vR 6 q1, vR 7 q2, vI x3] [vI y3, vI y2, vI y1, vR 6 p0] σ = (call d 115 [vR 6 p0, vI y1, vI y2, vI y3] σ).bind (fun r => exec (d + 1) 225 775 [vR 64 q0, vR 6 q1, vR 7 q2, vI x3] (r.1.toList ++ []) r.2) := e_inv rfl rfl rfl rfl rfl
set_option maxRecDepth 100000 in
theorem s225_775 {d : Nat} {σ : St} {q0 q1 q2 : Nat} {x3 y0 : Int32}  : exec d 225 775 [vR 64 q0, vR 6 q1, vR 7 q2, vI x3] [vI y0] σ = if oob (x3 + 1) (scL σ) = true then none else exec d 225 781 [vR 64 q0, vR 6 q1, vR 7 q2, vI x3] [vI (scF σ ((x3 + 1)).toNatClampNeg), vR 7 q2, vI y0] σ := e_sw (e_one rfl rfl) (e_sw (e_one rfl rfl) (e_sw (e_one rfl rfl) (e_sw (e_one rfl rfl) (e_sw (e_one rfl rfl) (e_iald_s rfl)))))
set_option maxRecDepth 100000 in
theorem s225_781 {d : Nat} {σ : St} {q0 q1 q2 p1 : Nat} {x3 y0 y2 : Int32}  : exec d 225 781 [vR 64 q0, vR 6 q1, vR 7 q2, vI x3] [vI y2, vR 7 p1, vI y0] σ = if oob (x3 + 2) (scL σ) = true then none else exec d 225 786 [vR 64 q0, vR 6 q1, vR 7 q2, vI x3] [vI (scF σ ((x3 + 2)).toNatClampNeg), vI y2, vR 7 p1, vI y0] σ := e_sw (e_one rfl rfl) (e_sw (e_one rfl rfl) (e_sw (e_one rfl rfl) (e_sw (e_one rfl rfl) (e_iald_s rfl))))
set_option maxRecDepth 100000 in
theorem s225_786 {d : Nat} {σ : St} {q0 q1 q2 p1 : Nat} {x3 y0 y2 y3 : Int32}  : exec d 225 786 [vR 64 q0, vR 6 q1, vR 7 q2, vI x3] [vI y3, vI y2, vR 7 p1, vI y0] σ = if oob (x3 + 3) (scL σ) = true then none else exec d 225 791 [vR 64 q0, vR 6 q1, vR 7 q2, vI x3] [vI (scF σ ((x3 + 3)).toNatClampNeg), vI y3, vI y2, vR 7 p1, vI y0] σ := e_sw (e_one rfl rfl) (e_sw (e_one rfl rfl) (e_sw (e_one rfl rfl) (e_sw (e_one rfl rfl) (e_iald_s rfl))))
set_option maxRecDepth 100000 in
theorem s225_791 {d : Nat} {σ : St} {q0 q1 q2 p1 : Nat} {x3 y0 y2 y3 y4 : Int32}  : exec (d + 1) 225 791 [vR 64 q0, vR 6 q1, vR 7 q2, vI x3] [vI y4, vI y3, vI y2, vR 7 p1, vI y0] σ = (call d 191 [vR 7 p1, vI y2, vI y3, vI y4] σ).bind (fun r => exec (d + 1) 225 794 [vR 64 q0, vR 6 q1, vR 7 q2, vI x3] (r.1.toList ++ [vI y0]) r.2) := e_inv rfl rfl rfl rfl rfl
set_option maxRecDepth 100000 in
theorem s225_794 {d : Nat} {σ : St} {q0 q1 q2 : Nat} {x3 y0 y1 : Int32}  : exec d 225 794 [vR 64 q0, vR 6 q1, vR 7 q2, vI x3] [vI y1, vI y0] σ = if y0 = y1 then exec d 225 961 [vR 64 q0, vR 6 q1, vR 7 q2, vI x3] [] σ else exec d 225 797 [vR 64 q0, vR 6 q1, vR 7 q2, vI x3] [] σ := e_if (e_one rfl rfl) cnd_eq
set_option maxRecDepth 100000 in
theorem s225_797 {d : Nat} {σ : St} {q0 q1 q2 : Nat} {x3 : Int32}  : exec d 225 797 [vR 64 q0, vR 6 q1, vR 7 q2, vI x3] [] σ = some (some (vI 0), σ) := e_sw (e_one rfl rfl) (e_rtn rfl rfl rfl)
set_option maxRecDepth 100000 in
theorem s225_799 {d : Nat} {σ : St} {q0 q1 q2 : Nat} {x3 : Int32}  : exec (d + 1) 225 799 [vR 64 q0, vR 6 q1, vR 7 q2, vI x3] [] σ = (call d 116 [vR 6 q1] σ).bind (fun r => exec (d + 1) 225 803 [vR 64 q0, vR 6 q1, vR 7 q2, vI x3] (r.1.toList ++ []) r.2) := e_sw (e_one rfl rfl) (e_inv rfl rfl rfl rfl rfl)
set_option maxRecDepth 100000 in
theorem s225_803 {d : Nat} {σ : St} {q0 q1 q2 : Nat} {x3 y0 : Int32}  : exec (d + 1) 225 803 [vR 64 q0, vR 6 q1, vR 7 q2, vI x3] [vI y0] σ = (call d 192 [vR 7 q2] σ).bind (fun r => exec (d + 1) 225 807 [vR 64 q0, vR 6 q1, vR 7 q2, vI x3] (r.1.toList ++ [vI y0]) r.2) := e_sw (e_one rfl rfl) (e_inv rfl rfl rfl rfl rfl)
set_option maxRecDepth 100000 in
theorem s225_807 {d : Nat} {σ : St} {q0 q1 q2 : Nat} {x3 y0 y1 : Int32}  : exec d 225 807 [vR 64 q0, vR 6 q1, vR 7 q2, vI x3] [vI y1, vI y0] σ = if y0 = y1 then exec d 225 961 [vR 64 q0, vR 6 q1, vR 7 q2, vI x3] [] σ else exec d 225 810 [vR 64 q0, vR 6 q1, vR 7 q2, vI x3] [] σ := e_if (e_one rfl rfl) cnd_eq
set_option maxRecDepth 100000 in
theorem s225_810 {d : Nat} {σ : St} {q0 q1 q2 : Nat} {x3 : Int32}  : exec d 225 810 [vR 64 q0, vR 6 q1, vR 7 q2, vI x3] [] σ = some (some (vI 0), σ) := e_sw (e_one rfl rfl) (e_rtn rfl rfl rfl)
set_option maxRecDepth 100000 in
theorem s225_812 {d : Nat} {σ : St} {q0 q1 q2 : Nat} {x3 : Int32}  : exec d 225 812 [vR 64 q0, vR 6 q1, vR 7 q2, vI x3] [] σ = if oob (x3 + 1) (scL σ) = true then none else exec d 225 818 [vR 64 q0, vR 6 q1, vR 7 q2, vI x3] [vI (scF σ ((x3 + 1)).toNatClampNeg), vR 6 q1] σ := e_sw (e_one rfl rfl) (e_sw (e_one rfl rfl) (e_sw (e_one rfl rfl) (e_sw (e_one rfl rfl) (e_sw (e_one rfl rfl) (e_iald_s rfl)))))
set_option maxRecDepth 100000 in
theorem s225_818 {d : Nat} {σ : St} {q0 q1 q2 p0 : Nat} {x3 y1 : Int32}  : exec d 225 818 [vR 64 q0, vR 6 q1, vR 7 q2, vI x3] [vI y1, vR 6 p0] σ = if oob (x3 + 2) (scL σ) = true then none else exec d 225 823 [vR 64 q0, vR 6 q1, vR 7 q2, vI x3] [vI (scF σ ((x3 + 2)).toNatClampNeg), vI y1, vR 6 p0] σ := e_sw (e_one rfl rfl) (e_sw (e_one rfl rfl) (e_sw (e_one rfl rfl) (e_sw (e_one rfl rfl) (e_iald_s rfl))))
set_option maxRecDepth 100000 in
theorem s225_823 {d : Nat} {σ : St} {q0 q1 q2 p0 : Nat} {x3 y1 y2 : Int32}  : exec d 225 823 [vR 64 q0, vR 6 q1, vR 7 q2, vI x3] [vI y2, vI y1, vR 6 p0] σ = if oob (x3 + 3) (scL σ) = true then none else exec d 225 828 [vR 64 q0, vR 6 q1, vR 7 q2, vI x3] [vI (scF σ ((x3 + 3)).toNatClampNeg), vI y2, vI y1, vR 6 p0] σ := e_sw (e_one rfl rfl) (e_sw (e_one rfl rfl) (e_sw (e_one rfl rfl) (e_sw (e_one rfl rfl) (e_iald_s rfl))))
set_option maxRecDepth 100000 in
theorem s225_828 {d : Nat} {σ : St} {q0 q1 q2 p0 : Nat} {x3 y1 y2 y3 : Int32}  : exec (d + 1) 225 828 [vR 64 q0, vR 6 q1, vR 7 q2, vI x3] [vI y3, vI y2, vI y1, vR 6 p0] σ = (call d 117 [vR 6 p0, vI y1, vI y2, vI y3] σ).bind (fun r => exec (d + 1) 225 831 [vR 64 q0, vR 6 q1, vR 7 q2, vI x3] (r.1.toList ++ []) r.2) := e_inv rfl rfl rfl rfl rfl
set_option maxRecDepth 100000 in
theorem s225_831 {d : Nat} {σ : St} {q0 q1 q2 : Nat} {x3 y0 : Int32}  : exec d 225 831 [vR 64 q0, vR 6 q1, vR 7 q2, vI x3] [vI y0] σ = if oob (x3 + 1) (scL σ) = true then none else exec d 225 837 [vR 64 q0, vR 6 q1, vR 7 q2, vI x3] [vI (scF σ ((x3 + 1)).toNatClampNeg), vR 7 q2, vI y0] σ := e_sw (e_one rfl rfl) (e_sw (e_one rfl rfl) (e_sw (e_one rfl rfl) (e_sw (e_one rfl rfl) (e_sw (e_one rfl rfl) (e_iald_s rfl)))))
set_option maxRecDepth 100000 in
theorem s225_837 {d : Nat} {σ : St} {q0 q1 q2 p1 : Nat} {x3 y0 y2 : Int32}  : exec d 225 837 [vR 64 q0, vR 6 q1, vR 7 q2, vI x3] [vI y2, vR 7 p1, vI y0] σ = if oob (x3 + 2) (scL σ) = true then none else exec d 225 842 [vR 64 q0, vR 6 q1, vR 7 q2, vI x3] [vI (scF σ ((x3 + 2)).toNatClampNeg), vI y2, vR 7 p1, vI y0] σ := e_sw (e_one rfl rfl) (e_sw (e_one rfl rfl) (e_sw (e_one rfl rfl) (e_sw (e_one rfl rfl) (e_iald_s rfl))))
set_option maxRecDepth 100000 in
theorem s225_842 {d : Nat} {σ : St} {q0 q1 q2 p1 : Nat} {x3 y0 y2 y3 : Int32}  : exec d 225 842 [vR 64 q0, vR 6 q1, vR 7 q2, vI x3] [vI y3, vI y2, vR 7 p1, vI y0] σ = if oob (x3 + 3) (scL σ) = true then none else exec d 225 847 [vR 64 q0, vR 6 q1, vR 7 q2, vI x3] [vI (scF σ ((x3 + 3)).toNatClampNeg), vI y3, vI y2, vR 7 p1, vI y0] σ := e_sw (e_one rfl rfl) (e_sw (e_one rfl rfl) (e_sw (e_one rfl rfl) (e_sw (e_one rfl rfl) (e_iald_s rfl))))
set_option maxRecDepth 100000 in
theorem s225_847 {d : Nat} {σ : St} {q0 q1 q2 p1 : Nat} {x3 y0 y2 y3 y4 : Int32}  : exec (d + 1) 225 847 [vR 64 q0, vR 6 q1, vR 7 q2, vI x3] [vI y4, vI y3, vI y2, vR 7 p1, vI y0] σ = (call d 199 [vR 7 p1, vI y2, vI y3, vI y4] σ).bind (fun r => exec (d + 1) 225 850 [vR 64 q0, vR 6 q1, vR 7 q2, vI x3] (r.1.toList ++ [vI y0]) r.2) := e_inv rfl rfl rfl rfl rfl
set_option maxRecDepth 100000 in
theorem s225_850 {d : Nat} {σ : St} {q0 q1 q2 : Nat} {x3 y0 y1 : Int32}  : exec d 225 850 [vR 64 q0, vR 6 q1, vR 7 q2, vI x3] [vI y1, vI y0] σ = if y0 = y1 then exec d 225 961 [vR 64 q0, vR 6 q1, vR 7 q2, vI x3] [] σ else exec d 225 853 [vR 64 q0, vR 6 q1, vR 7 q2, vI x3] [] σ := e_if (e_one rfl rfl) cnd_eq
set_option maxRecDepth 100000 in
theorem s225_853 {d : Nat} {σ : St} {q0 q1 q2 : Nat} {x3 : Int32}  : exec d 225 853 [vR 64 q0, vR 6 q1, vR 7 q2, vI x3] [] σ = some (some (vI 0), σ) := e_sw (e_one rfl rfl) (e_rtn rfl rfl rfl)
set_option maxRecDepth 100000 in
theorem s225_855 {d : Nat} {σ : St} {q0 q1 q2 : Nat} {x3 : Int32}  : exec d 225 855 [vR 64 q0, vR 6 q1, vR 7 q2, vI x3] [] σ = if oob (x3 + 1) (scL σ) = true then none else exec d 225 861 [vR 64 q0, vR 6 q1, vR 7 q2, vI x3] [vI (scF σ ((x3 + 1)).toNatClampNeg), vR 6 q1] σ := e_sw (e_one rfl rfl) (e_sw (e_one rfl rfl) (e_sw (e_one rfl rfl) (e_sw (e_one rfl rfl) (e_sw (e_one rfl rfl) (e_iald_s rfl)))))
set_option maxRecDepth 100000 in
theorem s225_861 {d : Nat} {σ : St} {q0 q1 q2 p0 : Nat} {x3 y1 : Int32}  : exec d 225 861 [vR 64 q0, vR 6 q1, vR 7 q2, vI x3] [vI y1, vR 6 p0] σ = if oob (x3 + 2) (scL σ) = true then none else exec d 225 866 [vR 64 q0, vR 6 q1, vR 7 q2, vI x3] [vI (scF σ ((x3 + 2)).toNatClampNeg), vI y1, vR 6 p0] σ := e_sw (e_one rfl rfl) (e_sw (e_one rfl rfl) (e_sw (e_one rfl rfl) (e_sw (e_one rfl rfl) (e_iald_s rfl))))
set_option maxRecDepth 100000 in
theorem s225_866 {d : Nat} {σ : St} {q0 q1 q2 p0 : Nat} {x3 y1 y2 : Int32}  : exec d 225 866 [vR 64 q0, vR 6 q1, vR 7 q2, vI x3] [vI y2, vI y1, vR 6 p0] σ = if oob (x3 + 3) (scL σ) = true then none else exec d 225 871 [vR 64 q0, vR 6 q1, vR 7 q2, vI x3] [vI (scF σ ((x3 + 3)).toNatClampNeg), vI y2, vI y1, vR 6 p0] σ := e_sw (e_one rfl rfl) (e_sw (e_one rfl rfl) (e_sw (e_one rfl rfl) (e_sw (e_one rfl rfl) (e_iald_s rfl))))
set_option maxRecDepth 100000 in
theorem s225_871 {d : Nat} {σ : St} {q0 q1 q2 p0 : Nat} {x3 y1 y2 y3 : Int32}  : exec (d + 1) 225 871 [vR 64 q0, vR 6 q1, vR 7 q2, vI x3] [vI y3, vI y2, vI y1, vR 6 p0] σ = (call d 118 [vR 6 p0, vI y1, vI y2, vI y3] σ).bind (fun r => exec (d + 1) 225 874 [vR 64 q0, vR 6 q1, vR 7 q2, vI x3] (r.1.toList ++ []) r.2) := e_inv rfl rfl rfl rfl rfl
set_option maxRecDepth 100000 in
theorem s225_874 {d : Nat} {σ : St} {q0 q1 q2 : Nat} {x3 y0 : Int32}  : exec d 225 874 [vR 64 q0, vR 6 q1, vR 7 q2, vI x3] [vI y0] σ = if oob (x3 + 1) (scL σ) = true then none else exec d 225 880 [vR 64 q0, vR 6 q1, vR 7 q2, vI x3] [vI (scF σ ((x3 + 1)).toNatClampNeg), vR 7 q2, vI y0] σ := e_sw (e_one rfl rfl) (e_sw (e_one rfl rfl) (e_sw (e_one rfl rfl) (e_sw (e_one rfl rfl) (e_sw (e_one rfl rfl) (e_iald_s rfl)))))
set_option maxRecDepth 100000 in
theorem s225_880 {d : Nat} {σ : St} {q0 q1 q2 p1 : Nat} {x3 y0 y2 : Int32}  : exec d 225 880 [vR 64 q0, vR 6 q1, vR 7 q2, vI x3] [vI y2, vR 7 p1, vI y0] σ = if oob (x3 + 2) (scL σ) = true then none else exec d 225 885 [vR 64 q0, vR 6 q1, vR 7 q2, vI x3] [vI (scF σ ((x3 + 2)).toNatClampNeg), vI y2, vR 7 p1, vI y0] σ := e_sw (e_one rfl rfl) (e_sw (e_one rfl rfl) (e_sw (e_one rfl rfl) (e_sw (e_one rfl rfl) (e_iald_s rfl))))
set_option maxRecDepth 100000 in
theorem s225_885 {d : Nat} {σ : St} {q0 q1 q2 p1 : Nat} {x3 y0 y2 y3 : Int32}  : exec d 225 885 [vR 64 q0, vR 6 q1, vR 7 q2, vI x3] [vI y3, vI y2, vR 7 p1, vI y0] σ = if oob (x3 + 3) (scL σ) = true then none else exec d 225 890 [vR 64 q0, vR 6 q1, vR 7 q2, vI x3] [vI (scF σ ((x3 + 3)).toNatClampNeg), vI y3, vI y2, vR 7 p1, vI y0] σ := e_sw (e_one rfl rfl) (e_sw (e_one rfl rfl) (e_sw (e_one rfl rfl) (e_sw (e_one rfl rfl) (e_iald_s rfl))))
set_option maxRecDepth 100000 in
theorem s225_890 {d : Nat} {σ : St} {q0 q1 q2 p1 : Nat} {x3 y0 y2 y3 y4 : Int32}  : exec (d + 1) 225 890 [vR 64 q0, vR 6 q1, vR 7 q2, vI x3] [vI y4, vI y3, vI y2, vR 7 p1, vI y0] σ = (call d 201 [vR 7 p1, vI y2, vI y3, vI y4] σ).bind (fun r => exec (d + 1) 225 893 [vR 64 q0, vR 6 q1, vR 7 q2, vI x3] (r.1.toList ++ [vI y0]) r.2) := e_inv rfl rfl rfl rfl rfl
set_option maxRecDepth 100000 in
theorem s225_893 {d : Nat} {σ : St} {q0 q1 q2 : Nat} {x3 y0 y1 : Int32}  : exec d 225 893 [vR 64 q0, vR 6 q1, vR 7 q2, vI x3] [vI y1, vI y0] σ = if y0 = y1 then exec d 225 961 [vR 64 q0, vR 6 q1, vR 7 q2, vI x3] [] σ else exec d 225 896 [vR 64 q0, vR 6 q1, vR 7 q2, vI x3] [] σ := e_if (e_one rfl rfl) cnd_eq
set_option maxRecDepth 100000 in
theorem s225_896 {d : Nat} {σ : St} {q0 q1 q2 : Nat} {x3 : Int32}  : exec d 225 896 [vR 64 q0, vR 6 q1, vR 7 q2, vI x3] [] σ = some (some (vI 0), σ) := e_sw (e_one rfl rfl) (e_rtn rfl rfl rfl)
set_option maxRecDepth 100000 in
theorem s225_898 {d : Nat} {σ : St} {q0 q1 q2 : Nat} {x3 : Int32}  : exec (d + 1) 225 898 [vR 64 q0, vR 6 q1, vR 7 q2, vI x3] [] σ = (call d 119 [vR 6 q1] σ).bind (fun r => exec (d + 1) 225 902 [vR 64 q0, vR 6 q1, vR 7 q2, vI x3] (r.1.toList ++ []) r.2) := e_sw (e_one rfl rfl) (e_inv rfl rfl rfl rfl rfl)
set_option maxRecDepth 100000 in
theorem s225_902 {d : Nat} {σ : St} {q0 q1 q2 : Nat} {x3 y0 : Int32}  : exec (d + 1) 225 902 [vR 64 q0, vR 6 q1, vR 7 q2, vI x3] [vI y0] σ = (call d 202 [vR 7 q2] σ).bind (fun r => exec (d + 1) 225 906 [vR 64 q0, vR 6 q1, vR 7 q2, vI x3] (r.1.toList ++ [vI y0]) r.2) := e_sw (e_one rfl rfl) (e_inv rfl rfl rfl rfl rfl)
set_option maxRecDepth 100000 in
theorem s225_906 {d : Nat} {σ : St} {q0 q1 q2 : Nat} {x3 y0 y1 : Int32}  : exec d 225 906 [vR 64 q0, vR 6 q1, vR 7 q2, vI x3] [vI y1, vI y0] σ = if y0 = y1 then exec d 225 961 [vR 64 q0, vR 6 q1, vR 7 q2, vI x3] [] σ else exec d 225 909 [vR 64 q0, vR 6 q1, vR 7 q2, vI x3] [] σ := e_if (e_one rfl rfl) cnd_eq
set_option maxRecDepth 100000 in
theorem s225_909 {d : Nat} {σ : St} {q0 q1 q2 : Nat} {x3 : Int32}  : exec d 225 909 [vR 64 q0, vR 6 q1, vR 7 q2, vI x3] [] σ = some (some (vI 0), σ) := e_sw (e_one rfl rfl) (e_rtn rfl rfl rfl)
set_option maxRecDepth 100000 in
theorem s225_911 {d : Nat} {σ : St} {q0 q1 q2 : Nat} {x3 : Int32}  : exec (d + 1) 225 911 [vR 64 q0, vR 6 q1, vR 7 q2, vI x3] [] σ = (call d 120 [vR 6 q1] σ).bind (fun r => exec (d + 1) 225 915 [vR 64 q0, vR 6 q1, vR 7 q2, vI x3] (r.1.toList ++ []) r.2) := e_sw (e_one rfl rfl) (e_inv rfl rfl rfl rfl rfl)
set_option maxRecDepth 100000 in
theorem s225_915 {d : Nat} {σ : St} {q0 q1 q2 : Nat} {x3 y0 : Int32}  : exec (d + 1) 225 915 [vR 64 q0, vR 6 q1, vR 7 q2, vI x3] [vI y0] σ = (call d 203 [vR 7 q2] σ).bind (fun r => exec (d + 1) 225 919 [vR 64 q0, vR 6 q1, vR 7 q2, vI x3] (r.1.toList ++ [vI y0]) r.2) := e_sw (e_one rfl rfl) (e_inv rfl rfl rfl rfl rfl)
set_option maxRecDepth 100000 in
theorem s225_919 {d : Nat} {σ : St} {q0 q1 q2 : Nat} {x3 y0 y1 : Int32}  : exec d 225 919 [vR 64 q0, vR 6 q1, vR 7 q2, vI x3] [vI y1, vI y0] σ = if y0 = y1 then exec d 225 961 [vR 64 q0, vR 6 q1, vR 7 q2, vI x3] [] σ else exec d 225 922 [vR 64 q0, vR 6 q1, vR 7 q2, vI x3] [] σ := e_if (e_one rfl rfl) cnd_eq
set_option maxRecDepth 100000 in
theorem s225_922 {d : Nat} {σ : St} {q0 q1 q2 : Nat} {x3 : Int32}  : exec d 225 922 [vR 64 q0, vR 6 q1, vR 7 q2, vI x3] [] σ = some (some (vI 0), σ) := e_sw (e_one rfl rfl) (e_rtn rfl rfl rfl)
set_option maxRecDepth 100000 in
theorem s225_924 {d : Nat} {σ : St} {q0 q1 q2 : Nat} {x3 : Int32}  : exec d 225 924 [vR 64 q0, vR 6 q1, vR 7 q2, vI x3] [] σ = if oob (x3 + 1) (scL σ) = true then none else exec d 225 930 [vR 64 q0, vR 6 q1, vR 7 q2, vI x3] [vI (scF σ ((x3 + 1)).toNatClampNeg), vR 6 q1] σ := e_sw (e_one rfl rfl) (e_sw (e_one rfl rfl) (e_sw (e_one rfl rfl) (e_sw (e_one rfl rfl) (e_sw (e_one rfl rfl) (e_iald_s rfl)))))
set_option maxRecDepth 100000 in
theorem s225_930 {d : Nat} {σ : St} {q0 q1 q2 p0 : Nat} {x3 y1 : Int32}  : exec (d + 1) 225 930 [vR 64 q0, vR 6 q1, vR 7 q2, vI x3] [vI y1, vR 6 p0] σ = (call d 121 [vR 6 p0, vI y1] σ).bind (fun r => exec (d + 1) 225 933 [vR 64 q0, vR 6 q1, vR 7 q2, vI x3] (r.1.toList ++ []) r.2) := e_inv rfl rfl rfl rfl rfl
set_option maxRecDepth 100000 in
theorem s225_933 {d : Nat} {σ : St} {q0 q1 q2 : Nat} {x3 y0 : Int32}  : exec d 225 933 [vR 64 q0, vR 6 q1, vR 7 q2, vI x3] [vI y0] σ = if oob (x3 + 1) (scL σ) = true then none else exec d 225 939 [vR 64 q0, vR 6 q1, vR 7 q2, vI x3] [vI (scF σ ((x3 + 1)).toNatClampNeg), vR 7 q2, vI y0] σ := e_sw (e_one rfl rfl) (e_sw (e_one rfl rfl) (e_sw (e_one rfl rfl) (e_sw (e_one rfl rfl) (e_sw (e_one rfl rfl) (e_iald_s rfl)))))
set_option maxRecDepth 100000 in
theorem s225_939 {d : Nat} {σ : St} {q0 q1 q2 p1 : Nat} {x3 y0 y2 : Int32}  : exec (d + 1) 225 939 [vR 64 q0, vR 6 q1, vR 7 q2, vI x3] [vI y2, vR 7 p1, vI y0] σ = (call d 211 [vR 7 p1, vI y2] σ).bind (fun r => exec (d + 1) 225 942 [vR 64 q0, vR 6 q1, vR 7 q2, vI x3] (r.1.toList ++ [vI y0]) r.2) := e_inv rfl rfl rfl rfl rfl
set_option maxRecDepth 100000 in
theorem s225_942 {d : Nat} {σ : St} {q0 q1 q2 : Nat} {x3 y0 y1 : Int32}  : exec d 225 942 [vR 64 q0, vR 6 q1, vR 7 q2, vI x3] [vI y1, vI y0] σ = if y0 = y1 then exec d 225 961 [vR 64 q0, vR 6 q1, vR 7 q2, vI x3] [] σ else exec d 225 945 [vR 64 q0, vR 6 q1, vR 7 q2, vI x3] [] σ := e_if (e_one rfl rfl) cnd_eq
set_option maxRecDepth 100000 in
theorem s225_945 {d : Nat} {σ : St} {q0 q1 q2 : Nat} {x3 : Int32}  : exec d 225 945 [vR 64 q0, vR 6 q1, vR 7 q2, vI x3] [] σ = some (some (vI 0), σ) := e_sw (e_one rfl rfl) (e_rtn rfl rfl rfl)
set_option maxRecDepth 100000 in
theorem s225_947 {d : Nat} {σ : St} {q0 q1 q2 : Nat} {x3 : Int32}  : exec (d + 1) 225 947 [vR 64 q0, vR 6 q1, vR 7 q2, vI x3] [] σ = (call d 122 [vR 6 q1] σ).bind (fun r => exec (d + 1) 225 951 [vR 64 q0, vR 6 q1, vR 7 q2, vI x3] (r.1.toList ++ []) r.2) := e_sw (e_one rfl rfl) (e_inv rfl rfl rfl rfl rfl)
set_option maxRecDepth 100000 in
theorem s225_951 {d : Nat} {σ : St} {q0 q1 q2 : Nat} {x3 : Int32} {y0 : Int64}  : exec (d + 1) 225 951 [vR 64 q0, vR 6 q1, vR 7 q2, vI x3] [vL y0] σ = (call d 215 [vR 7 q2] σ).bind (fun r => exec (d + 1) 225 955 [vR 64 q0, vR 6 q1, vR 7 q2, vI x3] (r.1.toList ++ [vL y0]) r.2) := e_sw (e_one rfl rfl) (e_inv rfl rfl rfl rfl rfl)
set_option maxRecDepth 100000 in
theorem s225_955 {d : Nat} {σ : St} {q0 q1 q2 : Nat} {x3 : Int32} {y0 y1 : Int64}  : exec d 225 955 [vR 64 q0, vR 6 q1, vR 7 q2, vI x3] [vL y1, vL y0] σ = if (lg_cmp y0 y1) = 0 then exec d 225 961 [vR 64 q0, vR 6 q1, vR 7 q2, vI x3] [] σ else exec d 225 959 [vR 64 q0, vR 6 q1, vR 7 q2, vI x3] [] σ := e_sw (e_one rfl rfl) (e_if (e_one rfl rfl) cnd_eq)
set_option maxRecDepth 100000 in
theorem s225_959 {d : Nat} {σ : St} {q0 q1 q2 : Nat} {x3 : Int32}  : exec d 225 959 [vR 64 q0, vR 6 q1, vR 7 q2, vI x3] [] σ = some (some (vI 0), σ) := e_sw (e_one rfl rfl) (e_rtn rfl rfl rfl)
set_option maxRecDepth 100000 in
theorem s225_961 {d : Nat} {σ : St} {q0 q1 q2 : Nat} {x3 : Int32}  : exec d 225 961 [vR 64 q0, vR 6 q1, vR 7 q2, vI x3] [] σ = exec d 225 18 [vR 64 q0, vR 6 q1, vR 7 q2, vI (x3 + 4)] [] σ := e_sw (e_one rfl rfl) (e_sw (e_one rfl rfl) (rfl))
set_option maxRecDepth 100000 in
theorem s225_967 {d : Nat} {σ : St} {q0 q1 q2 : Nat} {x3 : Int32}  : exec d 225 967 [vR 64 q0, vR 6 q1, vR 7 q2, vI x3] [] σ = some (some (vI 1), σ) := e_sw (e_one rfl rfl) (e_rtn rfl rfl rfl)

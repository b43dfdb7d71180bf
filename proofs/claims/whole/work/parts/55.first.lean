/-! The first store: both hold nothing. -/
def sq0 : Sq := (0, fun _ => 0, fun _ => 0, fun _ => 0, fun _ => 0, fun _ => 0, fun _ => 0, 0, 0, 0, 0)
def sg0 : Sg := (0, fun _ => 0, fun _ => none, fun _ => 0)
def X00 : Ab := (sq0, sg0, 0, fun _ => 0, none, 0, 0, 0)
theorem ar_z0 {L t q : Nat} {f : Nat → Int32} (h : t ≠ 7) : ar (z0 L f) t q = fun _ => 0 := by
  show (if t = 7 then (fun k => if k = 30 then (-1 : Int32) else 0) else fun _ => 0) = fun _ => 0
  rw [if_neg h]
theorem li_C (L : Nat) (f : Nat → Int32) : CAt (z0 L f) X00 := by
  refine ⟨⟨⟨rfl, rfl, rfl, rfl, fun a h => absurd h (Nat.not_lt_zero a)⟩, rfl, rfl, rfl, rfl, rfl, rfl, rfl⟩, ⟨rfl, by decide, fun i h => absurd h (Nat.not_lt_zero i)⟩, ⟨rfl, by decide, fun i h => absurd h (Nat.not_lt_zero i)⟩, rfl, rfl, rfl, rfl⟩
theorem li_M (L : Nat) (f : Nat → Int32) : MAt (z0 L f) X00 := by
  refine ⟨⟨rfl, fun a _ => rfl, fun j _ => rfl⟩, fun j _ => rfl, ⟨rfl, by decide, fun i h => absurd h (Nat.not_lt_zero i)⟩, ⟨rfl, by decide, fun i h => absurd h (Nat.not_lt_zero i)⟩, ⟨fun a h => absurd h (Nat.not_lt_zero a), fun a h => absurd h (Nat.not_lt_zero a), fun a h => absurd h (Nat.not_lt_zero a), rfl, rfl, rfl, rfl⟩, ⟨none, rfl, fun x h => by cases h⟩, rfl, rfl, rfl⟩
theorem li_W : WfX X00 := by
  refine ⟨⟨Or.inl rfl, by decide, fun j _ => Or.inl rfl, fun _ _ _ _ => rfl, fun _ _ => rfl, fun j _ _ => rfl, fun j _ => ⟨0, by decide, rfl⟩, by decide⟩, fun i h => absurd h (Nat.not_lt_zero i), by decide, by decide, by decide, fun s g h => by cases h⟩
theorem li_0 (L : Nat) (f : Nat → Int32) : LI L f 0 (z0 L f) := ⟨X00, li_C L f, li_M L f, li_W, Nat.le_refl 0, fun t q j h1 _ => by rw [ar_z0 (by omega)], rfl, rfl⟩
theorem ls_16 {d : Nat} {σ : St} {q0 q1 q2 : Nat} : exec d 225 16 [vR 64 q0, vR 6 q1, vR 7 q2, vN] [] σ = exec d 225 18 [vR 64 q0, vR 6 q1, vR 7 q2, vI 0] [] σ := e_sw (e_one rfl rfl) (e_sw (e_one rfl rfl) (rfl))
theorem law_run {L : Nat} {f : Nat → Int32} (hL : L ≤ 256) : ∃ (n : Nat) (σ' : St), run 13 n 225 16 [vR 64 0, vR 6 0, vR 7 0, vN] [] (z0 L f) = some (some (vI 1), σ') := by
  obtain ⟨σ', h⟩ := law_loop (d := 0) hL 64 0 (by omega) (by omega) (z0 L f) (li_0 L f)
  obtain ⟨n, hn⟩ := exec_iff.mp (ls_16.trans h)
  exact ⟨n, σ', hn⟩

/-! The first memory. -/
def m0I (k : Nat) : Nat → Int32 := if k = 1 then (fun j => if j = 4 then 10 else 0) else if k = 7 then hatC 10 else if k = 13 then hatC 10 else if k = 18 then hatC 10 else if k = 24 then (fun j => if j = 3 then 8 else if j = 4 then 8 else if j = 10 then -9 else 0) else if k = 33 then (fun j => if j = 3 then 8 else if j = 4 then 8 else if j = 10 then -9 else 0) else if k = 44 then upd (fun _ => 0) 0 8 else if k = 45 then upd (fun _ => 0) 0 8 else if k = 61 then hatC 10 else fun _ => 0
def M0 : Mem := (m0I, fun _ _ => 0, fun k j => if k = 0 then (if j = 5 then 24 else if j = 6 then 33 else 0) else 0)
def Sc0 : Sc := (8, 8, fun _ _ => false, 0, fun _ _ => 0, 0, fun _ _ => 0)
def N0 : Nt := (0, fun _ _ => 0, 0, fun _ _ => 0, fun _ => 2)
theorem hatC_at {i : Nat} (h : i < 10) : hatC 10 i = i32 2 := by
  rcases (show i = 0 ∨ i = 1 ∨ i = 2 ∨ i = 3 ∨ i = 4 ∨ i = 5 ∨ i = 6 ∨ i = 7 ∨ i = 8 ∨ i = 9 by omega) with rfl | rfl | rfl | rfl | rfl | rfl | rfl | rfl | rfl | rfl <;> decide
theorem Inv_0 : Inv M0 := by
  have hN : okN N0 := ⟨Nat.zero_le _, fun f hf => absurd hf (Nat.not_lt_zero f), Nat.zero_le _, fun f hf => absurd hf (Nat.not_lt_zero f), fun i _ => ⟨show (0 : Int) ≤ 2 by decide, show (2 : Int) ≤ 2 by decide⟩⟩
  have hS : okS Sc0 := ⟨by decide, by decide, by decide, by decide, fun p hp => absurd hp (Nat.not_lt_zero p), fun p hp => absurd hp (Nat.not_lt_zero p), fun x y h => absurd h (by intro h; cases h)⟩
  refine ⟨24, 33, Sc0, N0, false, false, N0, N0, 0, ⟨Or.inl rfl, Or.inr rfl, by decide, rfl, rfl⟩, ⟨hS, Or.inl rfl, ⟨by decide, by decide, by decide, by decide, fun x y _ _ _ _ => rfl, fun p j hp => absurd hp (Nat.not_lt_zero p), fun p j hp => absurd hp (Nat.not_lt_zero p)⟩, Or.inl (by decide), fun i hi => absurd hi (Nat.not_lt_zero i)⟩, ?_, ?_, ⟨hN, ?_, ?_⟩, ⟨rfl, rfl, fun h => absurd h (by decide)⟩, ⟨rfl, rfl, fun h => absurd h (by decide)⟩, ⟨by decide, rfl, rfl, fun j hj => absurd hj (Nat.not_lt_zero j)⟩, rfl, rfl⟩
  · have h : wc Sc0 = 0 := by
      have key : ∀ n, fb_ct (fun k => cWl Sc0 ((k % 12 : Nat) : Int) ((k / 12 : Nat) : Int)) n = 0 := by
        intro n
        induction n with
        | zero => rfl
        | succ n ih => rw [fb_ct_succ, ih]; rfl
      exact key 144
    rw [h]
    rfl
  · refine ⟨by decide, by decide, by decide, by decide, ?_, ?_, ?_⟩
    all_goals first | exact fun x y _ _ _ _ => rfl | exact fun p j hp => absurd hp (Nat.not_lt_zero p)
  · exact ⟨rfl, rfl, fun f j hf => absurd hf (Nat.not_lt_zero f), fun f j hf => absurd hf (Nat.not_lt_zero f), fun i hi => hatC_at hi⟩
  · exact ⟨rfl, rfl, fun f j hf => absurd hf (Nat.not_lt_zero f), fun f j hf => absurd hf (Nat.not_lt_zero f), fun i hi => by rw [show 10 * 0 + i = i by omega]; exact hatC_at hi⟩

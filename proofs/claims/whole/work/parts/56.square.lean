/-! square: the call. -/
theorem kept_L {x1 : Int32} (M : Mem) : fX4_square_69L FU x1 0 M = some (x1, sI (sI M 20 0 0) 20 1 0) := by
  have st : ∀ (n k : Nat) (Mx : Mem), k < 2 → fX4_square_69L (n + 1) x1 (i32 (k : Int)) Mx = fX4_square_69L n x1 (i32 ((k + 1 : Nat) : Int)) (sI Mx 20 k 0) := by
    intro n k Mx hk
    show fX4_square_69B (fX4_square_69L n) _ _ Mx = _
    unfold fX4_square_69B
    rw [show (2 : Int32) = i32 2 from rfl, if_neg (fun z => absurd ((i32_le (by omega)).mp z) (by omega)), show (0 : Int32) = i32 (bI false) from rfl, wZ_b (by omega), show ((k : Int)).toNat = k by omega]
    simp only [Option.bind_some, Option.bind_none]
    rw [show i32 (k : Int) + 1 = i32 ((k + 1 : Nat) : Int) from i32_add _ 1]
  have fin : ∀ (n : Nat) (Mx : Mem), fX4_square_69L (n + 1) x1 (i32 ((2 : Nat) : Int)) Mx = some (x1, Mx) := by
    intro n Mx
    show fX4_square_69B (fX4_square_69L n) _ _ Mx = _
    unfold fX4_square_69B
    rw [if_pos (by decide)]
  have hFU : FU = 99997 + 1 + 1 + 1 := rfl
  rw [hFU, show (0 : Int32) = i32 ((0 : Nat) : Int) from rfl, st _ 0 M (by decide), st _ 1 _ (by decide), fin]
  rfl
theorem shD_9 {S : Sc} (hS : okS S) {i : Nat} (hi : i < cI S) : shD S 9 i = shP S i := by
  have hq := (hS.2.2.2.2.2.1 i hi).2.2.2.1
  unfold shD shP mn
  by_cases z : cQd S i 3 < 9
  · rw [if_pos z]
  · rw [if_neg z, show cQd S i 3 = 9 by omega]
theorem RM.fi {S : Sc} (hS : okS S) {M M' : Mem} (h : RM S M) (k : Fi M M') : RM S M' := by
  obtain ⟨h1, h2, h3, h4, h5, h6, h7⟩ := h
  obtain ⟨-, -, -, ⟨k1, k2, k3, k4⟩, k5, k6, k7⟩ := k
  have s3 := hS.2.2.1
  have s4 := hS.2.2.2.1
  refine ⟨by rw [k1]; exact h1, by rw [k2]; exact h2, by rw [k3]; exact h3, by rw [k4]; exact h4, fun x y x0 x1 y0 y1 => ?_, fun p j hp hj => ?_, fun p j hp hj => ?_⟩
  · rw [k5 _ (by omega)]; exact h5 x y x0 x1 y0 y1
  · rw [k6 _ (by omega)]; exact h6 p j hp hj
  · rw [k7 _ (by omega)]; exact h7 p j hp hj
theorem tx_of {L : Nat} {M : Mem} (h : Tx L M) : ∃ t, okT t L ∧ TxC t L M ∧ TxM t L M := by
  obtain ⟨h1, h2, h3, h4⟩ := h
  refine ⟨fun j => (M.1 2 j).toInt, ⟨h1, fun j hj => ?_⟩, ⟨h2, fun j hj => i32_of _⟩, ⟨h3, fun j hj => ?_⟩⟩
  · obtain ⟨z, hz, e⟩ := (h4 j hj).2
    show -128 ≤ (M.1 2 j).toInt ∧ (M.1 2 j).toInt ≤ 127
    rw [e, i32_toInt (by omega) (by omega)]; exact hz
  · rw [← (h4 j hj).1]; exact i32_of _
theorem o_square {M : Mem} (h : Inv M) : ∃ v M1 M2, fX4_square M = some (v, M1) ∧ fX5_square M1 = some (v, M2) ∧ Inv M2 := by
  obtain ⟨b, sp, S, N, K0, K1, N0, N1, L, h⟩ := h
  obtain ⟨⟨u1, u2, u3, u4, u5⟩, i1, c1, d1, ⟨p1, p2, p3⟩, f1, g1, h1, j1, k1⟩ := id h
  obtain ⟨hS, hb', hR, hC, hSh⟩ := id i1
  have hbb := sc_b u1
  have hsb := sc_b u2
  have hb2 : b = 24 ∨ b = 33 := u1
  have hs2 : sp = 24 ∨ sp = 33 := u2
  obtain ⟨t, hT, hxC, hxM⟩ := tx_of h1
  obtain ⟨M1, m1, m2, m3, m4, m5⟩ := rInto_C hT (b := sp) (by omega) hxC
  have h400 := hT.1
  rcases m5 with ⟨S', i', e1, e2, e3, e4, e5, e6⟩ | ⟨q, e1, e2⟩
  · -- all is well told
    have hC1 : Cached sp S' M1 := Or.inl e6
    obtain ⟨M2, s1, s2, s3, s4, s5⟩ := showAll_C e3 e4 hC1 (a := sp + 6) (Or.inl rfl) (d := 9) (by decide)
    have M3 : ∃ M3, M3 = sI (sR (sR M2 0 5 sp) 0 6 b) 1 2 0 := ⟨_, rfl⟩
    obtain ⟨M3, hM3⟩ := M3
    have hM4 := fill_C (a := 7) (n0 := 10) (by decide) (v := 2) (M := M3)
    generalize hM4' : sW M3 7 (fun j => if j < 10 then 2 else M3.1 7 j) = M4 at hM4
    have s05 : M2.2.2 0 5 = b := by rw [s5.1, m1]; exact u4
    have s06 : M2.2.2 0 6 = sp := by rw [s5.1, m1]; exact u5
    have hcl : fX4_square M = some (i32 (i' : Int), sI (sI M4 20 0 0) 20 1 0) := by
      unfold fX4_square
      rw [u5, m4, e1, Option.bind_some]
      rw [if_pos (show (0 : Int32) ≤ i32 (i' : Int) from (i32_le (a := 0) (by omega)).mpr (by omega))]
      rw [show M1.2.2 0 6 = sp by rw [m1]; exact u5, show (9 : Int32) = i32 9 from rfl, s1, Option.bind_some]
      rw [show wH M2 0 5 (M2.2.2 0 6) = some (sR M2 0 5 sp) by unfold wH; rw [s06], Option.bind_some, show wH (sR M2 0 5 sp) 0 6 (M2.2.2 0 5) = some (sR (sR M2 0 5 sp) 0 6 b) by unfold wH; rw [s05], Option.bind_some, show wF (sR (sR M2 0 5 sp) 0 6 b) 1 2 0 = some M3 by rw [hM3]; rfl, Option.bind_some]
      unfold fX1_tellNothingOfHat
      rw [show 4 + 3 = 7 from rfl, hM4, Option.bind_some, Option.bind_some, kept_L]
    -- the rows that the class has touched
    have r1 : M3.1 = (sI M2 1 2 0).1 := by rw [hM3]; rfl
    have o3 : ∀ a, a ≠ 1 → M3.1 a = M2.1 a := fun a ha => by rw [r1, sI_ne ha]
    have o4 : ∀ a, a ≠ 7 → M4.1 a = M3.1 a := fun a ha => by rw [← hM4', sW_ne ha]
    have M5 : ∃ M5, M5 = sI (sI M4 20 0 0) 20 1 0 := ⟨_, rfl⟩
    obtain ⟨M5, hM5⟩ := M5
    rw [← hM5] at hcl
    have o5 : ∀ a, a ≠ 20 → M5.1 a = M4.1 a := fun a ha => by rw [hM5, sI_ne ha, sI_ne ha]
    have oS : ∀ a, a ≠ 1 → a ≠ 7 → a ≠ 20 → M5.1 a = M2.1 a := fun a z1 z2 z3 => by rw [o5 a z3, o4 a z2, o3 a z1]
    have oM : ∀ a, a ≠ 1 → a ≠ 3 → a ≠ 7 → a ≠ 20 → (a < sp ∨ sp + 6 < a) → M5.1 a = M.1 a := fun a z1 z2 z3 z4 z5 => by
      rw [oS a z1 z3 z4, s5.2.1 a (by omega) (by omega) (by omega) (by omega), m2 a z1 z2 (by omega)]
    have h52 : M5.2 = (sR (sR M2 0 5 sp) 0 6 b).2 := by rw [hM5, ← hM4', hM3]; rfl
    have hx5 : TxM t L M5 := ⟨by rw [oM 42 (by decide) (by decide) (by decide) (by decide) (by omega)]; exact hxM.1, fun j hj => by rw [oM 43 (by decide) (by decide) (by decide) (by decide) (by omega)]; exact hxM.2 j hj⟩
    obtain ⟨M6, q1, q2⟩ := square_M hT hx5
    rcases q2 with ⟨i2, S2, w1, w2, w3, w4⟩ | ⟨q, w1, w2⟩
    · rw [e1] at w1
      injection w1 with w11 w12
      injection w12 with w12
      have hii : i' = i2 := by omega
      subst hii
      subst w12
      obtain ⟨M7, y1, y2, y3, y4, y5, y6, y7, y8⟩ := end_M e3 w4 w3 (i32 (i' : Int))
      have oF : ∀ a, (a < 42 ∨ 50 < a) → a ≠ 61 → a ≠ 62 → M7.1 a = M5.1 a := fun a z1 z2 z3 => by rw [y4 a (by omega) (by omega) z2 z3, q1.2.1 a (by omega)]
      refine ⟨i32 (i' : Int), M5, M7, hcl, by rw [w2]; exact y1, sp, b, S', (nF N, nFd N, nS N, nSd N, fun _ => 2), false, false, N0, N1, 0, ?_⟩
      have h72 : M7.2 = (sR (sR M2 0 5 sp) 0 6 b).2 := by rw [y2, q1.1, h52]
      have rsp : ∀ a, sp ≤ a → a ≤ sp + 6 → M7.1 a = M2.1 a := fun a z1 z2 => by rw [oF a (by omega) (by omega) (by omega), oS a (by omega) (by omega) (by omega)]
      have row : ∀ a, a ≠ 1 → a ≠ 3 → a ≠ 7 → a ≠ 20 → (a < sp ∨ sp + 6 < a) → (a < 42 ∨ 50 < a) → a ≠ 61 → a ≠ 62 → M7.1 a = M.1 a := fun a z1 z2 z3 z4 z5 z6 z7 z8 => by rw [oF a z6 z7 z8, oM a z1 z2 z3 z4 z5]
      refine ⟨⟨u2, u1, Ne.symm u3, ?_, ?_⟩, ⟨e3, u2, ?_, ?_, ?_⟩, ?_, y3, ⟨?_, ?_, ?_⟩, ⟨?_, ?_, fun z => Bool.noConfusion z⟩, ⟨?_, ?_, fun z => Bool.noConfusion z⟩, ⟨by decide, ?_, ?_, fun j hj => absurd hj (Nat.not_lt_zero j)⟩, ?_, ?_⟩
      · rw [h72]; rfl
      · rw [h72]; rfl
      · have := s3
        unfold RC at this ⊢
        rw [rsp sp (by omega) (by omega), rsp (sp + 1) (by omega) (by omega), rsp (sp + 2) (by omega) (by omega), rsp (sp + 3) (by omega) (by omega)]
        exact this
      · exact s2.mv (by rw [rsp sp (by omega) (by omega)]) (rsp _ (by omega) (by omega)) (rsp _ (by omega) (by omega))
      · intro i hi
        rw [rsp (sp + 6) (by omega) (by omega), s4 i hi, shD_9 e3 hi]
      · rw [rsp sp (by omega) (by omega), s5.2.2.1 5 (by decide)]; exact e5
      · exact ⟨p1.1, p1.2.1, p1.2.2.1, p1.2.2.2.1, fun i _ => by show (0 : Int) ≤ 2 ∧ (2 : Int) ≤ 2; decide⟩
      · have r4 := row 4 (by decide) (by decide) (by decide) (by decide) (by omega) (by decide) (by decide) (by decide)
        have r5 := row 5 (by decide) (by decide) (by decide) (by decide) (by omega) (by decide) (by decide) (by decide)
        have r6 := row 6 (by decide) (by decide) (by decide) (by decide) (by omega) (by decide) (by decide) (by decide)
        refine ⟨by rw [r4]; exact p2.1, by rw [r4]; exact p2.2.1, fun f j q1 q2 => by rw [r5]; exact p2.2.2.1 f j q1 q2, fun f j q1 q2 => by rw [r6]; exact p2.2.2.2.1 f j q1 q2, fun i hi => ?_⟩
        rw [oF 7 (by decide) (by decide) (by decide), o5 7 (by decide), ← hM4', sW_k, if_pos hi]; rfl
      · have rm : ∀ a, 51 ≤ a → a ≤ 60 → M7.1 a = M.1 a := fun a z1 z2 => row a (by omega) (by omega) (by omega) (by omega) (by omega) (by omega) (by omega) (by omega)
        refine ⟨by rw [rm 51 (by decide) (by decide)]; exact p3.1, by rw [rm 56 (by decide) (by decide)]; exact p3.2.1, fun f j q1 q2 => by rw [rm (52 + j) (by omega) (by omega)]; exact p3.2.2.1 f j q1 q2, fun f j q1 q2 => by rw [rm (57 + j) (by omega) (by omega)]; exact p3.2.2.2.1 f j q1 q2, fun i hi => ?_⟩
        rw [Nat.mul_zero, Nat.zero_add, y5 i hi]; rfl
      · rw [oF 20 (by decide) (by decide) (by decide), hM5, sI_nj (by decide), sI_at]; rfl
      · rw [y6]; rfl
      · rw [oF 20 (by decide) (by decide) (by decide), hM5, sI_at]; rfl
      · rw [y7]; rfl
      · rw [oF 1 (by decide) (by decide) (by decide), o5 1 (by decide), o4 1 (by decide), r1, sI_at]; rfl
      · rw [y8]; rfl
      · rw [h72]
        show M2.2.1 0 7 = M2.2.1 42 0
        rw [s5.1, m1]; exact j1
      · rw [row 65 (by decide) (by decide) (by decide) (by decide) (by omega) (by decide) (by decide) (by decide), row 63 (by decide) (by decide) (by decide) (by decide) (by omega) (by decide) (by decide) (by decide)]; exact k1
    · rw [e1] at w1
      injection w1 with w11 w12
      injection w12
  · -- a fault
    have hcl : fX4_square M = some (i32 (-10 - (q : Int)), M1) := by
      unfold fX4_square
      rw [u5, m4, e1, Option.bind_some, if_neg (show ¬ (0 : Int32) ≤ i32 (-10 - (q : Int)) from fun z => absurd ((i32_le (a := 0) (by omega)).mp z) (by omega))]
    have hx1 : TxM t L M1 := ⟨by rw [m2 42 (by decide) (by decide) (by omega)]; exact hxM.1, fun j hj => by rw [m2 43 (by decide) (by decide) (by omega)]; exact hxM.2 j hj⟩
    obtain ⟨M6, q1, q2⟩ := square_M hT hx1
    rcases q2 with ⟨i2, S2, w1, w2, w3, w4⟩ | ⟨q', w1, w2⟩
    · rw [e1] at w1
      injection w1 with w11 w12
      injection w12
    · rw [e1] at w1
      injection w1 with w11 w12
      have hqq : q = q' := by omega
      subst hqq
      have row : ∀ a, a ≠ 1 → a ≠ 3 → (a < sp ∨ sp + 3 < a) → (a < 42 ∨ a = 43 ∨ 50 < a) → M6.1 a = M.1 a := fun a z1 z2 z3 z4 => by rw [q1.2.1 a z4, m2 a z1 z2 z3]
      refine ⟨i32 (-10 - (q : Int)), M1, M6, hcl, w2, b, sp, S, N, K0, K1, N0, N1, L, ?_⟩
      have h62 : M6.2 = M.2 := by rw [q1.1, m1]
      have rb : ∀ a, b ≤ a → a ≤ b + 6 → M6.1 a = M.1 a := fun a z1 z2 => row a (by omega) (by omega) (by omega) (by omega)
      have d1' : RM S M1 := d1.mv (fun a z1 z2 => m2 a (by omega) (by omega) (by omega))
      refine ⟨⟨u1, u2, u3, by rw [h62]; exact u4, by rw [h62]; exact u5⟩, i1.mv rb, by rw [rb b (by omega) (by omega)]; exact c1, d1'.fi hS q1, ⟨p1, p2.mv (by rw [row 4 (by decide) (by decide) (by omega) (by decide)]) (by rw [row 4 (by decide) (by decide) (by omega) (by decide)]) (row 5 (by decide) (by decide) (by omega) (by decide)) (row 6 (by decide) (by decide) (by omega) (by decide)) (row 7 (by decide) (by decide) (by omega) (by decide)), p3.mv (fun a z1 z2 => row a (by omega) (by omega) (by omega) (by omega))⟩, f1.mv (by decide) (fun a z => row a (by omega) (by omega) (by omega) (by omega)), g1.mv (by decide) (fun a z => row a (by omega) (by omega) (by omega) (by omega)), h1.mv ?_ ?_ (row 2 (by decide) (by decide) (by omega) (by decide)) (row 43 (by decide) (by decide) (by omega) (by decide)), by rw [h62]; exact j1, by rw [row 65 (by decide) (by decide) (by omega) (by decide), row 63 (by decide) (by decide) (by omega) (by decide)]; exact k1⟩
      · rw [q1.2.1 1 (by decide), m3]
      · rw [q1.2.2.1 2 (by decide), m2 42 (by decide) (by decide) (by omega)]

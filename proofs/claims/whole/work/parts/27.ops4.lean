/-! Calls at the invariant: those that ask, and the simple ones that tell. -/
theorem o_wall {M : Mem} (h : Inv M) (x y : Int32) : ∃ v, fX4_wall x y M = some v ∧ fX5_wall x y M = some v := by
  obtain ⟨b, sp, S, N, K0, K1, N0, N1, L, h⟩ := h
  obtain ⟨v, g1, g2⟩ := wall_op h.2.1 h.1.2.2.2.1 x y
  exact ⟨v, g1, g2 M h.2.2.2.1⟩
theorem o_person {M : Mem} (h : Inv M) (x y : Int32) : ∃ v, fX4_person x y M = some v ∧ fX5_person x y M = some v := by
  obtain ⟨b, sp, S, N, K0, K1, N0, N1, L, h⟩ := h
  obtain ⟨v, g1, g2⟩ := person_op h.2.1 h.1.2.2.2.1 x y
  exact ⟨v, g1, g2 M h.2.2.2.1⟩
theorem o_picture {M : Mem} (h : Inv M) (x y : Int32) : ∃ v, fX4_picture x y M = some v ∧ fX5_picture x y M = some v := by
  obtain ⟨b, sp, S, N, K0, K1, N0, N1, L, h⟩ := h
  obtain ⟨v, g1, g2⟩ := picture_op h.2.1 h.1.2.2.2.1 x y
  exact ⟨v, g1, g2 M h.2.2.2.1⟩
theorem o_where {M : Mem} (h : Inv M) (x y : Int32) : ∃ v, fX4_where x y M = some v ∧ fX5_where x y M = some v := by
  obtain ⟨b, sp, S, N, K0, K1, N0, N1, L, h⟩ := h
  obtain ⟨v, g1, g2⟩ := where_op h.2.1 h.1.2.2.2.1 x y
  exact ⟨v, g1, g2 M h.2.2.2.1⟩
theorem o_on {M : Mem} (h : Inv M) (x y t : Int32) : ∃ v M1, fX4_on x y t M = some (v, M1) ∧ fX5_on x y t M1 = some v ∧ Inv M1 := by
  obtain ⟨b, sp, S, N, K0, K1, N0, N1, L, h⟩ := h
  obtain ⟨v, M1, g1, g2, g3, g4⟩ := on_op h.2.1 h.1.2.2.2.1 x y t
  exact ⟨v, M1, g1, g4 M1 (h.rm g2), _, _, _, _, _, _, _, _, _, h.q g2 g3 Vm.rf⟩
theorem o_shows {M : Mem} (h : Inv M) (x : Int32) : ∃ v M2, fX4_shows x M = some v ∧ fX5_shows x M = some (v, M2) ∧ Inv M2 := by
  obtain ⟨b, sp, S, N, K0, K1, N0, N1, L, h⟩ := h
  obtain ⟨v, g1, g4⟩ := shows_op h.2.1 h.1.2.2.2.1 x
  obtain ⟨M2, k1, k2⟩ := g4 M h.2.2.2.1
  exact ⟨v, M2, g1, k1, _, _, _, _, _, _, _, _, _, h.q QC.rf h.2.1.2.2.2.1 k2⟩
theorem o_view {M : Mem} (h : Inv M) (x y w r t : Int32) : ∃ v M1 M2, fX4_view x y w r t M = some (v, M1) ∧ fX5_view x y w r t M1 = some (v, M2) ∧ Inv M2 := by
  obtain ⟨b, sp, S, N, K0, K1, N0, N1, L, h⟩ := h
  obtain ⟨v, M1, g1, g2, g3, g4⟩ := view_op h.2.1 h.1.2.2.2.1 x y w r t
  obtain ⟨M2, k1, k2⟩ := g4 M1 (h.rm g2)
  exact ⟨v, M1, M2, g1, k1, _, _, _, _, _, _, _, _, _, h.q g2 g3 k2⟩
theorem o_hidden {M : Mem} (h : Inv M) (x y : Int32) : ∃ v M1 M2, fX4_hidden x y M = some (v, M1) ∧ fX5_hidden x y M1 = some (v, M2) ∧ Inv M2 := by
  obtain ⟨b, sp, S, N, K0, K1, N0, N1, L, h⟩ := h
  obtain ⟨v, M1, g1, g2, g3, g4⟩ := hidden_op h.2.1 h.1.2.2.2.1 x y
  obtain ⟨M2, k1, k2⟩ := g4 M1 (h.rm g2)
  exact ⟨v, M1, M2, g1, k1, _, _, _, _, _, _, _, _, _, h.q g2 g3 k2⟩
theorem o_from {M : Mem} (h : Inv M) (x r t w : Int32) : ∃ v M1 M2, fX4_from x r t w M = some (v, M1) ∧ fX5_from x r t w M1 = some (v, M2) ∧ Inv M2 := by
  obtain ⟨b, sp, S, N, K0, K1, N0, N1, L, h⟩ := h
  obtain ⟨v, M1, g1, g2, g3, g4⟩ := from_op h.2.1 h.1.2.2.2.1 x r t w
  obtain ⟨M2, k1, k2⟩ := g4 M1 (h.rm g2)
  exact ⟨v, M1, M2, g1, k1, _, _, _, _, _, _, _, _, _, h.q g2 g3 k2⟩
theorem o_all {M : Mem} (h : Inv M) (x y w : Int32) : ∃ v M2, fX4_all x y w M = some v ∧ fX5_all x y w M = some (v, M2) ∧ Inv M2 := by
  obtain ⟨b, sp, S, N, K0, K1, N0, N1, L, h⟩ := h
  obtain ⟨v, g1, g4⟩ := all_op h.2.1 h.1.2.2.2.1 x y w
  obtain ⟨M2, k1, k2⟩ := g4 M h.2.2.2.1
  exact ⟨v, M2, g1, k1, _, _, _, _, _, _, _, _, _, h.q QC.rf h.2.1.2.2.2.1 k2⟩
theorem o_waits {M : Mem} (h : Inv M) (x : Int32) : ∃ v M1 M2, fX4_waits x M = some (v, M1) ∧ fX5_waits x M1 = some (v, M2) ∧ Inv M2 := by
  obtain ⟨b, sp, S, N, K0, K1, N0, N1, L, h⟩ := h
  obtain ⟨v, M1, g1, g2, g3, g4⟩ := waits_op h.2.1 h.1.2.2.2.1 x
  obtain ⟨M2, k1, k2⟩ := g4 M1 (h.rm g2)
  exact ⟨v, M1, M2, g1, k1, _, _, _, _, _, _, _, _, _, h.q g2 g3 k2⟩
theorem o_lost {M : Mem} (h : Inv M) : ∃ v M1 M2, fX4_lost M = some (v, M1) ∧ fX5_lost M1 = some (v, M2) ∧ Inv M2 := by
  obtain ⟨b, sp, S, N, K0, K1, N0, N1, L, h⟩ := h
  obtain ⟨v, M1, g1, g2, g3, g4⟩ := lost_op h.2.1 h.1.2.2.2.1
  obtain ⟨M2, k1, k2⟩ := g4 M1 (h.rm g2)
  exact ⟨v, M1, M2, g1, k1, _, _, _, _, _, _, _, _, _, h.q g2 g3 k2⟩
theorem o_told {M : Mem} (h : Inv M) (x y : Int32) : ∃ v M2, fX4_told x y M = some v ∧ fX5_told x y M = some (v, M2) ∧ Inv M2 := by
  obtain ⟨b, sp, S, N, K0, K1, N0, N1, L, h⟩ := h
  obtain ⟨v, g1, g4⟩ := told_op h.2.1 h.1.2.2.2.1 x y
  obtain ⟨M2, k1, k2⟩ := g4 M h.2.2.2.1
  exact ⟨v, M2, g1, k1, _, _, _, _, _, _, _, _, _, h.q QC.rf h.2.1.2.2.2.1 k2⟩
theorem o_rule {M : Mem} (h : Inv M) (x : Int32) : ∃ v M1 M2, fX4_rule x M = some (v, M1) ∧ fX5_rule x M1 = some (v, M2) ∧ Inv M2 := by
  obtain ⟨b, sp, S, N, K0, K1, N0, N1, L, h⟩ := h
  obtain ⟨v, M1, g1, g2, g3, g4⟩ := rule_op h.2.1 h.1.2.2.2.1 x
  obtain ⟨M2, k1, k2⟩ := g4 M1 (h.rm g2)
  exact ⟨v, M1, M2, g1, k1, _, _, _, _, _, _, _, _, _, h.q g2 g3 k2⟩
theorem o_untrue {M : Mem} (h : Inv M) (x y : Int32) : ∃ v M2, fX4_untrue x y M = some v ∧ fX5_untrue x y M = some (v, M2) ∧ Inv M2 := by
  obtain ⟨b, sp, S, N, K0, K1, N0, N1, L, h⟩ := h
  obtain ⟨v, g1, g4⟩ := untrue_op h.2.1 h.1.2.2.2.1 x y
  obtain ⟨M2, k1, k2⟩ := g4 M h.2.2.2.1
  exact ⟨v, M2, g1, k1, _, _, _, _, _, _, _, _, _, h.q QC.rf h.2.1.2.2.2.1 k2⟩
theorem o_hat {M : Mem} (h : Inv M) (x : Int32) : ∃ v, fX4_hat x M = some v ∧ fX5_hat x M = some v := by
  obtain ⟨b, sp, S, N, K0, K1, N0, N1, L, h⟩ := h
  obtain ⟨v, g1, g2⟩ := hat_op h.2.1 h.1.2.2.2.1 h.2.2.2.2.1.1 h.2.2.2.2.1.2.1 x
  exact ⟨v, g1, g2 M h.2.2.2.1 h.2.2.2.2.1.2.2⟩
theorem o_near {M : Mem} (h : Inv M) (x y r : Int32) : ∃ v M1, fX4_near x y r M = some (v, M1) ∧ fX5_near x y r M1 = some v ∧ Inv M1 := by
  obtain ⟨b, sp, S, N, K0, K1, N0, N1, L, h⟩ := h
  obtain ⟨v, M1, g1, g2, g3, g4⟩ := near_op h.2.1 h.1.2.2.2.1 h.2.2.2.2.1.1 h.2.2.2.2.1.2.1 x y r
  have h1 := h.q g2 g3 Vm.rf
  exact ⟨v, M1, g1, g4 M1 (h.rm g2) h1.2.2.2.2.1.2.2, _, _, _, _, _, _, _, _, _, h1⟩
theorem o_trace {M : Mem} (h : Inv M) : ∃ v, fX4_trace M = some v ∧ fX5_trace M = some v := by
  obtain ⟨b, sp, S, N, K0, K1, N0, N1, L, h⟩ := h
  exact ⟨_, rfl, by rw [show fX5_trace M = some (M.2.1 42 0) from rfl, ← h.2.2.2.2.2.2.2.2.1]⟩
theorem o_clear {M : Mem} (h : Inv M) : ∃ v M1 M2, fX4_clear M = some (v, M1) ∧ fX5_clear M1 = some (v, M2) ∧ Inv M2 := by
  obtain ⟨b, sp, S, N, K0, K1, N0, N1, L, h⟩ := h
  obtain ⟨a1, i1, c1, d1, ⟨e1, e2, e3⟩, f1, g1, h1, j1, k1⟩ := h
  have hb := sc_b a1.1
  refine ⟨M.1 1 2, sI M 1 2 0, sI (sI M 1 2 0) 42 2 0, rfl, ?_, b, sp, S, N, K0, K1, N0, N1, 0, ?_⟩
  · show some ((sI M 1 2 0).1 42 2, _) = _
    rw [sI_ne (by decide), h1.2.2.1, h1.2.1]
  · have R : ∀ a, a ≠ 1 → a ≠ 42 → (sI (sI M 1 2 0) 42 2 0).1 a = M.1 a := fun a z1 z2 => by rw [sI_ne z2, sI_ne z1]
    refine ⟨a1, i1.mv (fun a z1 z2 => R a (by omega) (by omega)), by rw [R b (by omega) (by omega)]; exact c1, d1.mv (fun a z1 z2 => R a (by omega) (by omega)), ⟨e1, e2.mv (by rw [R 4 (by decide) (by decide)]) (by rw [R 4 (by decide) (by decide)]) (R 5 (by decide) (by decide)) (R 6 (by decide) (by decide)) (R 7 (by decide) (by decide)), e3.mv (fun a z1 z2 => R a (by omega) (by omega))⟩, f1.mv (by decide) (fun a z => R a (by omega) (by omega)), g1.mv (by decide) (fun a z => R a (by omega) (by omega)), ⟨by decide, ?_, ?_, fun j hj => absurd hj (Nat.not_lt_zero j)⟩, j1, by rw [R 65 (by decide) (by decide), R 63 (by decide) (by decide)]; exact k1⟩
    · rw [sI_ne (by decide), sI_at]; rfl
    · rw [sI_at]; rfl
theorem o_forget {M : Mem} (h : Inv M) : ∃ v M1 M2, fX4_forget M = some (v, M1) ∧ fX5_forget M1 = some (v, M2) ∧ Inv M2 := by
  obtain ⟨b, sp, S, N, K0, K1, N0, N1, L, h⟩ := h
  obtain ⟨a1, i1, c1, d1, ⟨e1, e2, e3⟩, f1, g1, h1, j1, k1⟩ := h
  have hb := sc_b a1.1
  have hM2 : ∀ M1, fX5_forget M1 = some (M1.1 51 0 + M1.1 56 0, sI (sI M1 51 0 0) 56 0 0) := by
    intro M1
    unfold fX5_forget
    rw [show (0 : Int32) = i32 0 from rfl, rI_ok (by omega), rI_ok (by omega), show ((0 : Int)).toNat = 0 from rfl, wI_ok (by omega)]
    simp only [Option.bind_some, Option.bind_none]
    rw [wI_ok (by omega)]
    rfl
  refine ⟨M.1 4 4 + M.1 4 5, sI (sI M 4 4 0) 4 5 0, sI (sI (sI (sI M 4 4 0) 4 5 0) 51 0 0) 56 0 0, rfl, ?_, b, sp, S, (0, nFd N, 0, nSd N, nH N), K0, K1, N0, N1, L, ?_⟩
  · rw [hM2, sI_ne (by decide), sI_ne (by decide), sI_ne (by decide), sI_ne (by decide), e3.1, e3.2.1, e2.1, e2.2.1]
  · have R : ∀ a, a ≠ 4 → a ≠ 51 → a ≠ 56 → (sI (sI (sI (sI M 4 4 0) 4 5 0) 51 0 0) 56 0 0).1 a = M.1 a := fun a z1 z2 z3 => by rw [sI_ne z3, sI_ne z2, sI_ne z1, sI_ne z1]
    have im : ∀ (k : Nat) (K : Bool) (N' : Nt), k ≤ 1 → Im k K N' M → Im k K N' (sI (sI (sI (sI M 4 4 0) 4 5 0) 51 0 0) 56 0 0) := by
      intro k K N' hk ⟨h1, h2, h3⟩
      refine ⟨by rw [R 20 (by decide) (by decide) (by decide)]; exact h1, by rw [R 62 (by decide) (by decide) (by decide)]; exact h2, fun q => ?_⟩
      obtain ⟨g1, g2, g3⟩ := h3 q
      refine ⟨g1, g2.mv (by rw [R _ (by omega) (by omega) (by omega)]) (by rw [R _ (by omega) (by omega) (by omega)]) (R _ (by omega) (by omega) (by omega)) (R _ (by omega) (by omega) (by omega)) (R _ (by omega) (by omega) (by omega)), ?_⟩
      obtain ⟨m1, m2, m3, m4, m5⟩ := g3
      refine ⟨?_, ?_, fun f j q1 q2 => ?_, fun s j q1 q2 => ?_, fun i q => ?_⟩
      · rw [sI_ne (by decide), sI_nj (by omega), sI_ne (by decide), sI_ne (by decide)]; exact m1
      · rw [sI_nj (by omega), sI_ne (by decide), sI_ne (by decide), sI_ne (by decide)]; exact m2
      · rw [R (52 + j) (by omega) (by omega) (by omega)]; exact m3 f j q1 q2
      · rw [R (57 + j) (by omega) (by omega) (by omega)]; exact m4 s j q1 q2
      · rw [R 61 (by decide) (by decide) (by decide)]; exact m5 i q
    refine ⟨a1, i1.mv (fun a z1 z2 => R a (by omega) (by omega) (by omega)), by rw [R b (by omega) (by omega) (by omega)]; exact c1, d1.mv (fun a z1 z2 => R a (by omega) (by omega) (by omega)), ⟨?_, ?_, ?_⟩, im 0 K0 N0 (by decide) f1, im 1 K1 N1 (by decide) g1, h1.mv (by rw [R 1 (by decide) (by decide) (by decide)]) (by rw [R 42 (by decide) (by decide) (by decide)]) (R 2 (by decide) (by decide) (by decide)) (R 43 (by decide) (by decide) (by decide)), j1, by rw [R 65 (by decide) (by decide) (by decide), R 63 (by decide) (by decide) (by decide)]; exact k1⟩
    · exact ⟨Nat.zero_le _, fun f hf => absurd hf (Nat.not_lt_zero f), Nat.zero_le _, fun s hs => absurd hs (Nat.not_lt_zero s), e1.2.2.2.2⟩
    · refine ⟨?_, ?_, fun f j hf => absurd hf (Nat.not_lt_zero f), fun s j hs => absurd hs (Nat.not_lt_zero s), fun i hi => ?_⟩
      · rw [sI_ne (by decide), sI_ne (by decide), sI_nj (by decide), sI_at]; rfl
      · rw [sI_ne (by decide), sI_ne (by decide), sI_at]; rfl
      · rw [R 7 (by decide) (by decide) (by decide)]; exact e2.2.2.2.2 i hi
    · refine ⟨?_, ?_, fun f j hf => absurd hf (Nat.not_lt_zero f), fun s j hs => absurd hs (Nat.not_lt_zero s), fun i hi => ?_⟩
      · rw [sI_ne (by decide), sI_at]; rfl
      · rw [sI_at]; rfl
      · rw [R 61 (by decide) (by decide) (by decide)]; exact e3.2.2.2.2 i hi
theorem o_has {M : Mem} (h : Inv M) (x y : Int32) : ∃ v M1 M2, fX4_has x y M = some (v, M1) ∧ fX5_has x y M1 = some (v, M2) ∧ Inv M2 := by
  obtain ⟨b, sp, S, N, K0, K1, N0, N1, L, h⟩ := id h
  obtain ⟨a1, i1, c1, d1, ⟨e1, e2, e3⟩, f1, g1, h1, j1, k1⟩ := id h
  have hb := sc_b a1.1
  obtain ⟨hS, -, hR, hC, -⟩ := id i1
  have h10 := hS.2.2.2.1
  obtain ⟨x, hx, rfl⟩ := i32_ex x
  obtain ⟨y, hy, rfl⟩ := i32_ex y
  have hM0 : ∀ M2, RM S M2 → fX5_has (i32 x) (i32 y) M2 = (if btw x 0 ((cI S : Int) - 1) = true then (if btw y 0 2 = true then ((rI M2 61 30 (i32 x)).bind fun v3 => (wI M2 61 30 (i32 x) (i32 y)).bind fun M4 => some (v3, M4)) else some (i32 (-1), M2)) else some (i32 (-1), M2)) := by
    intro M2 hM
    unfold fX5_has
    simp only [L0, L1, L2, L3, L4, L5, L6, L7, L8, L9, L10, L11, L12, L13, L15, L16, L20, L24, L31, L32, L40, L41, L48, L50, L57, L59, L63, L80, L81, L96, L97, L99, L100, L122, L144, L199, L255, L400, L1681, L68921, L1000000, i32_add, i32_sub, i32_mul, i32_neg, Option.bind_some, Option.bind_none]
    rw [isPicture_M hS hM hx, in_M (by omega)]
    simp only [L0, L1, L2, L3, L4, L5, L6, L7, L8, L9, L10, L11, L12, L13, L15, L16, L20, L24, L31, L32, L40, L41, L48, L50, L57, L59, L63, L80, L81, L96, L97, L99, L100, L122, L144, L199, L255, L400, L1681, L68921, L1000000, i32_add, i32_sub, i32_mul, i32_neg, Option.bind_some, Option.bind_none, ite_bI]
  unfold fX4_has
  simp only [L0, L1, L2, L3, L4, L5, L6, L7, L8, L9, L10, L11, L12, L13, L15, L16, L20, L24, L31, L32, L40, L41, L48, L50, L57, L59, L63, L80, L81, L96, L97, L99, L100, L122, L144, L199, L255, L400, L1681, L68921, L1000000, i32_add, i32_sub, i32_mul, i32_neg, Option.bind_some, Option.bind_none]
  rw [a1.2.2.2.1, isPicture_C hS hR hx, isBetween_C (by omega)]
  simp only [L0, L1, L2, L3, L4, L5, L6, L7, L8, L9, L10, L11, L12, L13, L15, L16, L20, L24, L31, L32, L40, L41, L48, L50, L57, L59, L63, L80, L81, L96, L97, L99, L100, L122, L144, L199, L255, L400, L1681, L68921, L1000000, i32_add, i32_sub, i32_mul, i32_neg, Option.bind_some, Option.bind_none, ite_bI]
  cases h1' : btw x 0 ((cI S : Int) - 1) with
  | false => exact ⟨_, M, M, rfl, by rw [hM0 M d1, h1']; rfl, _, _, _, _, _, _, _, _, _, h⟩
  | true =>
  cases h2' : btw y 0 2 with
  | false => exact ⟨_, M, M, rfl, by rw [hM0 M d1, h1', h2']; rfl, _, _, _, _, _, _, _, _, _, h⟩
  | true =>
    obtain ⟨i, hi, rfl⟩ := nat_of h1'
    have b2 := btw_t h2'
    have dM : RM S (sI M 7 i (i32 y)) := d1.mv (fun a z1 z2 => sI_ne (by omega))
    have r61 : M.1 61 i = i32 (nH N i) := by have := e3.2.2.2.2 i (by omega); rw [Nat.mul_zero, Nat.zero_add] at this; exact this
    refine ⟨i32 (nH N i), sI M 7 i (i32 y), sI (sI M 7 i (i32 y)) 61 i (i32 y), ?_, ?_, b, sp, S, (nF N, nFd N, nS N, nSd N, fun j => if j = i then y else nH N j), K0, K1, N0, N1, L, ?_⟩
    · rw [if_pos rfl, if_pos rfl, rI_ok (by omega), wI_ok (by omega), show ((i : Int)).toNat = i by omega, e2.2.2.2.2 i (by omega)]
      rfl
    · rw [hM0 _ dM, h1', h2', if_pos rfl, if_pos rfl, rI_ok (by omega), wI_ok (by omega), show ((i : Int)).toNat = i by omega, sI_ne (by decide), r61]
      rfl
    · have R : ∀ a, a ≠ 7 → a ≠ 61 → (sI (sI M 7 i (i32 y)) 61 i (i32 y)).1 a = M.1 a := fun a z1 z2 => by rw [sI_ne z2, sI_ne z1]
      have im : ∀ (k : Nat) (K : Bool) (N' : Nt), k ≤ 1 → Im k K N' M → Im k K N' (sI (sI M 7 i (i32 y)) 61 i (i32 y)) := by
        intro k K N' hk ⟨h1, h2, h3⟩
        refine ⟨by rw [R 20 (by decide) (by decide)]; exact h1, by rw [R 62 (by decide) (by decide)]; exact h2, fun q => ?_⟩
        obtain ⟨g1, g2, g3⟩ := h3 q
        refine ⟨g1, g2.mv (by rw [R _ (by omega) (by omega)]) (by rw [R _ (by omega) (by omega)]) (R _ (by omega) (by omega)) (R _ (by omega) (by omega)) (R _ (by omega) (by omega)), ?_⟩
        obtain ⟨m1, m2, m3, m4, m5⟩ := g3
        refine ⟨?_, ?_, fun f j q1 q2 => ?_, fun s j q1 q2 => ?_, fun i' q => ?_⟩
        · rw [R 51 (by decide) (by decide)]; exact m1
        · rw [R 56 (by decide) (by decide)]; exact m2
        · rw [R (52 + j) (by omega) (by omega)]; exact m3 f j q1 q2
        · rw [R (57 + j) (by omega) (by omega)]; exact m4 s j q1 q2
        · rw [sI_nj (by omega), sI_ne (by decide)]; exact m5 i' q
      refine ⟨a1, i1.mv (fun a z1 z2 => R a (by omega) (by omega)), by rw [R b (by omega) (by omega)]; exact c1, d1.mv (fun a z1 z2 => R a (by omega) (by omega)), ⟨?_, ?_, ?_⟩, im 0 K0 N0 (by decide) f1, im 1 K1 N1 (by decide) g1, h1.mv (by rw [R 1 (by decide) (by decide)]) (by rw [R 42 (by decide) (by decide)]) (R 2 (by decide) (by decide)) (R 43 (by decide) (by decide)), j1, by rw [R 65 (by decide) (by decide), R 63 (by decide) (by decide)]; exact k1⟩
      · refine ⟨e1.1, e1.2.1, e1.2.2.1, e1.2.2.2.1, fun j hj => ?_⟩
        show 0 ≤ (if j = i then y else nH N j) ∧ (if j = i then y else nH N j) ≤ 2
        split
        · omega
        · exact e1.2.2.2.2 j hj
      · refine ⟨by rw [R 4 (by decide) (by decide)]; exact e2.1, by rw [R 4 (by decide) (by decide)]; exact e2.2.1, by rw [R (4 + 1) (by decide) (by decide)]; exact e2.2.2.1, by rw [R (4 + 2) (by decide) (by decide)]; exact e2.2.2.2.1, fun j hj => ?_⟩
        show (sI (sI M 7 i (i32 y)) 61 i (i32 y)).1 7 j = i32 (if j = i then y else nH N j)
        rw [sI_ne (by decide)]
        by_cases q : j = i
        · subst q; rw [sI_at, if_pos rfl]
        · rw [sI_nj q, if_neg q]; exact e2.2.2.2.2 j hj
      · refine ⟨by rw [R 51 (by decide) (by decide)]; exact e3.1, by rw [R 56 (by decide) (by decide)]; exact e3.2.1, fun f j q1 q2 => by rw [R (52 + j) (by omega) (by omega)]; exact e3.2.2.1 f j q1 q2, fun s j q1 q2 => by rw [R (57 + j) (by omega) (by omega)]; exact e3.2.2.2.1 s j q1 q2, fun j hj => ?_⟩
        show (sI (sI M 7 i (i32 y)) 61 i (i32 y)).1 61 (10 * 0 + j) = i32 (if j = i then y else nH N j)
        rw [Nat.mul_zero, Nat.zero_add]
        by_cases q : j = i
        · subst q; rw [sI_at, if_pos rfl]
        · rw [sI_nj q, if_neg q, sI_ne (by decide)]
          have := e3.2.2.2.2 j hj
          rw [Nat.mul_zero, Nat.zero_add] at this
          exact this

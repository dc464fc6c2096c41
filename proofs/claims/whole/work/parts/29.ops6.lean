/-! rate. -/
theorem IV.mv2 {b sp : Nat} {S : Sc} {N : Nt} {K0 K1 : Bool} {N0 N1 : Nt} {L : Nat} {M M' : Mem} (h : IV b sp S N K0 K1 N0 N1 L M) (e1 : M'.1 = M.1) (e2 : M'.2.2 = M.2.2) (e3 : M'.2.1 0 7 = M'.2.1 42 0) : IV b sp S N K0 K1 N0 N1 L M' := by
  obtain ⟨x, y, z⟩ := M
  obtain ⟨x', y', z'⟩ := M'
  obtain rfl : x' = x := e1
  obtain rfl : z' = z := e2
  obtain ⟨a1, i1, c1, d1, ⟨p1, e2, e3'⟩, f1, g1, h1, j1, k1⟩ := h
  exact ⟨a1, i1, c1, d1, ⟨p1, e2, e3'⟩, f1, g1, h1, e3, k1⟩
theorem sJ_at (M : Mem) (a j : Nat) (x : Int64) : (sJ M a j x).2.1 a j = x := by rw [sJ_k]; exact if_pos rfl
theorem sJ_ne {M : Mem} {a j a' : Nat} {x : Int64} (h : a' ≠ a) : (sJ M a j x).2.1 a' = M.2.1 a' := if_neg h
theorem rateP_C {b : Nat} {S : Sc} {M : Mem} (hS : okS S) (hb : M.2.2 0 5 = b) (hSh : ∀ i, i < cI S → M.1 (b + 6) i = shP S i) {i : Nat} (hi : i < cI S) : fX4_ratePicture (i32 i) M = some (i32 (pcI (shP S i)), sJ M 0 7 (M.2.1 0 7 + 1)) := by
  have h10 := hS.2.2.2.1
  unfold fX4_ratePicture wG
  simp only [Option.bind_some, Option.bind_none]
  rw [show (sJ M 0 7 (M.2.1 0 7 + 1)).2.2 0 5 = b from hb, rI_ok (by omega), show ((i : Int)).toNat = i by omega, show (sJ M 0 7 (M.2.1 0 7 + 1)).1 (b + 6) i = M.1 (b + 6) i from rfl, hSh i hi]
  simp only [Option.bind_some, Option.bind_none]
  rw [bitCount_C (s10_shP hS i)]
  rfl
theorem sJJ (M : Mem) (x y : Int64) : sJ (sJ M 0 7 x) 0 7 y = sJ M 0 7 y := by
  unfold sJ
  refine Prod.ext rfl (Prod.ext ?_ rfl)
  funext a
  show (if a = 0 then vp_updL (if a = 0 then vp_updL (M.2.1 a) 7 x else M.2.1 a) 7 y else (if a = 0 then vp_updL (M.2.1 a) 7 x else M.2.1 a)) = if a = 0 then vp_updL (M.2.1 a) 7 y else M.2.1 a
  by_cases h : a = 0
  · rw [if_pos h, if_pos h, if_pos h]
    funext j
    unfold vp_updL
    by_cases q : j = 7
    · rw [if_pos q, if_pos q]
    · rw [if_neg q, if_neg q, if_neg q]
  · rw [if_neg h, if_neg h, if_neg h]
theorem addL (x a c : Int64) : x + a + c = x + (a + c) := Int64.add_assoc x a c
theorem o_rate {M : Mem} (h : Inv M) (x y : Int32) : ∃ v M1 M2, fX4_rate x y M = some (v, M1) ∧ fX5_rate x y M1 = some (v, M2) ∧ Inv M2 := by
  obtain ⟨b, sp, S, N, K0, K1, N0, N1, L, h⟩ := id h
  obtain ⟨a1, i1, c1, d1, ⟨e1, e2, e3⟩, f1, g1, h1, j1, k1⟩ := id h
  have hb := sc_b a1.1
  obtain ⟨hS, -, hR, hC, hSh⟩ := id i1
  have h10 := hS.2.2.2.1
  obtain ⟨x, hx, rfl⟩ := i32_ex x
  obtain ⟨y, hy, rfl⟩ := i32_ex y
  have hbM := a1.2.2.2.1
  have hM0 : ∀ M2, RM S M2 → fX5_rate (i32 x) (i32 y) M2 = (if btw x 0 5 = true then (if btw y 0 ((cI S : Int) - 1) = true then ((fX5_showsOf (i32 y) M2).bind fun v3 => (fX5_bitsIn v3.1).bind fun v4 => (rI v3.2 50 100 (i32 (5 * y + 3))).bind fun v5 => if i32 x = i32 0 then (wG v3.2 42 0 (v3.2.2.1 42 0 + 1)).bind fun M6 => some (v4, M6) else if i32 x = i32 1 then (wG v3.2 42 0 (v3.2.2.1 42 0 + 11)).bind fun M7 => some (v4 + v5, M7) else if i32 x = i32 2 then (wG v3.2 42 0 (v3.2.2.1 42 0 + 101)).bind fun M8 => some (i32 3 * v4, M8) else if i32 x = i32 3 then (wG v3.2 42 0 (v3.2.2.1 42 0 + 1101)).bind fun M9 => (fX5_waitOf (i32 y) M9).bind fun v10 => if v10.1 = i32 (-9) then some (i32 3 * v4 + i32 100, v10.2) else some (i32 3 * v4 + v10.1, v10.2) else if i32 x = i32 4 then (wG v3.2 42 0 (v3.2.2.1 42 0 + 10011)).bind fun M11 => some (i32 2 * (v4 + v5), M11) else (wG v3.2 42 0 (v3.2.2.1 42 0 + 100001)).bind fun M12 => (rI M12 50 100 (i32 (5 * y + 4))).bind fun v13 => some (v4 - v13, M12)) else some (i32 (-1000000), M2)) else some (i32 (-1000000), M2)) := by
    intro M2 hM
    unfold fX5_rate
    simp only [L0, L1, L2, L3, L4, L5, L6, L7, L8, L9, L10, L11, L12, L13, L15, L16, L20, L24, L31, L32, L40, L41, L48, L50, L57, L59, L63, L80, L81, L96, L97, L99, L100, L122, L144, L199, L255, L400, L1681, L68921, L1000000, i32_add, i32_sub, i32_mul, i32_neg, Option.bind_some, Option.bind_none]
    rw [isPicture_M hS hM hy, in_M (by omega)]
    simp only [L0, L1, L2, L3, L4, L5, L6, L7, L8, L9, L10, L11, L12, L13, L15, L16, L20, L24, L31, L32, L40, L41, L48, L50, L57, L59, L63, L80, L81, L96, L97, L99, L100, L122, L144, L199, L255, L400, L1681, L68921, L1000000, i32_add, i32_sub, i32_mul, i32_neg, Option.bind_some, Option.bind_none, ite_bI]
  have hC0 : fX4_rate (i32 x) (i32 y) M = (if btw x 0 5 = true then (if btw y 0 ((cI S : Int) - 1) = true then (if i32 x = i32 1 then (fX4_ratePosed (i32 y) M).bind fun v3 => some (v3.1, v3.2) else if i32 x = i32 2 then (fX4_rateCrossed (i32 y) M).bind fun v4 => some (v4.1, v4.2) else if i32 x = i32 3 then (fX4_rateWaitedFor (i32 y) M).bind fun v5 => some (v5.1, v5.2) else if i32 x = i32 4 then (fX4_rateCopied (i32 y) M).bind fun v6 => some (v6.1, v6.2) else if i32 x = i32 5 then (fX4_rateClocked (i32 y) M).bind fun v7 => some (v7.1, v7.2) else (fX4_ratePicture (i32 y) M).bind fun v8 => some (v8.1, v8.2)) else some (i32 (-1000000), M)) else some (i32 (-1000000), M)) := by
    unfold fX4_rate
    simp only [L0, L1, L2, L3, L4, L5, L6, L7, L8, L9, L10, L11, L12, L13, L15, L16, L20, L24, L31, L32, L40, L41, L48, L50, L57, L59, L63, L80, L81, L96, L97, L99, L100, L122, L144, L199, L255, L400, L1681, L68921, L1000000, i32_add, i32_sub, i32_mul, i32_neg, Option.bind_some, Option.bind_none]
    rw [hbM, isPicture_C hS hR hy, isBetween_C (by omega)]
    simp only [L0, L1, L2, L3, L4, L5, L6, L7, L8, L9, L10, L11, L12, L13, L15, L16, L20, L24, L31, L32, L40, L41, L48, L50, L57, L59, L63, L80, L81, L96, L97, L99, L100, L122, L144, L199, L255, L400, L1681, L68921, L1000000, i32_add, i32_sub, i32_mul, i32_neg, Option.bind_some, Option.bind_none, ite_bI]
  rw [hC0]
  cases q1 : btw x 0 5 with
  | false => exact ⟨_, M, M, rfl, by rw [hM0 M d1, q1]; rfl, _, _, _, _, _, _, _, _, _, h⟩
  | true =>
  cases q2 : btw y 0 ((cI S : Int) - 1) with
  | false => exact ⟨_, M, M, rfl, by rw [hM0 M d1, q1, q2]; rfl, _, _, _, _, _, _, _, _, _, h⟩
  | true =>
    obtain ⟨i, hi, rfl⟩ := nat_of q2
    have b1 := btw_t q1
    rw [if_pos rfl, if_pos rfl]
    -- the model's common part
    have hM1 : ∀ M1, RM S M1 → ∃ M3, Vm M1 M3 ∧ RM S M3 ∧ fX5_rate (i32 x) (i32 i) M1 = (if i32 x = i32 0 then some (i32 (pcI (shP S i)), sJ M3 42 0 (M3.2.1 42 0 + 1)) else if i32 x = i32 1 then some (i32 (pcI (shP S i)) + i32 (cQd S i 3), sJ M3 42 0 (M3.2.1 42 0 + 11)) else if i32 x = i32 2 then some (i32 3 * i32 (pcI (shP S i)), sJ M3 42 0 (M3.2.1 42 0 + 101)) else if i32 x = i32 3 then (fX5_waitOf (i32 i) (sJ M3 42 0 (M3.2.1 42 0 + 1101))).bind fun v10 => if v10.1 = i32 (-9) then some (i32 3 * i32 (pcI (shP S i)) + i32 100, v10.2) else some (i32 3 * i32 (pcI (shP S i)) + v10.1, v10.2) else if i32 x = i32 4 then some (i32 2 * (i32 (pcI (shP S i)) + i32 (cQd S i 3)), sJ M3 42 0 (M3.2.1 42 0 + 10011)) else some (i32 (pcI (shP S i)) - i32 (cQd S i 4), sJ M3 42 0 (M3.2.1 42 0 + 100001))) := by
      intro M1 hM
      obtain ⟨M3, k1, k2, k3⟩ := showsOf_M hS hM hi
      refine ⟨M3, k2, k3, ?_⟩
      have E3 := qd_M hS k3 hi 3 (by decide)
      rw [show ((3 : Nat) : Int) = 3 from rfl] at E3
      have E4 : ∀ z, rI (sJ M3 42 0 z) 50 100 (i32 (5 * (i : Int) + 4)) = some (i32 (cQd S i 4)) := fun z => by
        have := qd_M hS (M := sJ M3 42 0 z) k3 hi 4 (by decide)
        rw [show ((4 : Nat) : Int) = 4 from rfl] at this
        exact this
      rw [hM0 M1 hM, q1, q2, if_pos rfl, if_pos rfl, k1]
      simp only [Option.bind_some, Option.bind_none]
      rw [bitsIn_M (s10_shP hS i), E3]
      unfold wG
      simp only [Option.bind_some, Option.bind_none]
      rw [E4]
      simp only [Option.bind_some, Option.bind_none]
    have hP := rateP_C hS hbM hSh hi
    -- the class's, by kinds
    have E3c : ∀ M', RC b S M' → fX2_ofPicture b (i32 i) 3 M' = some (i32 (cQd S i 3)) := fun M' hR' => ofPicture_C hS hR' hi (show 3 < 5 by decide)
    have E4c : ∀ M', RC b S M' → fX2_ofPicture b (i32 i) 4 M' = some (i32 (cQd S i 4)) := fun M' hR' => ofPicture_C hS hR' hi (show 4 < 5 by decide)
    have hPs : ∀ z, fX4_ratePicture (i32 i) (sJ M 0 7 z) = some (i32 (pcI (shP S i)), sJ M 0 7 (z + 1)) := fun z => by
      have := rateP_C (M := sJ M 0 7 z) hS hbM hSh hi
      rw [sJ_at, sJJ] at this
      exact this
    -- an end that both share
    have fin : ∀ (w : Int64) (M1 : Mem), M1 = sJ M 0 7 (M.2.1 0 7 + w) → ∀ (M3 : Mem), Vm M1 M3 → Inv (sJ M3 42 0 (M3.2.1 42 0 + w)) := by
      intro w M1 he M3 hv
      subst he
      obtain ⟨v1, v2, v3, v4⟩ := id hv
      have hq : IV b sp S N K0 K1 N0 N1 L (M3.1, M.2) := h.q QC.rf hC ⟨rfl, v2, v3, v4⟩
      refine ⟨b, sp, S, N, K0, K1, N0, N1, L, hq.mv2 rfl ?_ ?_⟩
      · show M3.2.2 = M.2.2
        rw [v1]; rfl
      · show (sJ M3 42 0 (M3.2.1 42 0 + w)).2.1 0 7 = (sJ M3 42 0 (M3.2.1 42 0 + w)).2.1 42 0
        rw [sJ_at, sJ_ne (by decide), v1, sJ_at, sJ_ne (by decide), j1]
    by_cases x0 : x = 0
    · obtain ⟨M3, v1, v2, v3⟩ := hM1 (sJ M 0 7 (M.2.1 0 7 + 1)) d1
      refine ⟨i32 (pcI (shP S i)), sJ M 0 7 (M.2.1 0 7 + 1), sJ M3 42 0 (M3.2.1 42 0 + 1), ?_, ?_, fin 1 _ rfl M3 v1⟩
      · rw [x0, if_neg (by decide), if_neg (by decide), if_neg (by decide), if_neg (by decide), if_neg (by decide), hP]; rfl
      · rw [v3, x0, if_pos rfl]
    by_cases x1 : x = 1
    · obtain ⟨M3, v1, v2, v3⟩ := hM1 (sJ M 0 7 (M.2.1 0 7 + 11)) d1
      refine ⟨i32 (pcI (shP S i)) + i32 (cQd S i 3), sJ M 0 7 (M.2.1 0 7 + 11), sJ M3 42 0 (M3.2.1 42 0 + 11), ?_, ?_, fin 11 _ rfl M3 v1⟩
      · rw [x1, if_pos rfl]
        unfold fX4_ratePosed wG
        simp only [Option.bind_some, Option.bind_none]
        rw [hPs]
        simp only [Option.bind_some, Option.bind_none]
        rw [show (sJ M 0 7 (M.2.1 0 7 + 10 + 1)).2.2 0 5 = b from hbM, E3c (sJ M 0 7 (M.2.1 0 7 + 10 + 1)) hR]
        simp only [Option.bind_some, Option.bind_none]
        rw [addL]
        rfl
      · rw [v3, x1, if_neg (by decide), if_pos rfl]
    by_cases x2 : x = 2
    · obtain ⟨M3, v1, v2, v3⟩ := hM1 (sJ M 0 7 (M.2.1 0 7 + 101)) d1
      refine ⟨i32 3 * i32 (pcI (shP S i)), sJ M 0 7 (M.2.1 0 7 + 101), sJ M3 42 0 (M3.2.1 42 0 + 101), ?_, ?_, fin 101 _ rfl M3 v1⟩
      · rw [x2, if_neg (by decide), if_pos rfl]
        unfold fX4_rateCrossed wG
        simp only [Option.bind_some, Option.bind_none]
        rw [hPs]
        simp only [Option.bind_some, Option.bind_none]
        rw [addL, Int32.mul_comm]
        rfl
      · rw [v3, x2, if_neg (by decide), if_neg (by decide), if_pos rfl]
    by_cases x4 : x = 4
    · obtain ⟨M3, v1, v2, v3⟩ := hM1 (sJ M 0 7 (M.2.1 0 7 + 10011)) d1
      refine ⟨i32 2 * (i32 (pcI (shP S i)) + i32 (cQd S i 3)), sJ M 0 7 (M.2.1 0 7 + 10011), sJ M3 42 0 (M3.2.1 42 0 + 10011), ?_, ?_, fin 10011 _ rfl M3 v1⟩
      · rw [x4, if_neg (by decide), if_neg (by decide), if_neg (by decide), if_pos rfl]
        unfold fX4_rateCopied fX4_ratePosed wG
        simp only [Option.bind_some, Option.bind_none]
        rw [sJ_at, sJJ, hPs]
        simp only [Option.bind_some, Option.bind_none]
        rw [show (sJ M 0 7 (M.2.1 0 7 + 10000 + 10 + 1)).2.2 0 5 = b from hbM, E3c (sJ M 0 7 (M.2.1 0 7 + 10000 + 10 + 1)) hR]
        simp only [Option.bind_some, Option.bind_none]
        rw [addL, addL, Int32.mul_comm]
        rfl
      · rw [v3, x4, if_neg (by decide), if_neg (by decide), if_neg (by decide), if_neg (by decide), if_pos rfl]
    by_cases x5 : x = 5
    · obtain ⟨M3, v1, v2, v3⟩ := hM1 (sJ M 0 7 (M.2.1 0 7 + 100001)) d1
      refine ⟨i32 (pcI (shP S i)) - i32 (cQd S i 4), sJ M 0 7 (M.2.1 0 7 + 100001), sJ M3 42 0 (M3.2.1 42 0 + 100001), ?_, ?_, fin 100001 _ rfl M3 v1⟩
      · rw [x5, if_neg (by decide), if_neg (by decide), if_neg (by decide), if_neg (by decide), if_pos rfl]
        unfold fX4_rateClocked wG
        simp only [Option.bind_some, Option.bind_none]
        rw [hPs]
        simp only [Option.bind_some, Option.bind_none]
        rw [show (sJ M 0 7 (M.2.1 0 7 + 100000 + 1)).2.2 0 5 = b from hbM, E4c (sJ M 0 7 (M.2.1 0 7 + 100000 + 1)) hR]
        simp only [Option.bind_some, Option.bind_none]
        rw [addL]
        rfl
      · rw [v3, x5, if_neg (by decide), if_neg (by decide), if_neg (by decide), if_neg (by decide), if_neg (by decide)]
    have x3 : x = 3 := by omega
    obtain ⟨M', w1, w2, w3, w4⟩ := waitOf_C (M := sJ M 0 7 (M.2.1 0 7 + 1000)) hS hR hC hi
    obtain ⟨s1, s2, s3, s4⟩ := id w3
    have hb' : M'.2.2 0 5 = b := by rw [s1]; exact hbM
    have hqc : QC b M (M'.1, M.2) := ⟨rfl, fun _ _ => rfl, fun a z1 z2 z3 _ _ _ _ _ => s3 a z1 z2 z3, s4⟩
    have hrm : RM S (M'.1, M.2) := h.rm hqc
    have hSh' : ∀ i, i < cI S → M'.1 (b + 6) i = shP S i := fun i hi => by
      rw [s3 (b + 6) (by omega) (by omega) (by omega)]; exact hSh i hi
    have t7 : M'.2.1 0 7 = M.2.1 0 7 + 1000 := by rw [s2, sJ_at]
    have hPw : fX4_ratePicture (i32 i) (sJ M' 0 7 (M'.2.1 0 7 + 100)) = some (i32 (pcI (shP S i)), sJ M' 0 7 (M.2.1 0 7 + 1101)) := by
      have := rateP_C (M := sJ M' 0 7 (M'.2.1 0 7 + 100)) hS hb' hSh' hi
      rw [sJ_at, sJJ, t7, addL, addL] at this
      rw [t7, addL]
      exact this
    obtain ⟨M3, v1, v2, v3⟩ := hM1 (sJ M' 0 7 (M.2.1 0 7 + 1101)) hrm
    obtain ⟨M5, u1, u2, u3⟩ := waitOf_M (M := sJ M3 42 0 (M3.2.1 42 0 + 1101)) hS v2 hi
    have hI5 : Inv M5 := by
      obtain ⟨y1, y2, y3, y4⟩ := id v1
      obtain ⟨z1, z2, z3, z4⟩ := id u2
      have hVm : Vm (M'.1, M.2) (M5.1, M.2) := ⟨rfl, fun a r1 r2 r3 r4 r5 r6 => (z2 a r1 r2 r3 r4 r5 r6).trans (y2 a r1 r2 r3 r4 r5 r6), fun j r1 r2 => (z3 j r1 r2).trans (y3 j r1 r2), z4.trans y4⟩
      have hq : IV b sp S N K0 K1 N0 N1 L (M5.1, M.2) := h.q hqc w2 hVm
      refine ⟨b, sp, S, N, K0, K1, N0, N1, L, hq.mv2 rfl ?_ ?_⟩
      · show M5.2.2 = M.2.2
        rw [z1]
        show M3.2.2 = M.2.2
        rw [y1]
        exact s1
      · rw [z1, sJ_at, sJ_ne (by decide), y1, sJ_at, sJ_ne (by decide), s2, sJ_ne (by decide), j1]
    have hcx : fX4_rateCrossed (i32 i) M' = some (i32 3 * i32 (pcI (shP S i)), sJ M' 0 7 (M.2.1 0 7 + 1101)) := by
      unfold fX4_rateCrossed wG
      simp only [Option.bind_some, Option.bind_none]
      rw [hPw]
      simp only [Option.bind_some, Option.bind_none]
      rw [Int32.mul_comm]
      rfl
    by_cases hw : i32 (wt S i) = i32 (-9)
    · refine ⟨i32 3 * i32 (pcI (shP S i)) + i32 100, sJ M' 0 7 (M.2.1 0 7 + 1101), M5, ?_, ?_, hI5⟩
      · rw [x3, if_neg (by decide), if_neg (by decide), if_pos rfl]
        unfold fX4_rateWaitedFor wG
        simp only [Option.bind_some, Option.bind_none]
        rw [show (sJ M 0 7 (M.2.1 0 7 + 1000)).2.2 0 5 = b from hbM, w1]
        simp only [Option.bind_some, Option.bind_none]
        rw [hcx]
        simp only [Option.bind_some, Option.bind_none]
        rw [if_pos (show i32 (wt S i) = -9 from hw)]
        rfl
      · rw [v3, x3, if_neg (by decide), if_neg (by decide), if_neg (by decide), if_pos rfl, u1]
        simp only [Option.bind_some, Option.bind_none]
        rw [if_pos hw]
    · refine ⟨i32 3 * i32 (pcI (shP S i)) + i32 (wt S i), sJ M' 0 7 (M.2.1 0 7 + 1101), M5, ?_, ?_, hI5⟩
      · rw [x3, if_neg (by decide), if_neg (by decide), if_pos rfl]
        unfold fX4_rateWaitedFor wG
        simp only [Option.bind_some, Option.bind_none]
        rw [show (sJ M 0 7 (M.2.1 0 7 + 1000)).2.2 0 5 = b from hbM, w1]
        simp only [Option.bind_some, Option.bind_none]
        rw [hcx]
        simp only [Option.bind_some, Option.bind_none]
        rw [if_neg (show ¬ i32 (wt S i) = -9 from hw)]
        rfl
      · rw [v3, x3, if_neg (by decide), if_neg (by decide), if_neg (by decide), if_pos rfl, u1]
        simp only [Option.bind_some, Option.bind_none]
        rw [if_neg hw]

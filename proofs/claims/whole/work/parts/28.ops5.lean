/-! fact, seen. -/
def put4 (M : Mem) (r k : Nat) (a u b v : Int32) : Mem := sI (sI (sI (sI M r k a) r (k + 1) u) r (k + 2) b) r (k + 3) v
theorem put4_ne {M : Mem} {r k : Nat} {a u b v : Int32} {r' : Nat} (h : r' ≠ r) : (put4 M r k a u b v).1 r' = M.1 r' := by unfold put4; rw [sI_ne h, sI_ne h, sI_ne h, sI_ne h]
theorem put4_out {M : Mem} {r k : Nat} {a u b v : Int32} {j : Nat} (h : j < k ∨ k + 4 ≤ j) : (put4 M r k a u b v).1 r j = M.1 r j := by unfold put4; rw [sI_nj (by omega), sI_nj (by omega), sI_nj (by omega), sI_nj (by omega)]
theorem put4_in {M : Mem} {r k : Nat} {a u b v : Int32} : (put4 M r k a u b v).1 r k = a ∧ (put4 M r k a u b v).1 r (k + 1) = u ∧ (put4 M r k a u b v).1 r (k + 2) = b ∧ (put4 M r k a u b v).1 r (k + 3) = v := by
  unfold put4
  refine ⟨?_, ?_, ?_, ?_⟩
  · rw [sI_nj (by omega), sI_nj (by omega), sI_nj (by omega), sI_at]
  · rw [sI_nj (by omega), sI_nj (by omega), sI_at]
  · rw [sI_nj (by omega), sI_at]
  · rw [sI_at]
theorem putRow_C {M : Mem} {r n0 k : Nat} (h : k + 4 ≤ n0 ∧ n0 ≤ 1000) (a u b v : Int32) : fX1_putRow r n0 (i32 k) a u b v M = some (put4 M r k a u b v) := by
  unfold fX1_putRow
  simp only [L0, L1, L2, L3, L4, L5, L6, L7, L8, L9, L10, L11, L12, L13, L15, L16, L20, L24, L31, L32, L40, L41, L48, L50, L57, L59, L63, L80, L81, L96, L97, L99, L100, L122, L144, L199, L255, L400, L1681, L68921, L1000000, i32_add, i32_sub, i32_mul, i32_neg, Option.bind_some, Option.bind_none]
  rw [wI_ok (by omega), show ((k : Int)).toNat = k by omega]
  simp only [Option.bind_some, Option.bind_none]
  rw [wI_ok (by omega), show ((k : Int) + 1).toNat = k + 1 by omega]
  simp only [Option.bind_some, Option.bind_none]
  rw [wI_ok (by omega), show ((k : Int) + 2).toNat = k + 2 by omega]
  simp only [Option.bind_some, Option.bind_none]
  rw [wI_ok (by omega), show ((k : Int) + 3).toNat = k + 3 by omega]
  rfl
/-- a row of four -/
def q4 (a u b v : Int) (j : Nat) : Int := match j with
  | 0 => a
  | 1 => u
  | 2 => b
  | _ => v
def addF (N : Nt) (a u b v : Int) : Nt := (nF N + 1, fun f j => if f = nF N then q4 a u b v j else nFd N f j, nS N, nSd N, nH N)
def addS (N : Nt) (a u b v : Int) : Nt := (nF N, nFd N, nS N + 1, fun f j => if f = nS N then q4 a u b v j else nSd N f j, nH N)
theorem j4 {j : Nat} (h : j < 4) : j = 0 ∨ j = 1 ∨ j = 2 ∨ j = 3 := by omega
theorem fact_keep {N : Nt} {M : Mem} (hr : RNc 4 N M) (hN : okN N) (hlt : nF N < 20) (a u b v : Int) : RNc 4 (addF N a u b v) (sI (put4 M 5 (4 * nF N) (i32 a) (i32 u) (i32 b) (i32 v)) 4 4 (i32 ((nF N + 1 : Nat) : Int))) := by
  obtain ⟨h1, h2, h3, h4, h5⟩ := hr
  refine ⟨by rw [sI_at]; rfl, by rw [sI_nj (by decide), put4_ne (by decide)]; exact h2, fun f j hf hj => ?_, fun s j hs hj => by rw [sI_ne (by decide), put4_ne (by decide)]; exact h4 s j hs hj, fun i hi => by rw [sI_ne (by decide), put4_ne (by decide)]; exact h5 i hi⟩
  show _ = i32 (if f = nF N then q4 a u b v j else nFd N f j)
  rw [sI_ne (show 4 + 1 ≠ 4 by decide)]
  by_cases q : f = nF N
  · subst q
    rw [if_pos rfl]
    obtain ⟨p0, p1, p2, p3⟩ := put4_in (M := M) (r := 5) (k := 4 * nF N) (a := i32 a) (u := i32 u) (b := i32 b) (v := i32 v)
    rcases j4 hj with rfl | rfl | rfl | rfl
    · exact p0
    · exact p1
    · exact p2
    · exact p3
  · rw [if_neg q]
    have hf' : f < nF N + 1 := hf
    have := put4_out (M := M) (r := 5) (k := 4 * nF N) (a := i32 a) (u := i32 u) (b := i32 b) (v := i32 v) (j := 4 * f + j) (by omega)
    exact this.trans (h3 f j (by omega) hj)
theorem seen_keep {N : Nt} {M : Mem} (hr : RNc 4 N M) (hN : okN N) (hlt : nS N < 8) (a u b v : Int) : RNc 4 (addS N a u b v) (sI (put4 M 6 (4 * nS N) (i32 a) (i32 u) (i32 b) (i32 v)) 4 5 (i32 ((nS N + 1 : Nat) : Int))) := by
  obtain ⟨h1, h2, h3, h4, h5⟩ := hr
  refine ⟨by rw [sI_nj (by decide), put4_ne (by decide)]; exact h1, by rw [sI_at]; rfl, fun s j hs hj => by rw [sI_ne (by decide), put4_ne (by decide)]; exact h3 s j hs hj, fun f j hf hj => ?_, fun i hi => by rw [sI_ne (by decide), put4_ne (by decide)]; exact h5 i hi⟩
  show _ = i32 (if f = nS N then q4 a u b v j else nSd N f j)
  rw [sI_ne (show 4 + 2 ≠ 4 by decide)]
  by_cases q : f = nS N
  · subst q
    rw [if_pos rfl]
    obtain ⟨p0, p1, p2, p3⟩ := put4_in (M := M) (r := 6) (k := 4 * nS N) (a := i32 a) (u := i32 u) (b := i32 b) (v := i32 v)
    rcases j4 hj with rfl | rfl | rfl | rfl
    · exact p0
    · exact p1
    · exact p2
    · exact p3
  · rw [if_neg q]
    have hf' : f < nS N + 1 := hf
    have := put4_out (M := M) (r := 6) (k := 4 * nS N) (a := i32 a) (u := i32 u) (b := i32 b) (v := i32 v) (j := 4 * f + j) (by omega)
    exact this.trans (h4 f j (by omega) hj)
/-- the model's four rows, one place each, and the count -/
def putM (M : Mem) (r k c : Nat) (a u b v : Int32) (n : Int32) : Mem := sI (sI (sI (sI (sI M r k a) (r + 1) k u) (r + 2) k b) (r + 3) k v) c 0 n
theorem putM_ne {M : Mem} {r k c : Nat} {a u b v n : Int32} {x : Nat} (h : x < r ∨ r + 4 ≤ x) (hc : x ≠ c) : (putM M r k c a u b v n).1 x = M.1 x := by
  unfold putM
  rw [sI_ne hc, sI_ne (by omega), sI_ne (by omega), sI_ne (by omega), sI_ne (by omega)]
theorem putM_out {M : Mem} {r k c : Nat} {a u b v n : Int32} {x j : Nat} (hc : x ≠ c) (hj : j ≠ k) : (putM M r k c a u b v n).1 x j = M.1 x j := by
  unfold putM
  rw [sI_ne hc]
  by_cases h3 : x = r + 3
  · subst h3; rw [sI_nj hj, sI_ne (by omega), sI_ne (by omega), sI_ne (by omega)]
  · rw [sI_ne h3]
    by_cases h2 : x = r + 2
    · subst h2; rw [sI_nj hj, sI_ne (by omega), sI_ne (by omega)]
    · rw [sI_ne h2]
      by_cases h1 : x = r + 1
      · subst h1; rw [sI_nj hj, sI_ne (by omega)]
      · rw [sI_ne h1]
        by_cases h0 : x = r
        · subst h0; rw [sI_nj hj]
        · rw [sI_ne h0]
theorem putM_in {M : Mem} {r k c : Nat} {a u b v : Int} {n : Int32} {j : Nat} (hj : j < 4) (hc : c < r ∨ r + 4 ≤ c) : (putM M r k c (i32 a) (i32 u) (i32 b) (i32 v) n).1 (r + j) k = i32 (q4 a u b v j) := by
  unfold putM
  rw [sI_ne (by omega)]
  rcases j4 hj with rfl | rfl | rfl | rfl
  · rw [sI_ne (by omega), sI_ne (by omega), sI_ne (by omega), Nat.add_zero, sI_at]; rfl
  · rw [sI_ne (by omega), sI_ne (by omega), sI_at]; rfl
  · rw [sI_ne (by omega), sI_at]; rfl
  · rw [sI_at]; rfl
theorem fact_keepM {N : Nt} {M : Mem} (hr : RNm 0 N M) (a u b v : Int) : RNm 0 (addF N a u b v) (putM M 52 (nF N) 51 (i32 a) (i32 u) (i32 b) (i32 v) (i32 ((nF N + 1 : Nat) : Int))) := by
  obtain ⟨h1, h2, h3, h4, h5⟩ := hr
  refine ⟨by unfold putM; rw [sI_at]; rfl, by rw [putM_ne (by decide) (by decide)]; exact h2, fun f j hf hj => ?_, fun s j hs hj => by rw [putM_ne (by omega) (by omega)]; exact h4 s j hs hj, fun i hi => by rw [putM_ne (by decide) (by decide)]; exact h5 i hi⟩
  show _ = i32 (if f = nF N then q4 a u b v j else nFd N f j)
  rw [Nat.mul_zero, Nat.zero_add]
  by_cases q : f = nF N
  · subst q; rw [if_pos rfl, putM_in hj (by decide)]
  · have hf' : f < nF N + 1 := hf
    have := h3 f j (by omega) hj
    rw [Nat.mul_zero, Nat.zero_add] at this
    rw [if_neg q, putM_out (by omega) q]; exact this
theorem seen_keepM {N : Nt} {M : Mem} (hr : RNm 0 N M) (a u b v : Int) : RNm 0 (addS N a u b v) (putM M 57 (nS N) 56 (i32 a) (i32 u) (i32 b) (i32 v) (i32 ((nS N + 1 : Nat) : Int))) := by
  obtain ⟨h1, h2, h3, h4, h5⟩ := hr
  refine ⟨by rw [putM_ne (by decide) (by decide)]; exact h1, by unfold putM; rw [sI_at]; rfl, fun s j hs hj => by rw [putM_ne (by omega) (by omega)]; exact h3 s j hs hj, fun f j hf hj => ?_, fun i hi => by rw [putM_ne (by decide) (by decide)]; exact h5 i hi⟩
  show _ = i32 (if f = nS N then q4 a u b v j else nSd N f j)
  rw [Nat.mul_zero, Nat.zero_add]
  by_cases q : f = nS N
  · subst q; rw [if_pos rfl, putM_in hj (by decide)]
  · have hf' : f < nS N + 1 := hf
    have := h4 f j (by omega) hj
    rw [Nat.mul_zero, Nat.zero_add] at this
    rw [if_neg q, putM_out (by omega) q]; exact this
theorem im_put {M : Mem} {r k c : Nat} {a u b v n : Int32} (hr : (r = 52 ∧ c = 51 ∧ k < 20) ∨ (r = 57 ∧ c = 56 ∧ k < 8)) {j : Nat} {K : Bool} {N : Nt} (hj : j ≤ 1) (hN : okN N ∨ K = false) (h : Im j K N M) : Im j K N (putM M r k c a u b v n) := by
  obtain ⟨h1, h2, h3⟩ := h
  refine ⟨by rw [putM_ne (by omega) (by omega)]; exact h1, by rw [putM_ne (by omega) (by omega)]; exact h2, fun q => ?_⟩
  obtain ⟨g1, g2, g3⟩ := h3 q
  refine ⟨g1, g2.mv (by rw [putM_ne (by omega) (by omega)]) (by rw [putM_ne (by omega) (by omega)]) (putM_ne (by omega) (by omega)) (putM_ne (by omega) (by omega)) (putM_ne (by omega) (by omega)), ?_⟩
  obtain ⟨m1, m2, m3, m4, m5⟩ := g3
  have hF := g1.1
  have hS := g1.2.2.1
  refine ⟨?_, ?_, fun f j' q1 q2 => ?_, fun s j' q1 q2 => ?_, fun i q => ?_⟩
  · rcases hr with ⟨rfl, rfl, _⟩ | ⟨rfl, rfl, _⟩
    · unfold putM
      rw [sI_nj (by omega), sI_ne (by decide), sI_ne (by decide), sI_ne (by decide), sI_ne (by decide)]; exact m1
    · rw [putM_ne (by decide) (by decide)]; exact m1
  · rcases hr with ⟨rfl, rfl, _⟩ | ⟨rfl, rfl, _⟩
    · rw [putM_ne (by decide) (by decide)]; exact m2
    · unfold putM
      rw [sI_nj (by omega), sI_ne (by decide), sI_ne (by decide), sI_ne (by decide), sI_ne (by decide)]; exact m2
  · rcases hr with ⟨rfl, rfl, hk⟩ | ⟨rfl, rfl, hk⟩
    · rw [putM_out (by omega) (by omega)]; exact m3 f j' q1 q2
    · rw [putM_ne (by omega) (by omega)]; exact m3 f j' q1 q2
  · rcases hr with ⟨rfl, rfl, hk⟩ | ⟨rfl, rfl, hk⟩
    · rw [putM_ne (by omega) (by omega)]; exact m4 s j' q1 q2
    · rw [putM_out (by omega) (by omega)]; exact m4 s j' q1 q2
  · rw [putM_ne (by omega) (by omega)]; exact m5 i q
theorem okN_im {j : Nat} {K : Bool} {N : Nt} {M : Mem} (h : Im j K N M) : okN N ∨ K = false := by
  cases K with
  | false => exact Or.inr rfl
  | true => exact Or.inl (h.2.2 rfl).1
theorem o_fact {M : Mem} (h : Inv M) (a u c v : Int32) : ∃ r M1 M2, fX4_fact a u c v M = some (r, M1) ∧ fX5_fact a u c v M1 = some (r, M2) ∧ Inv M2 := by
  obtain ⟨b, sp, S, N, K0, K1, N0, N1, L, h⟩ := id h
  obtain ⟨a1, i1, c1, d1, ⟨e1, e2, e3⟩, f1, g1, h1, j1, k1⟩ := id h
  have hb := sc_b a1.1
  obtain ⟨a, ha, rfl⟩ := i32_ex a
  obtain ⟨u, hu, rfl⟩ := i32_ex u
  obtain ⟨c, hc, rfl⟩ := i32_ex c
  obtain ⟨v, hv, rfl⟩ := i32_ex v
  have hN20 := e1.1
  have hM0 : ∀ M2, M2.1 51 0 = i32 (nF N) → fX5_fact (i32 a) (i32 u) (i32 c) (i32 v) M2 = (if btw a 0 3 = true then (if btw c 0 3 = true then (if i32 a = i32 c then some (i32 (-1), M2) else (if btw u 0 99 = true then (if btw v 0 99 = true then (if nF N = 20 then some (i32 (-3), M2) else some (i32 ((nF N + 1 : Nat) : Int), putM M2 52 (nF N) 51 (i32 a) (i32 u) (i32 c) (i32 v) (i32 ((nF N + 1 : Nat) : Int)))) else some (i32 (-1), M2)) else some (i32 (-1), M2))) else some (i32 (-1), M2)) else some (i32 (-1), M2)) := by
    intro M2 hM
    unfold fX5_fact
    simp only [L0, L1, L2, L3, L4, L5, L6, L7, L8, L9, L10, L11, L12, L13, L15, L16, L20, L24, L31, L32, L40, L41, L48, L50, L57, L59, L63, L80, L81, L96, L97, L99, L100, L122, L144, L199, L255, L400, L1681, L68921, L1000000, i32_add, i32_sub, i32_mul, i32_neg, Option.bind_some, Option.bind_none]
    rw [in_M (by omega), in_M (by omega), in_M (by omega), in_M (by omega), rI_ok (by omega), show ((0 : Int)).toNat = 0 from rfl, hM]
    simp only [L0, L1, L2, L3, L4, L5, L6, L7, L8, L9, L10, L11, L12, L13, L15, L16, L20, L24, L31, L32, L40, L41, L48, L50, L57, L59, L63, L80, L81, L96, L97, L99, L100, L122, L144, L199, L255, L400, L1681, L68921, L1000000, i32_add, i32_sub, i32_mul, i32_neg, Option.bind_some, Option.bind_none, ite_bI]
    congr 1
    congr 1
    congr 1
    congr 1
    congr 1
    by_cases q : nF N = 20
    · rw [if_pos q, if_pos (by rw [q]; rfl)]
    · rw [if_neg q, if_neg (fun z => q (by have := (i32_inj (by omega)).mp z; omega)), wI_ok (by omega), show ((nF N : Int)).toNat = nF N by omega]
      simp only [Option.bind_some, Option.bind_none]
      rw [wI_ok (by omega), show ((nF N : Int)).toNat = nF N by omega]
      simp only [Option.bind_some, Option.bind_none]
      rw [wI_ok (by omega), show ((nF N : Int)).toNat = nF N by omega]
      simp only [Option.bind_some, Option.bind_none]
      rw [wI_ok (by omega), show ((nF N : Int)).toNat = nF N by omega]
      simp only [Option.bind_some, Option.bind_none]
      rw [rI_ok (by omega), show ((0 : Int)).toNat = 0 from rfl, sI_ne (by decide), sI_ne (by decide), sI_ne (by decide), sI_ne (by decide), hM]
      simp only [L0, L1, L2, L3, L4, L5, L6, L7, L8, L9, L10, L11, L12, L13, L15, L16, L20, L24, L31, L32, L40, L41, L48, L50, L57, L59, L63, L80, L81, L96, L97, L99, L100, L122, L144, L199, L255, L400, L1681, L68921, L1000000, i32_add, i32_sub, i32_mul, i32_neg, Option.bind_some, Option.bind_none]
      rw [wI_ok (by omega), show ((0 : Int)).toNat = 0 from rfl]
      rfl
  have hC0 : fX4_fact (i32 a) (i32 u) (i32 c) (i32 v) M = (if btw a 0 3 = true then (if btw c 0 3 = true then (if i32 a = i32 c then some (i32 (-1), M) else (if btw u 0 99 = true then (if btw v 0 99 = true then (if nF N < 20 then some (i32 ((nF N + 1 : Nat) : Int), sI (put4 M 5 (4 * nF N) (i32 a) (i32 u) (i32 c) (i32 v)) 4 4 (i32 ((nF N + 1 : Nat) : Int))) else some (i32 (-3), M)) else some (i32 (-1), M)) else some (i32 (-1), M))) else some (i32 (-1), M)) else some (i32 (-1), M)) := by
    unfold fX4_fact
    simp only [L0, L1, L2, L3, L4, L5, L6, L7, L8, L9, L10, L11, L12, L13, L15, L16, L20, L24, L31, L32, L40, L41, L48, L50, L57, L59, L63, L80, L81, L96, L97, L99, L100, L122, L144, L199, L255, L400, L1681, L68921, L1000000, i32_add, i32_sub, i32_mul, i32_neg, Option.bind_some, Option.bind_none]
    rw [isBetween_C (by omega), isBetween_C (by omega), isBetween_C (by omega), isBetween_C (by omega), e2.1]
    simp only [L0, L1, L2, L3, L4, L5, L6, L7, L8, L9, L10, L11, L12, L13, L15, L16, L20, L24, L31, L32, L40, L41, L48, L50, L57, L59, L63, L80, L81, L96, L97, L99, L100, L122, L144, L199, L255, L400, L1681, L68921, L1000000, i32_add, i32_sub, i32_mul, i32_neg, Option.bind_some, Option.bind_none, ite_bI]
    congr 1
    congr 1
    congr 1
    congr 1
    congr 1
    by_cases q : nF N < 20
    · rw [if_pos q, if_pos ((i32_lt (by omega)).mpr (by omega))]
      unfold fX1_addFact
      rw [e2.1]
      simp only [L0, L1, L2, L3, L4, L5, L6, L7, L8, L9, L10, L11, L12, L13, L15, L16, L20, L24, L31, L32, L40, L41, L48, L50, L57, L59, L63, L80, L81, L96, L97, L99, L100, L122, L144, L199, L255, L400, L1681, L68921, L1000000, i32_add, i32_sub, i32_mul, i32_neg, Option.bind_some, Option.bind_none]
      rw [if_neg (fun z => absurd ((i32_le (by omega)).mp z) (by omega)), show 4 * (nF N : Int) = ((4 * nF N : Nat) : Int) by omega, putRow_C (by omega)]
      simp only [Option.bind_some, Option.bind_none]
      unfold wF
      simp only [Option.bind_some, Option.bind_none]
      rw [put4_ne (show 4 ≠ 4 + 1 by decide), e2.1, i32_add, sI_at]
      rfl
    · rw [if_neg q, if_neg (fun z => q (by have := (i32_lt (by omega)).mp z; omega))]
  rw [hC0]
  have r51 : M.1 51 0 = i32 (nF N) := e3.1
  cases q1 : btw a 0 3 with
  | false => exact ⟨_, M, M, rfl, by rw [hM0 M r51, q1]; rfl, _, _, _, _, _, _, _, _, _, h⟩
  | true =>
  cases q2 : btw c 0 3 with
  | false => exact ⟨_, M, M, rfl, by rw [hM0 M r51, q1, q2]; rfl, _, _, _, _, _, _, _, _, _, h⟩
  | true =>
  by_cases q3 : i32 a = i32 c
  · exact ⟨_, M, M, by rw [if_pos rfl, if_pos rfl, if_pos q3], by rw [hM0 M r51, q1, q2, if_pos rfl, if_pos rfl, if_pos q3], _, _, _, _, _, _, _, _, _, h⟩
  rw [if_pos rfl, if_pos rfl, if_neg q3]
  cases q4' : btw u 0 99 with
  | false => exact ⟨_, M, M, rfl, by rw [hM0 M r51, q1, q2, if_pos rfl, if_pos rfl, if_neg q3, q4']; rfl, _, _, _, _, _, _, _, _, _, h⟩
  | true =>
  cases q5 : btw v 0 99 with
  | false => exact ⟨_, M, M, rfl, by rw [hM0 M r51, q1, q2, if_pos rfl, if_pos rfl, if_neg q3, q4', q5]; rfl, _, _, _, _, _, _, _, _, _, h⟩
  | true =>
  rw [if_pos rfl, if_pos rfl]
  by_cases q6 : nF N < 20
  · have r51' : (sI (put4 M 5 (4 * nF N) (i32 a) (i32 u) (i32 c) (i32 v)) 4 4 (i32 ((nF N + 1 : Nat) : Int))).1 51 0 = i32 (nF N) := by rw [sI_ne (by decide), put4_ne (by decide)]; exact r51
    refine ⟨_, _, putM (sI (put4 M 5 (4 * nF N) (i32 a) (i32 u) (i32 c) (i32 v)) 4 4 (i32 ((nF N + 1 : Nat) : Int))) 52 (nF N) 51 (i32 a) (i32 u) (i32 c) (i32 v) (i32 ((nF N + 1 : Nat) : Int)), by rw [if_pos q6], ?_, b, sp, S, addF N a u c v, K0, K1, N0, N1, L, ?_⟩
    · rw [hM0 _ r51', q1, q2, if_pos rfl, if_pos rfl, if_neg q3, q4', q5, if_pos rfl, if_pos rfl, if_neg (by omega)]
    · have b1 := btw_t q1
      have b2 := btw_t q2
      have b4 := btw_t q4'
      have b5 := btw_t q5
      have R1 : ∀ x, x ≠ 4 → x ≠ 5 → (sI (put4 M 5 (4 * nF N) (i32 a) (i32 u) (i32 c) (i32 v)) 4 4 (i32 ((nF N + 1 : Nat) : Int))).1 x = M.1 x := fun x z1 z2 => by rw [sI_ne z1, put4_ne z2]
      generalize hM1 : sI (put4 M 5 (4 * nF N) (i32 a) (i32 u) (i32 c) (i32 v)) 4 4 (i32 ((nF N + 1 : Nat) : Int)) = M1 at R1
      have hsnd : M1.2 = M.2 := by rw [← hM1]; rfl
      have hk := fact_keep e2 e1 q6 a u c v
      rw [hM1] at hk
      have R : ∀ x, x ≠ 4 → x ≠ 5 → (x < 51 ∨ 56 ≤ x) → (putM M1 52 (nF N) 51 (i32 a) (i32 u) (i32 c) (i32 v) (i32 ((nF N + 1 : Nat) : Int))).1 x = M.1 x := fun x z1 z2 z3 => by rw [putM_ne (by omega) (by omega), R1 x z1 z2]
      have imv : ∀ (k : Nat) (K : Bool) (N' : Nt), k ≤ 1 → Im k K N' M → Im k K N' (putM M1 52 (nF N) 51 (i32 a) (i32 u) (i32 c) (i32 v) (i32 ((nF N + 1 : Nat) : Int))) := fun k K N' hk2 hi => im_put (Or.inl ⟨rfl, rfl, q6⟩) hk2 (okN_im hi) (hi.mv hk2 (fun x z => R1 x (by omega) (by omega)))
      refine ⟨⟨a1.1, a1.2.1, a1.2.2.1, by show M1.2.2 0 5 = b; rw [hsnd]; exact a1.2.2.2.1, by show M1.2.2 0 6 = sp; rw [hsnd]; exact a1.2.2.2.2⟩, i1.mv (fun x z1 z2 => R x (by omega) (by omega) (by omega)), by rw [R b (by omega) (by omega) (by omega)]; exact c1, d1.mv (fun x z1 z2 => R x (by omega) (by omega) (by omega)), ⟨?_, ?_, ?_⟩, imv 0 K0 N0 (by decide) f1, imv 1 K1 N1 (by decide) g1, h1.mv (by rw [R 1 (by decide) (by decide) (by decide)]) (by rw [R 42 (by decide) (by decide) (by decide)]) (R 2 (by decide) (by decide) (by decide)) (R 43 (by decide) (by decide) (by decide)), by show M1.2.1 0 7 = M1.2.1 42 0; rw [hsnd]; exact j1, by rw [R 65 (by decide) (by decide) (by decide), R 63 (by decide) (by decide) (by decide)]; exact k1⟩
      · refine ⟨by show nF N + 1 ≤ 20; omega, fun f hf => ?_, e1.2.2.1, e1.2.2.2.1, e1.2.2.2.2⟩
        have hf' : f < nF N + 1 := hf
        by_cases z : f = nF N
        · have hz : ∀ j, nFd (addF N a u c v) f j = q4 a u c v j := fun j => if_pos z
          rw [hz, hz, hz, hz]
          exact ⟨b1, b4, b2, b5, fun w => q3 (congrArg i32 w)⟩
        · have hz : ∀ j, nFd (addF N a u c v) f j = nFd N f j := fun j => if_neg z
          rw [hz, hz, hz, hz]
          exact e1.2.1 f (by omega)
      · exact hk.mv (by rw [putM_ne (by decide) (by decide)]) (by rw [putM_ne (by decide) (by decide)]) (putM_ne (by decide) (by decide)) (putM_ne (by decide) (by decide)) (putM_ne (by decide) (by decide))
      · exact fact_keepM (e3.mv (fun x z1 z2 => R1 x (by omega) (by omega))) a u c v
  · exact ⟨_, M, M, by rw [if_neg q6], by rw [hM0 M r51, q1, q2, if_pos rfl, if_pos rfl, if_neg q3, q4', q5, if_pos rfl, if_pos rfl, if_pos (by omega)], _, _, _, _, _, _, _, _, _, h⟩
theorem o_seen {M : Mem} (h : Inv M) (x y t m : Int32) : ∃ r M1 M2, fX4_seen x y t m M = some (r, M1) ∧ fX5_seen x y t m M1 = some (r, M2) ∧ Inv M2 := by
  obtain ⟨b, sp, S, N, K0, K1, N0, N1, L, h⟩ := id h
  obtain ⟨a1, i1, c1, d1, ⟨e1, e2, e3⟩, f1, g1, h1, j1, k1⟩ := id h
  have hb := sc_b a1.1
  obtain ⟨hS, -, hR, hC, -⟩ := id i1
  obtain ⟨x, hx, rfl⟩ := i32_ex x
  obtain ⟨y, hy, rfl⟩ := i32_ex y
  obtain ⟨t, ht, rfl⟩ := i32_ex t
  obtain ⟨m, hm, rfl⟩ := i32_ex m
  have hN8 := e1.2.2.1
  have hM0 : ∀ M2, RM S M2 → M2.1 56 0 = i32 (nS N) → fX5_seen (i32 x) (i32 y) (i32 t) (i32 m) M2 = (if sCell S x y = true then (if btw t 0 99 = true then (if btw m 0 9 = true then (if nS N = 8 then some (i32 (-3), M2) else some (i32 ((nS N + 1 : Nat) : Int), putM M2 57 (nS N) 56 (i32 x) (i32 y) (i32 t) (i32 m) (i32 ((nS N + 1 : Nat) : Int)))) else some (i32 (-1), M2)) else some (i32 (-1), M2)) else some (i32 (-1), M2)) := by
    intro M2 hRM hM
    unfold fX5_seen
    simp only [L0, L1, L2, L3, L4, L5, L6, L7, L8, L9, L10, L11, L12, L13, L15, L16, L20, L24, L31, L32, L40, L41, L48, L50, L57, L59, L63, L80, L81, L96, L97, L99, L100, L122, L144, L199, L255, L400, L1681, L68921, L1000000, i32_add, i32_sub, i32_mul, i32_neg, Option.bind_some, Option.bind_none]
    rw [isOn_M hS hRM ⟨hx, hy⟩, in_M (by omega), in_M (by omega), rI_ok (by omega), show ((0 : Int)).toNat = 0 from rfl, hM]
    simp only [L0, L1, L2, L3, L4, L5, L6, L7, L8, L9, L10, L11, L12, L13, L15, L16, L20, L24, L31, L32, L40, L41, L48, L50, L57, L59, L63, L80, L81, L96, L97, L99, L100, L122, L144, L199, L255, L400, L1681, L68921, L1000000, i32_add, i32_sub, i32_mul, i32_neg, Option.bind_some, Option.bind_none, ite_bI]
    congr 1
    congr 1
    congr 1
    by_cases q : nS N = 8
    · rw [if_pos q, if_pos (by rw [q]; rfl)]
    · rw [if_neg q, if_neg (fun z => q (by have := (i32_inj (by omega)).mp z; omega)), wI_ok (by omega), show ((nS N : Int)).toNat = nS N by omega]
      simp only [Option.bind_some, Option.bind_none]
      rw [wI_ok (by omega), show ((nS N : Int)).toNat = nS N by omega]
      simp only [Option.bind_some, Option.bind_none]
      rw [wI_ok (by omega), show ((nS N : Int)).toNat = nS N by omega]
      simp only [Option.bind_some, Option.bind_none]
      rw [wI_ok (by omega), show ((nS N : Int)).toNat = nS N by omega]
      simp only [Option.bind_some, Option.bind_none]
      rw [rI_ok (by omega), show ((0 : Int)).toNat = 0 from rfl, sI_ne (by decide), sI_ne (by decide), sI_ne (by decide), sI_ne (by decide), hM]
      simp only [L0, L1, L2, L3, L4, L5, L6, L7, L8, L9, L10, L11, L12, L13, L15, L16, L20, L24, L31, L32, L40, L41, L48, L50, L57, L59, L63, L80, L81, L96, L97, L99, L100, L122, L144, L199, L255, L400, L1681, L68921, L1000000, i32_add, i32_sub, i32_mul, i32_neg, Option.bind_some, Option.bind_none]
      rw [wI_ok (by omega), show ((0 : Int)).toNat = 0 from rfl]
      rfl
  have hC0 : fX4_seen (i32 x) (i32 y) (i32 t) (i32 m) M = (if sCell S x y = true then (if btw t 0 99 = true then (if btw m 0 9 = true then (if nS N < 8 then some (i32 ((nS N + 1 : Nat) : Int), sI (put4 M 6 (4 * nS N) (i32 x) (i32 y) (i32 t) (i32 m)) 4 5 (i32 ((nS N + 1 : Nat) : Int))) else some (i32 (-3), M)) else some (i32 (-1), M)) else some (i32 (-1), M)) else some (i32 (-1), M)) := by
    unfold fX4_seen
    simp only [L0, L1, L2, L3, L4, L5, L6, L7, L8, L9, L10, L11, L12, L13, L15, L16, L20, L24, L31, L32, L40, L41, L48, L50, L57, L59, L63, L80, L81, L96, L97, L99, L100, L122, L144, L199, L255, L400, L1681, L68921, L1000000, i32_add, i32_sub, i32_mul, i32_neg, Option.bind_some, Option.bind_none]
    rw [a1.2.2.2.1, isCell_C hS hR ⟨hx, hy⟩, isBetween_C (by omega), isBetween_C (by omega), e2.2.1]
    simp only [L0, L1, L2, L3, L4, L5, L6, L7, L8, L9, L10, L11, L12, L13, L15, L16, L20, L24, L31, L32, L40, L41, L48, L50, L57, L59, L63, L80, L81, L96, L97, L99, L100, L122, L144, L199, L255, L400, L1681, L68921, L1000000, i32_add, i32_sub, i32_mul, i32_neg, Option.bind_some, Option.bind_none, ite_bI]
    congr 1
    congr 1
    congr 1
    by_cases q : nS N < 8
    · rw [if_pos q, if_pos ((i32_lt (by omega)).mpr (by omega))]
      unfold fX1_addSeen
      rw [e2.2.1]
      simp only [L0, L1, L2, L3, L4, L5, L6, L7, L8, L9, L10, L11, L12, L13, L15, L16, L20, L24, L31, L32, L40, L41, L48, L50, L57, L59, L63, L80, L81, L96, L97, L99, L100, L122, L144, L199, L255, L400, L1681, L68921, L1000000, i32_add, i32_sub, i32_mul, i32_neg, Option.bind_some, Option.bind_none]
      rw [if_neg (fun z => absurd ((i32_le (by omega)).mp z) (by omega)), show 4 * (nS N : Int) = ((4 * nS N : Nat) : Int) by omega, putRow_C (by omega)]
      simp only [Option.bind_some, Option.bind_none]
      unfold wF
      simp only [Option.bind_some, Option.bind_none]
      rw [put4_ne (show 4 ≠ 4 + 2 by decide), e2.2.1, i32_add, sI_at]
      rfl
    · rw [if_neg q, if_neg (fun z => q (by have := (i32_lt (by omega)).mp z; omega))]
  rw [hC0]
  have r56 : M.1 56 0 = i32 (nS N) := e3.2.1
  cases q1 : sCell S x y with
  | false => exact ⟨_, M, M, rfl, by rw [hM0 M d1 r56, q1]; rfl, _, _, _, _, _, _, _, _, _, h⟩
  | true =>
  cases q2 : btw t 0 99 with
  | false => exact ⟨_, M, M, rfl, by rw [hM0 M d1 r56, q1, q2]; rfl, _, _, _, _, _, _, _, _, _, h⟩
  | true =>
  cases q3 : btw m 0 9 with
  | false => exact ⟨_, M, M, rfl, by rw [hM0 M d1 r56, q1, q2, q3]; rfl, _, _, _, _, _, _, _, _, _, h⟩
  | true =>
  rw [if_pos rfl, if_pos rfl, if_pos rfl]
  by_cases q6 : nS N < 8
  · have R1 : ∀ z, z ≠ 4 → z ≠ 6 → (sI (put4 M 6 (4 * nS N) (i32 x) (i32 y) (i32 t) (i32 m)) 4 5 (i32 ((nS N + 1 : Nat) : Int))).1 z = M.1 z := fun z z1 z2 => by rw [sI_ne z1, put4_ne z2]
    have hk := seen_keep e2 e1 q6 x y t m
    have hsnd : (sI (put4 M 6 (4 * nS N) (i32 x) (i32 y) (i32 t) (i32 m)) 4 5 (i32 ((nS N + 1 : Nat) : Int))).2 = M.2 := rfl
    generalize sI (put4 M 6 (4 * nS N) (i32 x) (i32 y) (i32 t) (i32 m)) 4 5 (i32 ((nS N + 1 : Nat) : Int)) = M1 at R1 hk hsnd
    have r56' : M1.1 56 0 = i32 (nS N) := by rw [R1 56 (by decide) (by decide)]; exact r56
    have dM : RM S M1 := d1.mv (fun z z1 z2 => R1 z (by omega) (by omega))
    refine ⟨_, _, putM M1 57 (nS N) 56 (i32 x) (i32 y) (i32 t) (i32 m) (i32 ((nS N + 1 : Nat) : Int)), by rw [if_pos q6], ?_, b, sp, S, addS N x y t m, K0, K1, N0, N1, L, ?_⟩
    · rw [hM0 _ dM r56', q1, q2, q3, if_pos rfl, if_pos rfl, if_pos rfl, if_neg (by omega)]
    · have b1 := sCell_iff.mp q1
      have w1 := hS.1
      have w2 := hS.2.1
      have b2 := btw_t q2
      have b3 := btw_t q3
      have R : ∀ z, z ≠ 4 → z ≠ 6 → (z < 56 ∨ 61 ≤ z) → (putM M1 57 (nS N) 56 (i32 x) (i32 y) (i32 t) (i32 m) (i32 ((nS N + 1 : Nat) : Int))).1 z = M.1 z := fun z z1 z2 z3 => by rw [putM_ne (by omega) (by omega), R1 z z1 z2]
      have imv : ∀ (k : Nat) (K : Bool) (N' : Nt), k ≤ 1 → Im k K N' M → Im k K N' (putM M1 57 (nS N) 56 (i32 x) (i32 y) (i32 t) (i32 m) (i32 ((nS N + 1 : Nat) : Int))) := fun k K N' hk2 hi => im_put (Or.inr ⟨rfl, rfl, q6⟩) hk2 (okN_im hi) (hi.mv hk2 (fun z z0 => R1 z (by omega) (by omega)))
      refine ⟨⟨a1.1, a1.2.1, a1.2.2.1, by show M1.2.2 0 5 = b; rw [hsnd]; exact a1.2.2.2.1, by show M1.2.2 0 6 = sp; rw [hsnd]; exact a1.2.2.2.2⟩, i1.mv (fun z z1 z2 => R z (by omega) (by omega) (by omega)), by rw [R b (by omega) (by omega) (by omega)]; exact c1, d1.mv (fun z z1 z2 => R z (by omega) (by omega) (by omega)), ⟨?_, ?_, ?_⟩, imv 0 K0 N0 (by decide) f1, imv 1 K1 N1 (by decide) g1, h1.mv (by rw [R 1 (by decide) (by decide) (by decide)]) (by rw [R 42 (by decide) (by decide) (by decide)]) (R 2 (by decide) (by decide) (by decide)) (R 43 (by decide) (by decide) (by decide)), by show M1.2.1 0 7 = M1.2.1 42 0; rw [hsnd]; exact j1, by rw [R 65 (by decide) (by decide) (by decide), R 63 (by decide) (by decide) (by decide)]; exact k1⟩
      · refine ⟨e1.1, e1.2.1, by show nS N + 1 ≤ 8; omega, fun f hf => ?_, e1.2.2.2.2⟩
        have hf' : f < nS N + 1 := hf
        by_cases z : f = nS N
        · have hz : ∀ j, nSd (addS N x y t m) f j = q4 x y t m j := fun j => if_pos z
          rw [hz, hz, hz, hz]
          show ((0 ≤ x ∧ x ≤ 11) ∧ (0 ≤ y ∧ y ≤ 11) ∧ (0 ≤ t ∧ t ≤ 99) ∧ (0 ≤ m ∧ m ≤ 9))
          omega
        · have hz : ∀ j, nSd (addS N x y t m) f j = nSd N f j := fun j => if_neg z
          rw [hz, hz, hz, hz]
          exact e1.2.2.2.1 f (by omega)
      · exact hk.mv (by rw [putM_ne (by decide) (by decide)]) (by rw [putM_ne (by decide) (by decide)]) (putM_ne (by decide) (by decide)) (putM_ne (by decide) (by decide)) (putM_ne (by decide) (by decide))
      · exact seen_keepM (e3.mv (fun z z1 z2 => R1 z (by omega) (by omega))) x y t m
  · exact ⟨_, M, M, by rw [if_neg q6], by rw [hM0 M d1 r56, q1, q2, q3, if_pos rfl, if_pos rfl, if_pos rfl, if_pos (by omega)], _, _, _, _, _, _, _, _, _, h⟩
/-! count -/
theorem cntM_L {S : Sc} {N : Nt} {M : Mem} (hS : okS S) (hR : RM S M) (x : Int32) : ∀ (d n k : Nat), k + d = 144 → d < n → fX5_count_4L M n x (i32 (fb_ct (fun k => cWl S ((k % 12 : Nat) : Int) ((k / 12 : Nat) : Int)) k)) (i32 k) = fX5_count_4L M 1 x (i32 (wc S)) (i32 144) := by
  intro d
  induction d with
  | zero =>
    intro n k hd hn
    obtain ⟨n, rfl⟩ : ∃ m, n = m + 1 := ⟨n - 1, by omega⟩
    have hk : k = 144 := by omega
    subst hk
    show fX5_count_4B _ x _ (i32 144) M = fX5_count_4B _ x _ (i32 144) M
    unfold fX5_count_4B
    rw [if_pos (show (144 : Int32) ≤ i32 144 by decide), if_pos (show (144 : Int32) ≤ i32 144 by decide)]
    rfl
  | succ d ih =>
    intro n k hd hn
    obtain ⟨n, rfl⟩ : ∃ m, n = m + 1 := ⟨n - 1, by omega⟩
    have ihp := ih n (k + 1) (by omega) (by omega)
    rw [← ihp, fb_ct_succ]
    have hrow := hR.2.2.2.2.1 ((k % 12 : Nat) : Int) ((k / 12 : Nat) : Int) (by omega) (by omega) (by omega) (by omega)
    rw [show (12 * ((k / 12 : Nat) : Int) + ((k % 12 : Nat) : Int)).toNat = k by omega] at hrow
    show fX5_count_4B (fX5_count_4L M n) x _ (i32 k) M = _
    unfold fX5_count_4B
    rw [show (144 : Int32) = i32 144 from rfl, if_neg (fun z => absurd ((i32_le (by omega)).mp z) (by omega)), rI_ok (by omega), show ((k : Int)).toNat = k by omega, hrow]
    unfold fX5_count_26
    simp only [L0, L1, L2, L3, L4, L5, L6, L7, L8, L9, L10, L11, L12, L13, L15, L16, L20, L24, L31, L32, L40, L41, L48, L50, L57, L59, L63, L80, L81, L96, L97, L99, L100, L122, L144, L199, L255, L400, L1681, L68921, L1000000, i32_add, i32_sub, i32_mul, i32_neg, Option.bind_some, Option.bind_none, ite_bI]
    rw [show (k : Int) + 1 = ((k + 1 : Nat) : Int) by omega]
    cases cWl S ((k % 12 : Nat) : Int) ((k / 12 : Nat) : Int) <;> rfl
theorem o_count {M : Mem} (h : Inv M) (x : Int32) : ∃ v, fX4_count x M = some v ∧ fX5_count x M = some v := by
  obtain ⟨b, sp, S, N, K0, K1, N0, N1, L, h⟩ := id h
  obtain ⟨a1, i1, c1, d1, ⟨e1, e2, e3⟩, f1, g1, h1, j1, k1⟩ := id h
  obtain ⟨hS, -, hR, hC, -⟩ := id i1
  have hM0 : fX5_count x M = if x = 0 then some (i32 (cP S)) else if x = 1 then some (i32 (cI S)) else if x = 2 then some (i32 (wc S)) else if x = 3 then some (i32 (nF N)) else if x = 4 then some (i32 (nS N)) else if x = 5 then some (i32 L) else if x = 6 then some (i32 (cW S)) else if x = 7 then some (i32 (cH S)) else some (-1) := by
    have := cntM_L (N := N) hS d1 x 144 FU 0 (by omega) (by unfold FU; omega)
    have e0 : fX5_count x M = fX5_count_4L M 1 x (i32 (wc S)) (i32 144) := this
    rw [e0]
    show fX5_count_4B _ x _ (i32 144) M = _
    unfold fX5_count_4B
    rw [if_pos (show (144 : Int32) ≤ i32 144 by decide)]
    have r0 : ∀ a n : Nat, 0 < n → rI M a n 0 = some (M.1 a 0) := fun a n hn => by rw [show (0 : Int32) = i32 0 from rfl, rI_ok (by omega)]; rfl
    rw [r0 47 2 (by decide), r0 49 2 (by decide), r0 51 3 (by decide), r0 56 3 (by decide), r0 44 2 (by decide), r0 45 2 (by decide), d1.1, d1.2.1, d1.2.2.1, d1.2.2.2.1, e3.1, e3.2.1, h1.2.2.1]
    rfl
  have hC0 : fX4_count x M = if x = 0 then some (i32 (cP S)) else if x = 1 then some (i32 (cI S)) else if x = 2 then some (i32 (wc S)) else if x = 3 then some (i32 (nF N)) else if x = 4 then some (i32 (nS N)) else if x = 5 then some (i32 L) else if x = 6 then some (i32 (cW S)) else if x = 7 then some (i32 (cH S)) else some (-1) := by
    unfold fX4_count
    rw [a1.2.2.2.1, hR.1, hR.2.1, hR.2.2.1, hR.2.2.2.1, c1, e2.1, e2.2.1, h1.2.1]
  rw [hC0, hM0]
  split
  · exact ⟨_, rfl, rfl⟩
  split
  · exact ⟨_, rfl, rfl⟩
  split
  · exact ⟨_, rfl, rfl⟩
  split
  · exact ⟨_, rfl, rfl⟩
  split
  · exact ⟨_, rfl, rfl⟩
  split
  · exact ⟨_, rfl, rfl⟩
  split
  · exact ⟨_, rfl, rfl⟩
  split
  · exact ⟨_, rfl, rfl⟩
  · exact ⟨_, rfl, rfl⟩

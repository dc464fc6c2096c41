theorem wZ_ok {M : Mem} {a n : Nat} {i : Int} (h : 0 ≤ i ∧ i < n ∧ i ≤ 2147483647) : wZ M a n (i32 i) (i32 1) = some (sI M a i.toNat (i32 1)) := by
  have := wI_ok (M := M) (a := a) (n := n) (z := i) (x := i32 1) h
  unfold wI at this
  unfold wZ
  exact this
theorem rN_ok {k : Nat} (h : k ≤ 1) : rN (i32 k) = some (10 + 5 * k) := by
  obtain rfl | rfl : k = 0 ∨ k = 1 := by omega
  · rfl
  · rfl
theorem Im.k {k : Nat} {K : Bool} {N : Nt} {M M' : Mem} (h : Im k K N M) (e1 : M'.1 20 k = M.1 20 k) (e2 : M'.1 62 k = M.1 62 k) (rc : ∀ a, 10 + 5 * k ≤ a → a ≤ 13 + 5 * k → M'.1 a = M.1 a) (rm : okN N → RNm (1 + k) N M → RNm (1 + k) N M') : Im k K N M' := by
  obtain ⟨h1, h2, h3⟩ := h
  refine ⟨by rw [e1]; exact h1, by rw [e2]; exact h2, fun q => ?_⟩
  obtain ⟨g1, g2, g3⟩ := h3 q
  exact ⟨g1, g2.mv (by rw [rc _ (by omega) (by omega)]) (by rw [rc _ (by omega) (by omega)]) (rc _ (by omega) (by omega)) (rc _ (by omega) (by omega)) (rc _ (by omega) (by omega)), rm g1 g3⟩
theorem keep_k {M : Mem} {k : Nat} (hk : k ≤ 1) {N : Nt} (hN : okN N) (hc : RNc 4 N M) (hm : RNm 0 N M) : ∃ v Mc Mm, fX4_keep (i32 k) M = some (v, Mc) ∧ fX5_keep (i32 k) Mc = some (v, Mm) ∧ Mm.2 = M.2 ∧ (∀ a, (a < 10 ∨ 20 < a) → (a < 51 ∨ 62 < a) → Mm.1 a = M.1 a) ∧ RNm 0 N Mm ∧ Im k true N Mm ∧ (∀ j K N', j ≤ 1 → j ≠ k → Im j K N' M → Im j K N' Mm) := by
  obtain ⟨M1, g1, g2, g3, g4⟩ := become_C (c := 10 + 5 * k) (o := 4) (by omega) M
  obtain ⟨M2, k1, k2, k3, k4, k5⟩ := copy_M (s := 0) (t := 1 + k) (by omega) (by omega) (by omega) (sI M1 20 k (i32 1))
  have hr : ∀ a, 51 ≤ a → a ≤ 62 → (sI M1 20 k (i32 1)).1 a = M.1 a := fun a h1 h2 => by rw [sI_ne (by omega)]; exact g3 a (by omega)
  have m0 : RNm 0 N (sI M1 20 k (i32 1)) := hm.mv (fun a h1 h2 => hr a h1 (by omega))
  have m62 : ∀ {j N'}, RNm j N' M2 → RNm j N' (sI M2 62 k (i32 1)) := fun h => h.mv (fun a h1 h2 => sI_ne (by omega))
  refine ⟨i32 (nF N), sI M1 20 k (i32 1), sI M2 62 k (i32 1), ?_, ?_, ?_, ?_, ?_, ?_, ?_⟩
  · unfold fX4_keep
    simp only [L0, L1, L2, L3, L4, L5, L6, L7, L8, L9, L10, L11, L12, L13, L15, L16, L20, L24, L31, L32, L40, L41, L48, L50, L57, L59, L63, L80, L81, L96, L97, L99, L100, L122, L144, L199, L255, L400, L1681, L68921, L1000000]
    rw [isBetween_C (by omega), show btw (k : Int) 0 1 = true by unfold btw; simp only [Bool.and_eq_true, decide_eq_true_eq]; omega]
    simp only [Option.bind_some, Option.bind_none, ite_bI]
    rw [if_pos trivial, rN_ok hk]
    simp only [Option.bind_some, Option.bind_none]
    rw [g1]
    simp only [Option.bind_some, Option.bind_none]
    rw [wZ_ok (by omega), show ((k : Int)).toNat = k by omega]
    simp only [Option.bind_some, Option.bind_none]
    rw [sI_ne (by decide), g3 4 (by omega), hc.1]
  · unfold fX5_keep
    simp only [L0, L1, L2, L3, L4, L5, L6, L7, L8, L9, L10, L11, L12, L13, L15, L16, L20, L24, L31, L32, L40, L41, L48, L50, L57, L59, L63, L80, L81, L96, L97, L99, L100, L122, L144, L199, L255, L400, L1681, L68921, L1000000]
    rw [in_M (by omega), show btw (k : Int) 0 1 = true by unfold btw; simp only [Bool.and_eq_true, decide_eq_true_eq]; omega]
    simp only [Option.bind_some, Option.bind_none, ite_bI]
    rw [if_pos trivial, i32_add, show (1 : Int) + k = ((1 + k : Nat) : Int) by omega, show i32 0 = i32 ((0 : Nat) : Int) from rfl, k1]
    simp only [Option.bind_some, Option.bind_none]
    rw [wZ_ok (by omega), show ((k : Int)).toNat = k by omega]
    simp only [Option.bind_some, Option.bind_none]
    rw [rI_ok (by omega)]
    simp only [Option.bind_some, Option.bind_none]
    rw [sI_ne (by decide)]
    have := (k5 0 N (by omega) hN m0).1
    rw [show (((0 : Nat) : Int)).toNat = 0 from rfl, this]
  · show M2.2 = M.2
    rw [k2]; exact g2
  · intro a h1 h2
    rw [sI_ne (by omega), k3 a (by omega), sI_ne (by omega), g3 a (by omega)]
  · exact m62 (k5 0 N (by omega) hN m0)
  · refine ⟨?_, ?_, fun _ => ⟨hN, ?_, m62 (k4 N hN m0)⟩⟩
    · rw [sI_ne (by decide), k3 20 (by decide), sI_at]; rfl
    · rw [sI_at]; rfl
    · have := g4 N hN hc
      have R : ∀ a, 10 + 5 * k ≤ a → a ≤ 13 + 5 * k → (sI M2 62 k (i32 1)).1 a = M1.1 a := fun a h1 h2 => by rw [sI_ne (by omega), k3 a (by omega), sI_ne (by omega)]
      exact this.mv (by rw [R _ (by omega) (by omega)]) (by rw [R _ (by omega) (by omega)]) (R _ (by omega) (by omega)) (R _ (by omega) (by omega)) (R _ (by omega) (by omega))
  · intro j K N' hj hjk h
    refine h.k ?_ ?_ ?_ ?_
    · rw [sI_ne (by decide), k3 20 (by decide), sI_nj (by omega), g3 20 (by omega)]
    · rw [sI_nj (by omega), k3 62 (by decide), hr 62 (by decide) (by decide)]
    · intro a h1 h2
      rw [sI_ne (by omega), k3 a (by omega), sI_ne (by omega), g3 a (by omega)]
    · intro h1 h2
      exact m62 (k5 (1 + j) N' (by omega) h1 (h2.mv (fun a h1 h2 => hr a h1 (by omega))))
theorem IV.mv3 {b sp : Nat} {S : Sc} {N : Nt} {K0 K1 : Bool} {N0 N1 : Nt} {L : Nat} {M M' : Mem} (h : IV b sp S N K0 K1 N0 N1 L M) {N' : Nt} {K0' K1' : Bool} {N0' N1' : Nt} (e2 : M'.2 = M.2) (r : ∀ a, (a < 4 ∨ 20 < a) → (a < 51 ∨ 62 < a) → M'.1 a = M.1 a) (hn : okN N' ∧ RNc 4 N' M' ∧ RNm 0 N' M') (hi0 : Im 0 K0' N0' M') (hi1 : Im 1 K1' N1' M') : IV b sp S N' K0' K1' N0' N1' L M' := by
  obtain ⟨a1, i1, c1, d1, ⟨p1, p2, p3⟩, f1, g1, h1, j1, k1⟩ := h
  have hb := sc_b a1.1
  refine ⟨by rw [e2]; exact a1, i1.mv (fun a h1 h2 => r a (by omega) (by omega)), by rw [r b (by omega) (by omega)]; exact c1, d1.mv (fun a h1 h2 => r a (by omega) (by omega)), hn, hi0, hi1, h1.mv (by rw [r 1 (by decide) (by decide)]) (by rw [r 42 (by decide) (by decide)]) (r 2 (by decide) (by decide)) (r 43 (by decide) (by decide)), by rw [e2]; exact j1, by rw [r 65 (by decide) (by decide), r 63 (by decide) (by decide)]; exact k1⟩
theorem btw01 {x : Int} (h : btw x 0 1 = true) : ∃ k : Nat, k ≤ 1 ∧ x = k := by
  obtain ⟨h1, h2⟩ := btw_t h
  exact ⟨x.toNat, by omega, by omega⟩
theorem o_keep {M : Mem} (h : Inv M) (x : Int32) : ∃ v M1 M2, fX4_keep x M = some (v, M1) ∧ fX5_keep x M1 = some (v, M2) ∧ Inv M2 := by
  obtain ⟨b, sp, S, N, K0, K1, N0, N1, L, h⟩ := h
  obtain ⟨a1, i1, c1, d1, ⟨p1, p2, p3⟩, f1, g1, h1, j1, k1⟩ := id h
  obtain ⟨x, hx, rfl⟩ := i32_ex x
  cases q : btw x 0 1 with
  | false =>
    refine ⟨i32 (-1), M, M, ?_, ?_, _, _, _, _, _, _, _, _, _, h⟩
    · unfold fX4_keep
      simp only [L0, L1, L2, L3, L4, L5, L6, L7, L8, L9, L10, L11, L12, L13, L15, L16, L20, L24, L31, L32, L40, L41, L48, L50, L57, L59, L63, L80, L81, L96, L97, L99, L100, L122, L144, L199, L255, L400, L1681, L68921, L1000000]
      rw [isBetween_C (by omega), q]
      rfl
    · unfold fX5_keep
      simp only [L0, L1, L2, L3, L4, L5, L6, L7, L8, L9, L10, L11, L12, L13, L15, L16, L20, L24, L31, L32, L40, L41, L48, L50, L57, L59, L63, L80, L81, L96, L97, L99, L100, L122, L144, L199, L255, L400, L1681, L68921, L1000000]
      rw [in_M (by omega), q]
      rfl
  | true =>
    obtain ⟨k, hk, rfl⟩ := btw01 q
    obtain ⟨v, Mc, Mm, t1, t2, t3, t4, t5, t6, t7⟩ := keep_k hk p1 p2 p3
    have hc : RNc 4 N Mm := p2.mv (by rw [t4 4 (by decide) (by decide)]) (by rw [t4 4 (by decide) (by decide)]) (t4 5 (by decide) (by decide)) (t4 6 (by decide) (by decide)) (t4 7 (by decide) (by decide))
    refine ⟨v, Mc, Mm, t1, t2, ?_⟩
    obtain rfl | rfl : k = 0 ∨ k = 1 := by omega
    · exact ⟨b, sp, S, N, true, K1, N, N1, L, h.mv3 t3 (fun a h1 h2 => t4 a (by omega) h2) ⟨p1, hc, t5⟩ t6 (t7 1 K1 N1 (by decide) (by decide) g1)⟩
    · exact ⟨b, sp, S, N, K0, true, N0, N, L, h.mv3 t3 (fun a h1 h2 => t4 a (by omega) h2) ⟨p1, hc, t5⟩ (t7 0 K0 N0 (by decide) (by decide) f1) t6⟩
theorem back_k {M : Mem} {k : Nat} (hk : k ≤ 1) {K : Bool} {N : Nt} (hI : Im k K N M) : ∃ v Mc Mm, fX4_back (i32 k) M = some (v, Mc) ∧ fX5_back (i32 k) Mc = some (v, Mm) ∧ ((K = false ∧ Mc = M ∧ Mm = M) ∨ (K = true ∧ Mm.2 = M.2 ∧ (∀ a, (a < 4 ∨ 7 < a) → (a < 51 ∨ 61 < a) → Mm.1 a = M.1 a) ∧ RNc 4 N Mm ∧ RNm 0 N Mm ∧ okN N ∧ (∀ j K N', j ≤ 1 → Im j K N' M → Im j K N' Mm))) := by
  obtain ⟨h1, h2, h3⟩ := hI
  have hC0 : fX4_back (i32 k) M = if K = true then (fX1_become 4 (10 + 5 * k) M).bind fun v4 => some (v4.1 4 4, v4) else some (i32 (-2), M) := by
    unfold fX4_back
    simp only [L0, L1, L2, L3, L4, L5, L6, L7, L8, L9, L10, L11, L12, L13, L15, L16, L20, L24, L31, L32, L40, L41, L48, L50, L57, L59, L63, L80, L81, L96, L97, L99, L100, L122, L144, L199, L255, L400, L1681, L68921, L1000000]
    rw [isBetween_C (by omega), show btw (k : Int) 0 1 = true by unfold btw; simp only [Bool.and_eq_true, decide_eq_true_eq]; omega]
    simp only [Option.bind_some, Option.bind_none, ite_bI]
    rw [if_pos trivial, rI_ok (by omega), show ((k : Int)).toNat = k by omega, h1, rN_ok hk]
    simp only [Option.bind_some, Option.bind_none, ite_bI]
    rfl
  have hM0 : ∀ M2 : Mem, M2.1 62 k = i32 (bI K) → fX5_back (i32 k) M2 = if K = true then (fX5_copy (i32 ((1 + k : Nat) : Int)) (i32 ((0 : Nat) : Int)) M2).bind fun v3 => (rI v3 51 3 (i32 0)).bind fun v4 => some (v4, v3) else some (i32 (-2), M2) := by
    intro M2 hh
    unfold fX5_back
    simp only [L0, L1, L2, L3, L4, L5, L6, L7, L8, L9, L10, L11, L12, L13, L15, L16, L20, L24, L31, L32, L40, L41, L48, L50, L57, L59, L63, L80, L81, L96, L97, L99, L100, L122, L144, L199, L255, L400, L1681, L68921, L1000000]
    rw [in_M (by omega), show btw (k : Int) 0 1 = true by unfold btw; simp only [Bool.and_eq_true, decide_eq_true_eq]; omega]
    simp only [Option.bind_some, Option.bind_none, ite_bI]
    rw [if_pos trivial, rI_ok (by omega), show ((k : Int)).toNat = k by omega, hh]
    simp only [Option.bind_some, Option.bind_none, ite_bI]
    rw [i32_add, show (1 : Int) + k = ((1 + k : Nat) : Int) by omega]
    rfl
  cases K with
  | false =>
    refine ⟨i32 (-2), M, M, ?_, ?_, Or.inl ⟨rfl, rfl, rfl⟩⟩
    · rw [hC0]; rfl
    · rw [hM0 M h2]; rfl
  | true =>
    obtain ⟨hN, hc, hm⟩ := h3 rfl
    obtain ⟨M1, g1, g2, g3, g4⟩ := become_C (c := 4) (o := 10 + 5 * k) (by omega) M
    obtain ⟨M2, k1, k2, k3, k4, k5⟩ := copy_M (s := 1 + k) (t := 0) (by omega) (by omega) (by omega) M1
    have hr : ∀ a, 51 ≤ a → a ≤ 62 → M1.1 a = M.1 a := fun a h1 h2 => g3 a (by omega)
    have m0 : RNm (1 + k) N M1 := hm.mv (fun a h1 h2 => hr a h1 (by omega))
    have c4 := g4 N hN hc
    have m4 := k4 N hN m0
    refine ⟨i32 (nF N), M1, M2, ?_, ?_, Or.inr ⟨rfl, ?_, ?_, ?_, m4, hN, ?_⟩⟩
    · rw [hC0, if_pos rfl, g1]
      simp only [Option.bind_some, Option.bind_none]
      rw [c4.1]
    · rw [hM0 M1 (by rw [hr 62 (by decide) (by decide)]; exact h2), if_pos rfl, k1]
      simp only [Option.bind_some, Option.bind_none]
      rw [rI_ok (by omega)]
      simp only [Option.bind_some, Option.bind_none]
      have := m4.1
      rw [show (0 : Int).toNat = 0 from rfl, this]
    · rw [k2]; exact g2
    · intro a h1 h2
      rw [k3 a (by omega), g3 a (by omega)]
    · exact c4.mv (by rw [k3 4 (by decide)]) (by rw [k3 4 (by decide)]) (k3 5 (by decide)) (k3 6 (by decide)) (k3 7 (by decide))
    · intro j K' N' hj h
      refine h.k ?_ ?_ ?_ ?_
      · rw [k3 20 (by decide), g3 20 (by omega)]
      · rw [k3 62 (by decide), hr 62 (by decide) (by decide)]
      · intro a h1 h2
        rw [k3 a (by omega), g3 a (by omega)]
      · intro h1 h2
        exact k5 (1 + j) N' (by omega) h1 (h2.mv (fun a h1 h2 => hr a h1 (by omega)))
theorem o_back {M : Mem} (h : Inv M) (x : Int32) : ∃ v M1 M2, fX4_back x M = some (v, M1) ∧ fX5_back x M1 = some (v, M2) ∧ Inv M2 := by
  obtain ⟨b, sp, S, N, K0, K1, N0, N1, L, h⟩ := h
  obtain ⟨a1, i1, c1, d1, ⟨p1, p2, p3⟩, f1, g1, h1, j1, k1⟩ := id h
  obtain ⟨x, hx, rfl⟩ := i32_ex x
  cases q : btw x 0 1 with
  | false =>
    refine ⟨i32 (-1), M, M, ?_, ?_, _, _, _, _, _, _, _, _, _, h⟩
    · unfold fX4_back
      simp only [L0, L1, L2, L3, L4, L5, L6, L7, L8, L9, L10, L11, L12, L13, L15, L16, L20, L24, L31, L32, L40, L41, L48, L50, L57, L59, L63, L80, L81, L96, L97, L99, L100, L122, L144, L199, L255, L400, L1681, L68921, L1000000]
      rw [isBetween_C (by omega), q]
      rfl
    · unfold fX5_back
      simp only [L0, L1, L2, L3, L4, L5, L6, L7, L8, L9, L10, L11, L12, L13, L15, L16, L20, L24, L31, L32, L40, L41, L48, L50, L57, L59, L63, L80, L81, L96, L97, L99, L100, L122, L144, L199, L255, L400, L1681, L68921, L1000000]
      rw [in_M (by omega), q]
      rfl
  | true =>
    obtain ⟨k, hk, rfl⟩ := btw01 q
    have key : ∀ K N', Im k K N' M → ∃ v M1 M2, fX4_back (i32 k) M = some (v, M1) ∧ fX5_back (i32 k) M1 = some (v, M2) ∧ Inv M2 := by
      intro K N' hI
      obtain ⟨v, Mc, Mm, t1, t2, t3⟩ := back_k hk hI
      refine ⟨v, Mc, Mm, t1, t2, ?_⟩
      rcases t3 with ⟨-, -, rfl⟩ | ⟨-, s1, s2, s3, s4, s5, s6⟩
      · exact ⟨_, _, _, _, _, _, _, _, _, h⟩
      · exact ⟨b, sp, S, N', K0, K1, N0, N1, L, h.mv3 s1 (fun a h1 h2 => s2 a (by omega) (by omega)) ⟨s5, s3, s4⟩ (s6 0 K0 N0 (by decide) f1) (s6 1 K1 N1 (by decide) g1)⟩
    obtain rfl | rfl : k = 0 ∨ k = 1 := by omega
    · exact key _ _ f1
    · exact key _ _ g1

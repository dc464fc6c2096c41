/-! keep, back. -/
def Bl (r A B i : Nat) (M M' : Mem) : Prop := ∀ j, M'.1 r j = if B ≤ j ∧ j < B + i then M.1 r (j - B + A) else M.1 r j
theorem Bl.step {r A B i w : Nat} {M Mi M' : Mem} (h : Bl r A B i M Mi) (hi : i < w) (hx : A + w ≤ B ∨ B + w ≤ A) (e1 : M'.1 r (B + i) = Mi.1 r (A + i)) (e2 : ∀ j, j ≠ B + i → M'.1 r j = Mi.1 r j) : Bl r A B (i + 1) M M' := by
  intro j
  by_cases q : j = B + i
  · subst q
    rw [e1, h (A + i), if_neg (by omega), if_pos (by omega), show B + i - B + A = A + i by omega]
  · rw [e2 j q, h j]
    by_cases z : B ≤ j ∧ j < B + i
    · rw [if_pos z, if_pos (by omega)]
    · rw [if_neg z, if_neg (by omega)]
def st4 (M : Mem) (r p q : Nat) : Mem := sI (sI (sI (sI M r p (M.1 r q)) (r + 1) p (M.1 (r + 1) q)) (r + 2) p (M.1 (r + 2) q)) (r + 3) p (M.1 (r + 3) q)
def Q4 (r A B i : Nat) (M M' : Mem) : Prop := M'.2 = M.2 ∧ (∀ a, a < r ∨ r + 3 < a → M'.1 a = M.1 a) ∧ ∀ j, j < 4 → Bl (r + j) A B i M M'
theorem Q4.step {r A B i w : Nat} {M Mi : Mem} (h : Q4 r A B i M Mi) (hi : i < w) (hx : A + w ≤ B ∨ B + w ≤ A) : Q4 r A B (i + 1) M (st4 Mi r (B + i) (A + i)) := by
  obtain ⟨h1, h2, h3⟩ := h
  refine ⟨h1, fun a ha => ?_, fun j hj => ?_⟩
  · unfold st4
    rw [sI_ne (by omega), sI_ne (by omega), sI_ne (by omega), sI_ne (by omega)]
    exact h2 a ha
  · refine (h3 j hj).step hi hx ?_ ?_
    · unfold st4
      rcases j4 hj with rfl | rfl | rfl | rfl
      · rw [sI_ne (by omega), sI_ne (by omega), sI_ne (by omega), Nat.add_zero, sI_at]
      · rw [sI_ne (by omega), sI_ne (by omega), sI_at]
      · rw [sI_ne (by omega), sI_at]
      · rw [sI_at]
    · intro k hk
      unfold st4
      rcases j4 hj with rfl | rfl | rfl | rfl
      · rw [sI_ne (by omega), sI_ne (by omega), sI_ne (by omega), Nat.add_zero, sI_nj hk]
      · rw [sI_ne (by omega), sI_ne (by omega), sI_nj hk, sI_ne (by omega)]
      · rw [sI_ne (by omega), sI_nj hk, sI_ne (by omega), sI_ne (by omega)]
      · rw [sI_nj hk, sI_ne (by omega), sI_ne (by omega), sI_ne (by omega)]
theorem cp26_L {s t : Nat} (hs : s ≤ 2) (ht : t ≤ 2) (hst : s ≠ t) {M : Mem} : ∀ (d n i : Nat) (Mi : Mem), i + d = 20 → d < n → Q4 52 (20 * s) (20 * t) i M Mi → ∃ M', fX5_copy_26L n (i32 s) (i32 t) (i32 i) Mi = fX5_copy_128L FU (i32 s) (i32 t) 0 M' ∧ Q4 52 (20 * s) (20 * t) 20 M M' := by
  intro d
  induction d with
  | zero =>
    intro n i Mi h1 h2 h3
    obtain ⟨n, rfl⟩ : ∃ m, n = m + 1 := ⟨n - 1, by omega⟩
    obtain rfl : i = 20 := by omega
    refine ⟨Mi, ?_, h3⟩
    show fX5_copy_26B (fX5_copy_26L n) _ _ _ _ = _
    unfold fX5_copy_26B
    rw [if_pos (by decide)]
  | succ d ih =>
    intro n i Mi h1 h2 h3
    obtain ⟨n, rfl⟩ : ∃ m, n = m + 1 := ⟨n - 1, by omega⟩
    obtain ⟨M', g1, g2⟩ := ih n (i + 1) (st4 Mi 52 (20 * t + i) (20 * s + i)) (by omega) (by omega) (h3.step (w := 20) (by omega) (by omega))
    refine ⟨M', ?_, g2⟩
    rw [← g1]
    show fX5_copy_26B (fX5_copy_26L n) _ _ _ _ = _
    unfold fX5_copy_26B
    simp only [L0, L1, L2, L3, L4, L5, L6, L7, L8, L9, L10, L11, L12, L13, L15, L16, L20, L24, L31, L32, L40, L41, L48, L50, L57, L59, L63, L80, L81, L96, L97, L99, L100, L122, L144, L199, L255, L400, L1681, L68921, L1000000, i32_add, i32_sub, i32_mul, i32_neg, Option.bind_some, Option.bind_none]
    rw [if_neg (fun z => absurd ((i32_le (by omega)).mp z) (by omega)), rI_ok (by omega), show (20 * (s : Int) + i).toNat = 20 * s + i by omega]
    simp only [Option.bind_some, Option.bind_none]
    rw [wI_ok (by omega), show (20 * (t : Int) + i).toNat = 20 * t + i by omega]
    simp only [Option.bind_some, Option.bind_none]
    rw [rI_ok (by omega), show (20 * (s : Int) + i).toNat = 20 * s + i by omega, sI_ne (by decide)]
    simp only [Option.bind_some, Option.bind_none]
    rw [wI_ok (by omega), show (20 * (t : Int) + i).toNat = 20 * t + i by omega]
    simp only [Option.bind_some, Option.bind_none]
    rw [rI_ok (by omega), show (20 * (s : Int) + i).toNat = 20 * s + i by omega, sI_ne (by decide), sI_ne (by decide)]
    simp only [Option.bind_some, Option.bind_none]
    rw [wI_ok (by omega), show (20 * (t : Int) + i).toNat = 20 * t + i by omega]
    simp only [Option.bind_some, Option.bind_none]
    rw [rI_ok (by omega), show (20 * (s : Int) + i).toNat = 20 * s + i by omega, sI_ne (by decide), sI_ne (by decide), sI_ne (by decide)]
    simp only [Option.bind_some, Option.bind_none]
    rw [wI_ok (by omega), show (20 * (t : Int) + i).toNat = 20 * t + i by omega]
    simp only [Option.bind_some, Option.bind_none]
    rw [show (i : Int) + 1 = ((i + 1 : Nat) : Int) by omega]
    rfl
theorem cp128_L {s t : Nat} (hs : s ≤ 2) (ht : t ≤ 2) (hst : s ≠ t) {M : Mem} : ∀ (d n i : Nat) (Mi : Mem), i + d = 8 → d < n → Q4 57 (8 * s) (8 * t) i M Mi → ∃ M', fX5_copy_128L n (i32 s) (i32 t) (i32 i) Mi = fX5_copy_230L FU (i32 s) (i32 t) 0 M' ∧ Q4 57 (8 * s) (8 * t) 8 M M' := by
  intro d
  induction d with
  | zero =>
    intro n i Mi h1 h2 h3
    obtain ⟨n, rfl⟩ : ∃ m, n = m + 1 := ⟨n - 1, by omega⟩
    obtain rfl : i = 8 := by omega
    refine ⟨Mi, ?_, h3⟩
    show fX5_copy_128B (fX5_copy_128L n) _ _ _ _ = _
    unfold fX5_copy_128B
    rw [if_pos (by decide)]
  | succ d ih =>
    intro n i Mi h1 h2 h3
    obtain ⟨n, rfl⟩ : ∃ m, n = m + 1 := ⟨n - 1, by omega⟩
    obtain ⟨M', g1, g2⟩ := ih n (i + 1) (st4 Mi 57 (8 * t + i) (8 * s + i)) (by omega) (by omega) (h3.step (w := 8) (by omega) (by omega))
    refine ⟨M', ?_, g2⟩
    rw [← g1]
    show fX5_copy_128B (fX5_copy_128L n) _ _ _ _ = _
    unfold fX5_copy_128B
    simp only [L0, L1, L2, L3, L4, L5, L6, L7, L8, L9, L10, L11, L12, L13, L15, L16, L20, L24, L31, L32, L40, L41, L48, L50, L57, L59, L63, L80, L81, L96, L97, L99, L100, L122, L144, L199, L255, L400, L1681, L68921, L1000000, i32_add, i32_sub, i32_mul, i32_neg, Option.bind_some, Option.bind_none]
    rw [if_neg (fun z => absurd ((i32_le (by omega)).mp z) (by omega)), rI_ok (by omega), show (8 * (s : Int) + i).toNat = 8 * s + i by omega]
    simp only [Option.bind_some, Option.bind_none]
    rw [wI_ok (by omega), show (8 * (t : Int) + i).toNat = 8 * t + i by omega]
    simp only [Option.bind_some, Option.bind_none]
    rw [rI_ok (by omega), show (8 * (s : Int) + i).toNat = 8 * s + i by omega, sI_ne (by decide)]
    simp only [Option.bind_some, Option.bind_none]
    rw [wI_ok (by omega), show (8 * (t : Int) + i).toNat = 8 * t + i by omega]
    simp only [Option.bind_some, Option.bind_none]
    rw [rI_ok (by omega), show (8 * (s : Int) + i).toNat = 8 * s + i by omega, sI_ne (by decide), sI_ne (by decide)]
    simp only [Option.bind_some, Option.bind_none]
    rw [wI_ok (by omega), show (8 * (t : Int) + i).toNat = 8 * t + i by omega]
    simp only [Option.bind_some, Option.bind_none]
    rw [rI_ok (by omega), show (8 * (s : Int) + i).toNat = 8 * s + i by omega, sI_ne (by decide), sI_ne (by decide), sI_ne (by decide)]
    simp only [Option.bind_some, Option.bind_none]
    rw [wI_ok (by omega), show (8 * (t : Int) + i).toNat = 8 * t + i by omega]
    simp only [Option.bind_some, Option.bind_none]
    rw [show (i : Int) + 1 = ((i + 1 : Nat) : Int) by omega]
    rfl
theorem cp230_L {s t : Nat} (hs : s ≤ 2) (ht : t ≤ 2) (hst : s ≠ t) {M : Mem} : ∀ (d n i : Nat) (Mi : Mem), i + d = 10 → d < n → (Mi.2 = M.2 ∧ (∀ a, a ≠ 61 → Mi.1 a = M.1 a) ∧ Bl 61 (10 * s) (10 * t) i M Mi) → ∃ M', fX5_copy_230L n (i32 s) (i32 t) (i32 i) Mi = some M' ∧ (M'.2 = M.2 ∧ (∀ a, a ≠ 61 → M'.1 a = M.1 a) ∧ Bl 61 (10 * s) (10 * t) 10 M M') := by
  intro d
  induction d with
  | zero =>
    intro n i Mi h1 h2 h3
    obtain ⟨n, rfl⟩ : ∃ m, n = m + 1 := ⟨n - 1, by omega⟩
    obtain rfl : i = 10 := by omega
    refine ⟨Mi, ?_, h3⟩
    show fX5_copy_230B (fX5_copy_230L n) _ _ _ _ = _
    unfold fX5_copy_230B
    rw [if_pos (by decide)]
  | succ d ih =>
    intro n i Mi h1 h2 h3
    obtain ⟨n, rfl⟩ : ∃ m, n = m + 1 := ⟨n - 1, by omega⟩
    obtain ⟨h3, h4, h5⟩ := h3
    obtain ⟨M', g1, g2⟩ := ih n (i + 1) (sI Mi 61 (10 * t + i) (Mi.1 61 (10 * s + i))) (by omega) (by omega) ⟨h3, fun a ha => by rw [sI_ne ha]; exact h4 a ha, h5.step (w := 10) (by omega) (by omega) (by rw [sI_at]) (fun j hj => by rw [sI_nj hj])⟩
    refine ⟨M', ?_, g2⟩
    rw [← g1]
    show fX5_copy_230B (fX5_copy_230L n) _ _ _ _ = _
    unfold fX5_copy_230B
    simp only [L0, L1, L2, L3, L4, L5, L6, L7, L8, L9, L10, L11, L12, L13, L15, L16, L20, L24, L31, L32, L40, L41, L48, L50, L57, L59, L63, L80, L81, L96, L97, L99, L100, L122, L144, L199, L255, L400, L1681, L68921, L1000000, i32_add, i32_sub, i32_mul, i32_neg, Option.bind_some, Option.bind_none]
    rw [if_neg (fun z => absurd ((i32_le (by omega)).mp z) (by omega)), rI_ok (by omega), show (10 * (s : Int) + i).toNat = 10 * s + i by omega]
    simp only [Option.bind_some, Option.bind_none]
    rw [wI_ok (by omega), show (10 * (t : Int) + i).toNat = 10 * t + i by omega]
    simp only [Option.bind_some, Option.bind_none]
    rw [show (i : Int) + 1 = ((i + 1 : Nat) : Int) by omega]
theorem copy_M {s t : Nat} (hs : s ≤ 2) (ht : t ≤ 2) (hst : s ≠ t) (M : Mem) : ∃ M', fX5_copy (i32 s) (i32 t) M = some M' ∧ M'.2 = M.2 ∧ (∀ a, a < 51 ∨ 61 < a → M'.1 a = M.1 a) ∧ (∀ N, okN N → RNm s N M → RNm t N M') ∧ (∀ k N, k ≠ t → okN N → RNm k N M → RNm k N M') := by
  have E : ∃ M1, M1 = sI (sI M 51 t (M.1 51 s)) 56 t (M.1 56 s) := ⟨_, rfl⟩
  obtain ⟨M1, hM1⟩ := E
  obtain ⟨M2, g1, g2⟩ := cp26_L hs ht hst (M := M1) 20 FU 0 M1 (by omega) (by unfold FU; omega) ⟨rfl, fun _ _ => rfl, fun j hj k => by rw [if_neg (by omega)]⟩
  obtain ⟨M3, g3, g4⟩ := cp128_L hs ht hst (M := M2) 8 FU 0 M2 (by omega) (by unfold FU; omega) ⟨rfl, fun _ _ => rfl, fun j hj k => by rw [if_neg (by omega)]⟩
  obtain ⟨M4, g5, g6⟩ := cp230_L hs ht hst (M := M3) 10 FU 0 M3 (by omega) (by unfold FU; omega) ⟨rfl, fun _ _ => rfl, fun k => by rw [if_neg (by omega)]⟩
  obtain ⟨p1, p2, p3⟩ := g2
  obtain ⟨q1, q2, q3⟩ := g4
  obtain ⟨r1, r2, r3⟩ := g6
  have f51 : M4.1 51 = (sI M 51 t (M.1 51 s)).1 51 := by
    rw [r2 51 (by decide), q2 51 (by decide), p2 51 (by decide), hM1, sI_ne (by decide)]
  have f56 : M4.1 56 = (sI M 56 t (M.1 56 s)).1 56 := by
    rw [r2 56 (by decide), q2 56 (by decide), p2 56 (by decide), hM1]
    funext j
    by_cases hj : j = t
    · subst hj; rw [sI_at, sI_at]
    · rw [sI_nj hj, sI_nj hj, sI_ne (by decide)]
  have fA : ∀ j k, j < 4 → M4.1 (52 + j) k = if 20 * t ≤ k ∧ k < 20 * t + 20 then M.1 (52 + j) (k - 20 * t + 20 * s) else M.1 (52 + j) k := fun j k hj => by
    rw [r2 _ (by omega), q2 _ (by omega), p3 j hj k, hM1, sI_ne (by omega), sI_ne (by omega)]
  have fS : ∀ j k, j < 4 → M4.1 (57 + j) k = if 8 * t ≤ k ∧ k < 8 * t + 8 then M.1 (57 + j) (k - 8 * t + 8 * s) else M.1 (57 + j) k := fun j k hj => by
    rw [r2 _ (by omega), q3 j hj k, p2 _ (by omega), hM1, sI_ne (by omega), sI_ne (by omega)]
  have fH : ∀ k, M4.1 61 k = if 10 * t ≤ k ∧ k < 10 * t + 10 then M.1 61 (k - 10 * t + 10 * s) else M.1 61 k := fun k => by
    rw [r3 k, q2 _ (by omega), p2 _ (by omega), hM1, sI_ne (by omega), sI_ne (by omega)]
  refine ⟨M4, ?_, ?_, ?_, ?_, ?_⟩
  · unfold fX5_copy
    rw [rI_ok (by omega), show ((s : Int)).toNat = s by omega]
    simp only [Option.bind_some, Option.bind_none]
    rw [wI_ok (by omega), show ((t : Int)).toNat = t by omega]
    simp only [Option.bind_some, Option.bind_none]
    rw [rI_ok (by omega), show ((s : Int)).toNat = s by omega, sI_ne (by decide)]
    simp only [Option.bind_some, Option.bind_none]
    rw [wI_ok (by omega), show ((t : Int)).toNat = t by omega]
    simp only [Option.bind_some, Option.bind_none]
    rw [← hM1]
    exact g1.trans (g3.trans g5)
  · rw [r1, q1, p1, hM1]; rfl
  · intro a ha
    rw [r2 a (by omega), q2 a (by omega), p2 a (by omega), hM1, sI_ne (by omega), sI_ne (by omega)]
  · intro N hN hr
    obtain ⟨h1, h2, h3, h4, h5⟩ := hr
    have hF := hN.1
    have hS := hN.2.2.1
    refine ⟨by rw [f51, sI_at]; exact h1, by rw [f56, sI_at]; exact h2, fun f j q1 q2 => ?_, fun f j q1 q2 => ?_, fun i q => ?_⟩
    · rw [fA j _ q2, if_pos (by omega), show 20 * t + f - 20 * t + 20 * s = 20 * s + f by omega]; exact h3 f j q1 q2
    · rw [fS j _ q2, if_pos (by omega), show 8 * t + f - 8 * t + 8 * s = 8 * s + f by omega]; exact h4 f j q1 q2
    · rw [fH, if_pos (by omega), show 10 * t + i - 10 * t + 10 * s = 10 * s + i by omega]; exact h5 i q
  · intro k N hk hN hr
    obtain ⟨h1, h2, h3, h4, h5⟩ := hr
    have hF := hN.1
    have hS := hN.2.2.1
    refine ⟨by rw [f51, sI_nj hk]; exact h1, by rw [f56, sI_nj hk]; exact h2, fun f j q1 q2 => ?_, fun f j q1 q2 => ?_, fun i q => ?_⟩
    · rw [fA j _ q2, if_neg (by omega)]; exact h3 f j q1 q2
    · rw [fS j _ q2, if_neg (by omega)]; exact h4 f j q1 q2
    · rw [fH, if_neg (by omega)]; exact h5 i q
/-- the class's copy -/
theorem become_C {c o : Nat} (h : c + 5 ≤ o ∨ o + 5 ≤ c) (M : Mem) : ∃ M', fX1_become c o M = some M' ∧ M'.2 = M.2 ∧ (∀ a, a < c ∨ c + 3 < a → M'.1 a = M.1 a) ∧ (∀ N, okN N → RNc o N M → RNc c N M') := by
  have E : fX1_become c o M = some (sI (sI (sW (sW (sW M (c + 1) (va_cpy (M.1 (o + 1)) (M.1 (c + 1)) 0 0 80)) (c + 2) (va_cpy (M.1 (o + 2)) (M.1 (c + 2)) 0 0 32)) (c + 3) (va_cpy (M.1 (o + 3)) (M.1 (c + 3)) 0 0 10)) c 4 (M.1 o 4)) c 5 (M.1 o 5)) := by
    unfold fX1_become cpI
    rw [if_pos (by decide)]
    simp only [Option.bind_some, Option.bind_none]
    rw [if_pos (by decide), (sW_o (M := M) (o + 2) (by omega)).1, (sW_o (M := M) (c + 2) (by omega)).1]
    simp only [Option.bind_some, Option.bind_none]
    rw [if_pos (by decide), (sW_o (o + 3) (by omega)).1, (sW_o (o + 3) (by omega)).1, (sW_o (c + 3) (by omega)).1, (sW_o (c + 3) (by omega)).1]
    simp only [Option.bind_some, Option.bind_none]
    rw [(sW_o o (by omega)).1, (sW_o o (by omega)).1, (sW_o o (by omega)).1]
    unfold wF
    simp only [Option.bind_some, Option.bind_none]
    rw [sI_ne (by omega), (sW_o o (by omega)).1, (sW_o o (by omega)).1, (sW_o o (by omega)).1]
    rfl
  refine ⟨_, E, rfl, fun a ha => ?_, fun N hN hr => ?_⟩
  · rw [sI_ne (by omega), sI_ne (by omega), (sW_o a (by omega)).1, (sW_o a (by omega)).1, (sW_o a (by omega)).1]
  · obtain ⟨h1, h2, h3, h4, h5⟩ := hr
    have hF := hN.1
    have hS := hN.2.2.1
    refine ⟨by rw [sI_nj (by decide), sI_at]; exact h1, by rw [sI_at]; exact h2, fun f j q1 q2 => ?_, fun f j q1 q2 => ?_, fun i q => ?_⟩
    · rw [sI_ne (by omega), sI_ne (by omega), (sW_o (c + 1) (by omega)).1, (sW_o (c + 1) (by omega)).1, sW_k]
      unfold va_cpy
      rw [if_pos (by omega), Nat.sub_zero, Nat.zero_add]
      exact h3 f j q1 q2
    · rw [sI_ne (by omega), sI_ne (by omega), (sW_o (c + 2) (by omega)).1, sW_k]
      unfold va_cpy
      rw [if_pos (by omega), Nat.sub_zero, Nat.zero_add]
      exact h4 f j q1 q2
    · rw [sI_ne (by omega), sI_ne (by omega), sW_k]
      unfold va_cpy
      rw [if_pos (by omega), Nat.sub_zero, Nat.zero_add]
      exact h5 i q

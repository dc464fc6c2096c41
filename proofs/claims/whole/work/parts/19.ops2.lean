/-! hidden; waits, lost. -/
theorem one_s {S : Sc} (hS : okS S) {x y w t a s : Int} {p : Nat} (hp : p < cP S) (hw : 0 ≤ w ∧ w ≤ 3) : bt (onS S (x + vx w a s) (y + vy w a s) t) p = (there S p t && decide (a = sA S x y w p t ∧ s = sS S x y w p t)) := by
  have h8 := hS.2.2.1
  rw [bt_onS hS (by omega), decide_eq_true hp, Bool.true_and]
  unfold onB
  cases hth : there S p t with
  | false => rfl
  | true =>
    rw [Bool.true_and, Bool.true_and]
    apply decide_eq_decide.mpr
    constructor
    · rintro ⟨ex, ey⟩
      have e := inv_2 (a := a) (s := s) hw
      unfold sA sS
      rw [ex, ey, show x + vx w a s - x = vx w a s by omega, show y + vy w a s - y = vy w a s by omega]
      exact ⟨e.1.symm, e.2.symm⟩
    · rintro ⟨ea, es⟩
      have e := inv_1 (dx := px S p t - x) (dy := py S p t - y) hw
      subst ea es
      have e1 := e.1
      have e2 := e.2
      unfold sA sS
      omega
theorem aheadI_L {S : Sc} {M : Mem} (hS : okS S) (hR : RM S M) {x y w t : Int} (hL : Lk x y w t M) (hv : vw S x y w) (ht : -1000 ≤ t ∧ t ≤ 1000) {r a : Int} (ha : 1 ≤ a ∧ a ≤ 9) {p : Nat} (hp : p < cP S) (k2 : Int32 → Int32 → Int32 → Mem → Option (Int32 × Mem)) : ∀ (d n : Nat) (s : Int), -(a / 2) ≤ s → s + d = a / 2 + 1 → d < n → fX5_aheadOf_13L k2 n (i32 p) (i32 r) (i32 a) (i32 s) M = (if there S p t = true ∧ a = sA S x y w p t ∧ s ≤ sS S x y w p t ∧ sS S x y w p t ≤ a / 2 then some (i32 a, sI M 42 19 (i32 (sS S x y w p t))) else k2 (i32 p) (i32 r) (i32 (a + 1)) M) := by
  obtain ⟨⟨hx, hy⟩, hw⟩ := id hv
  have h8 := hS.2.2.1
  have w1 := hS.1
  have w2 := hS.2.1
  have hh := half_b ha
  intro d
  induction d with
  | zero =>
    intro n s h0 h1 hn
    obtain ⟨n, rfl⟩ : ∃ m, n = m + 1 := ⟨n - 1, by omega⟩
    show fX5_aheadOf_13B k2 _ (i32 p) (i32 r) (i32 a) (i32 s) M = _
    unfold fX5_aheadOf_13B
    simp only [L0, L1, L2, L3, L4, L5, L6, L7, L8, L9, L10, L11, L12, L13, L15, L16, L20, L24, L31, L32, L40, L41, L48, L50, L57, L59, L63, L80, L81, L96, L97, L99, L100, L122, L144, L199, L255, L400, L1681, L68921, L1000000, i32_add, i32_sub, i32_mul, i32_neg, Option.bind_some, Option.bind_none]
    rw [i32_div (by omega), if_pos ((i32_lt (by omega)).mpr (by omega)), if_neg (by omega)]
  | succ d ih =>
    intro n s h0 h1 hn
    obtain ⟨n, rfl⟩ : ∃ m, n = m + 1 := ⟨n - 1, by omega⟩
    show fX5_aheadOf_13B k2 (fX5_aheadOf_13L k2 n) (i32 p) (i32 r) (i32 a) (i32 s) M = _
    have hb2 := vx_b2 w (a := a) (s := s) (by omega)
    unfold fX5_aheadOf_13B
    rw [show (2 : Int32) = i32 2 from rfl, i32_div (by omega), if_neg (fun q => absurd ((i32_lt (by omega)).mp q) (by omega)), xAt_M hL hw, yAt_M hL hw]
    simp only [Option.bind_some, Option.bind_none]
    rw [hL.2.2.2, thoseOn_M hS hR ht (by omega)]
    simp only [Option.bind_some, Option.bind_none]
    rw [i32_nI, bit_of (by omega), one_s hS hp hw]
    simp only [L0, L1, L2, L3, L4, L5, L6, L7, L8, L9, L10, L11, L12, L13, L15, L16, L20, L24, L31, L32, L40, L41, L48, L50, L57, L59, L63, L80, L81, L96, L97, L99, L100, L122, L144, L199, L255, L400, L1681, L68921, L1000000, i32_add, i32_sub, i32_mul, i32_neg, Option.bind_some, Option.bind_none]
    rw [← i32_nI]
    rw [ih n (s + 1) (by omega) (by omega) (by omega)]
    cases hth : there S p t with
    | false =>
      rw [Bool.false_and, if_neg (by decide), if_neg (fun q => by cases q.1), if_neg (fun q => by cases q.1)]
    | true =>
      rw [Bool.true_and]
      by_cases hq : a = sA S x y w p t ∧ s = sS S x y w p t
      · rw [decide_eq_true hq, if_pos (show i32 (bI true) = i32 1 from rfl), if_pos ⟨rfl, by omega⟩]
        rw [hq.2]
        rfl
      · rw [decide_eq_false hq, if_neg (by decide)]
        by_cases hq2 : a = sA S x y w p t ∧ s ≤ sS S x y w p t ∧ sS S x y w p t ≤ a / 2
        · rw [if_pos ⟨rfl, by omega⟩, if_pos ⟨rfl, by omega⟩]
        · rw [if_neg (fun q => hq2 (by omega)), if_neg (fun q => hq2 (by omega))]
theorem aheadO_L {S : Sc} {M : Mem} (hS : okS S) (hR : RM S M) {x y w t : Int} (hL : Lk x y w t M) (hv : vw S x y w) (ht : -1000 ≤ t ∧ t ≤ 1000) {r : Int} (hr : 0 ≤ r ∧ r ≤ 9) {p : Nat} (hp : p < cP S) : ∀ (d n : Nat) (a : Int), 1 ≤ a → a + d = r + 1 → d < n → fX5_aheadOf_2L n (i32 p) (i32 r) (i32 a) M = (if there S p t = true ∧ a ≤ sA S x y w p t ∧ sA S x y w p t ≤ r ∧ -(sA S x y w p t / 2) ≤ sS S x y w p t ∧ sS S x y w p t ≤ sA S x y w p t / 2 then some (i32 (sA S x y w p t), sI M 42 19 (i32 (sS S x y w p t))) else some (i32 0, M)) := by
  intro d
  induction d with
  | zero =>
    intro n a h0 h1 hn
    obtain ⟨n, rfl⟩ : ∃ m, n = m + 1 := ⟨n - 1, by omega⟩
    show fX5_aheadOf_2B _ (i32 p) (i32 r) (i32 a) M = _
    unfold fX5_aheadOf_2B
    rw [if_pos ((i32_lt (by omega)).mpr (by omega)), if_neg (by omega)]
    rfl
  | succ d ih =>
    intro n a h0 h1 hn
    obtain ⟨n, rfl⟩ : ∃ m, n = m + 1 := ⟨n - 1, by omega⟩
    show fX5_aheadOf_2B (fX5_aheadOf_2L n) (i32 p) (i32 r) (i32 a) M = _
    have hh := half_b (a := a) (by omega)
    unfold fX5_aheadOf_2B
    rw [if_neg (fun q => absurd ((i32_lt (by omega)).mp q) (by omega))]
    rw [show (2 : Int32) = i32 2 from rfl, i32_div (by omega), i32_neg, hh.1, aheadI_L hS hR hL hv ht (by omega) hp _ (2 * (a / 2) + 1).toNat FU (-(a / 2)) (by omega) (by omega) (by unfold FU; omega), ih n (a + 1) (by omega) (by omega) (by omega)]
    by_cases hq : there S p t = true ∧ a = sA S x y w p t ∧ -(a / 2) ≤ sS S x y w p t ∧ sS S x y w p t ≤ a / 2
    · rw [if_pos hq, if_pos (by obtain ⟨q1, q2, q3, q4⟩ := hq; rw [← q2]; exact ⟨q1, by omega, by omega, q3, q4⟩), ← hq.2.1]
    · rw [if_neg hq]
      by_cases hq2 : there S p t = true ∧ a + 1 ≤ sA S x y w p t ∧ sA S x y w p t ≤ r ∧ -(sA S x y w p t / 2) ≤ sS S x y w p t ∧ sS S x y w p t ≤ sA S x y w p t / 2
      · rw [if_pos hq2, if_pos ⟨hq2.1, by omega, hq2.2.2⟩]
      · rw [if_neg hq2, if_neg]
        rintro ⟨q1, q2, q3, q4, q5⟩
        by_cases he : a = sA S x y w p t
        · exact hq ⟨q1, he, by rw [he]; exact q4, by rw [he]; exact q5⟩
        · exact hq2 ⟨q1, by omega, q3, q4, q5⟩
theorem inV_iff {S : Sc} {x y w r t : Int} {p : Nat} (hr : r ≤ 9) : inV S x y w r t p = true ↔ there S p t = true ∧ 1 ≤ sA S x y w p t ∧ sA S x y w p t ≤ r ∧ -(sA S x y w p t / 2) ≤ sS S x y w p t ∧ sS S x y w p t ≤ sA S x y w p t / 2 := by
  unfold inV
  rw [Bool.and_eq_true, decide_eq_true_iff]
  constructor
  · rintro ⟨h1, c1, c2, c3⟩
    have hh := half_b (a := sA S x y w p t) (by omega)
    rw [hh.1] at c3
    refine ⟨h1, by omega, by omega, ?_⟩
    unfold aI at c3
    split at c3 <;> omega
  · rintro ⟨h1, c1, c2, c3, c4⟩
    have hh := half_b (a := sA S x y w p t) (by omega)
    rw [hh.1]
    refine ⟨h1, by omega, by omega, ?_⟩
    unfold aI
    split <;> omega
theorem aheadOf_M {S : Sc} {M : Mem} (hS : okS S) (hR : RM S M) {x y w t : Int} (hL : Lk x y w t M) (hv : vw S x y w) (ht : -1000 ≤ t ∧ t ≤ 1000) {r : Int} (hr : 0 ≤ r ∧ r ≤ 9) {p : Nat} (hp : p < cP S) : ∃ M', fX5_aheadOf (i32 p) (i32 r) M = some (i32 (if inV S x y w r t p = true then sA S x y w p t else 0), M') ∧ Vm M M' ∧ RM S M' ∧ Lk x y w t M' ∧ (inV S x y w r t p = true → M'.1 42 19 = i32 (sS S x y w p t)) := by
  unfold fX5_aheadOf
  rw [show (1 : Int32) = i32 1 from rfl, aheadO_L hS hR hL hv ht hr hp r.toNat FU 1 (by omega) (by omega) (by unfold FU; omega)]
  by_cases hq : inV S x y w r t p = true
  · rw [if_pos ((inV_iff hr.2).mp hq), if_pos hq]
    have hvm : Vm M (sI M 42 19 (i32 (sS S x y w p t))) := Vm.f (by decide)
    refine ⟨_, rfl, hvm, hR.vm hvm, ?_, fun _ => sI_at _ _ _ _⟩
    obtain ⟨l1, l2, l3, l4⟩ := hL
    exact ⟨by rw [sI_nj (by decide)]; exact l1, by rw [sI_nj (by decide)]; exact l2, by rw [sI_nj (by decide)]; exact l3, by rw [sI_nj (by decide)]; exact l4⟩
  · rw [if_neg (fun q => hq ((inV_iff hr.2).mpr q)), if_neg hq]
    exact ⟨M, rfl, Vm.rf, hR, hL, fun q => absurd q hq⟩
theorem stateIn_C {b : Nat} {S : Sc} {M : Mem} (hS : okS S) (hR : RC b S M) (hC : Cached b S M) {i p : Nat} (hi : i < cI S) (hp : p < cP S) : ∃ M', fX2_stateInPicture b (i32 i) (i32 p) M = some (i32 (stF S (cQd S i 0) (cQd S i 1) (cQd S i 2) (cQd S i 3) (cQd S i 4) p), M') ∧ Cached b S M' ∧ Sm b M M' ∧ RC b S M' := by
  obtain ⟨h0, h1, h2, h3, h4⟩ := hS.2.2.2.2.2.1 i hi
  obtain ⟨M', g1, g2, g3, g4⟩ := standAt_C hS hR hC (t := cQd S i 4) (by omega)
  refine ⟨M', ?_, g2.cached (by omega), g3, g4⟩
  have E0 := ofPicture_C hS g4 hi (show 0 < 5 by decide)
  have E1 := ofPicture_C hS g4 hi (show 1 < 5 by decide)
  have E2 := ofPicture_C hS g4 hi (show 2 < 5 by decide)
  have E3 := ofPicture_C hS g4 hi (show 3 < 5 by decide)
  have E4 := ofPicture_C hS hR hi (show 4 < 5 by decide)
  rw [show ((0 : Nat) : Int) = 0 from rfl] at E0
  rw [show ((1 : Nat) : Int) = 1 from rfl] at E1
  rw [show ((2 : Nat) : Int) = 2 from rfl] at E2
  rw [show ((3 : Nat) : Int) = 3 from rfl] at E3
  rw [show ((4 : Nat) : Int) = 4 from rfl] at E4
  unfold fX2_stateInPicture
  simp only [L0, L1, L2, L3, L4, L5, L6, L7, L8, L9, L10, L11, L12, L13, L15, L16, L20, L24, L31, L32, L40, L41, L48, L50, L57, L59, L63, L80, L81, L96, L97, L99, L100, L122, L144, L199, L255, L400, L1681, L68921, L1000000, i32_add, i32_sub, i32_mul, i32_neg, Option.bind_some, Option.bind_none]
  rw [E4]
  simp only [Option.bind_some, Option.bind_none]
  rw [g1]
  simp only [Option.bind_some, Option.bind_none]
  rw [E0, E1, E2, E3]
  simp only [Option.bind_some, Option.bind_none]
  rw [stateOf_C hS g4 g2 (vw_q hS hi) (by omega) hp]
  rfl
theorem hidden_op {b : Nat} {S : Sc} {M : Mem} (hI : IC b S M) (hb : M.2.2 0 5 = b) (x y : Int32) : ∃ v M1, fX4_hidden x y M = some (v, M1) ∧ QC b M M1 ∧ Cached b S M1 ∧ ∀ M2, RM S M2 → ∃ M3, fX5_hidden x y M2 = some (v, M3) ∧ Vm M2 M3 := by
  obtain ⟨hS, -, hR, hC, -⟩ := hI
  obtain ⟨x, hx, rfl⟩ := i32_ex x
  obtain ⟨y, hy, rfl⟩ := i32_ex y
  have hM0 : ∀ M2, RM S M2 → fX5_hidden (i32 x) (i32 y) M2 = (if btw x 0 ((cI S : Int) - 1) = true then (if btw y 0 ((cP S : Int) - 1) = true then ((rI M2 50 100 (i32 (5 * x + 4))).bind fun v3 => (fX5_lookAs (i32 x) v3 M2).bind fun v4 => (rI v4 50 100 (i32 (5 * x + 3))).bind fun v5 => (fX5_aheadOf (i32 y) v5 v4).bind fun v6 => if v6.1 = i32 0 then some (i32 0, v6.2) else (fX5_hides v6.1 (v6.2.1 42 19) v6.2).bind fun v7 => some (v7, v6.2)) else some (i32 (-1), M2)) else some (i32 (-1), M2)) := by
    intro M2 hM
    unfold fX5_hidden
    simp only [L0, L1, L2, L3, L4, L5, L6, L7, L8, L9, L10, L11, L12, L13, L15, L16, L20, L24, L31, L32, L40, L41, L48, L50, L57, L59, L63, L80, L81, L96, L97, L99, L100, L122, L144, L199, L255, L400, L1681, L68921, L1000000, i32_add, i32_sub, i32_mul, i32_neg, Option.bind_some, Option.bind_none]
    rw [isPicture_M hS hM hx, isPerson_M hS hM hy]
    simp only [L0, L1, L2, L3, L4, L5, L6, L7, L8, L9, L10, L11, L12, L13, L15, L16, L20, L24, L31, L32, L40, L41, L48, L50, L57, L59, L63, L80, L81, L96, L97, L99, L100, L122, L144, L199, L255, L400, L1681, L68921, L1000000, i32_add, i32_sub, i32_mul, i32_neg, Option.bind_some, Option.bind_none, ite_bI]
  unfold fX4_hidden
  simp only [L0, L1, L2, L3, L4, L5, L6, L7, L8, L9, L10, L11, L12, L13, L15, L16, L20, L24, L31, L32, L40, L41, L48, L50, L57, L59, L63, L80, L81, L96, L97, L99, L100, L122, L144, L199, L255, L400, L1681, L68921, L1000000, i32_add, i32_sub, i32_mul, i32_neg, Option.bind_some, Option.bind_none]
  rw [hb, isPicture_C hS hR hx, isPerson_C hS hR hy]
  simp only [L0, L1, L2, L3, L4, L5, L6, L7, L8, L9, L10, L11, L12, L13, L15, L16, L20, L24, L31, L32, L40, L41, L48, L50, L57, L59, L63, L80, L81, L96, L97, L99, L100, L122, L144, L199, L255, L400, L1681, L68921, L1000000, i32_add, i32_sub, i32_mul, i32_neg, Option.bind_some, Option.bind_none, ite_bI]
  cases h1 : btw x 0 ((cI S : Int) - 1) with
  | false => exact ⟨_, _, rfl, QC.rf, hC, fun M2 hM => ⟨M2, by rw [hM0 M2 hM, h1]; rfl, Vm.rf⟩⟩
  | true =>
  cases h2 : btw y 0 ((cP S : Int) - 1) with
  | false => exact ⟨_, _, rfl, QC.rf, hC, fun M2 hM => ⟨M2, by rw [hM0 M2 hM, h1, h2]; rfl, Vm.rf⟩⟩
  | true =>
    obtain ⟨i, hi, rfl⟩ := nat_of h1
    obtain ⟨p, hp, rfl⟩ := nat_of h2
    obtain ⟨q0, q1, q2, q3, q4⟩ := hS.2.2.2.2.2.1 i hi
    obtain ⟨M1, g1, g2, g3, g4⟩ := stateIn_C hS hR hC hi hp
    refine ⟨i32 (stF S (cQd S i 0) (cQd S i 1) (cQd S i 2) (cQd S i 3) (cQd S i 4) p), M1, ?_, g3.q, g2, fun M2 hM => ?_⟩
    · rw [if_pos rfl, if_pos rfl, g1]; rfl
    · obtain ⟨M3, k1, k2, k3, k4⟩ := lookAs_M hS hM hi (cQd S i 4)
      obtain ⟨M4, l1, l2, l3, l4, l5⟩ := aheadOf_M hS k4 k2 (vw_q hS hi) (by omega) (r := cQd S i 3) (by omega) hp
      refine ⟨M4, ?_, k3.tr l2⟩
      have E3 := qd_M hS k4 hi 3 (by decide)
      have E4 := qd_M hS hM hi 4 (by decide)
      rw [show ((3 : Nat) : Int) = 3 from rfl] at E3
      rw [show ((4 : Nat) : Int) = 4 from rfl] at E4
      rw [hM0 M2 hM, h1, h2, if_pos rfl, if_pos rfl, E4]
      simp only [Option.bind_some, Option.bind_none]
      rw [k1]
      simp only [Option.bind_some, Option.bind_none]
      rw [E3]
      simp only [Option.bind_some, Option.bind_none]
      rw [l1]
      simp only [Option.bind_some, Option.bind_none]
      unfold stF
      by_cases hin : inV S (cQd S i 0) (cQd S i 1) (cQd S i 2) (cQd S i 3) (cQd S i 4) p = true
      · rw [if_pos hin, if_pos hin]
        obtain ⟨z1, z2, z3, z4, z5⟩ := (inV_iff (by omega)).mp hin
        rw [if_neg (fun q => absurd ((i32_inj (by omega)).mp q) (by omega)), l5 hin, hides_M hS l3 l4 (vw_q hS hi) (by omega) (by omega) (by omega)]
        rfl
      · rw [if_neg hin, if_neg hin]
        rfl
/-! waits -/
def wtF (S : Sc) (i : Nat) : Nat → Int → Int
  | 0, _ => -9
  | n + 1, k => if shS S (cQd S i 0) (cQd S i 1) (cQd S i 2) (cQd S i 3) (cQd S i 4 + k) = 0 then k else wtF S i n (k + 1)
def wt (S : Sc) (i : Nat) : Int := wtF S i 100 0
theorem wtF_s (S : Sc) (i n : Nat) (k : Int) : wtF S i (n + 1) k = if shS S (cQd S i 0) (cQd S i 1) (cQd S i 2) (cQd S i 3) (cQd S i 4 + k) = 0 then k else wtF S i n (k + 1) := rfl
theorem wtF_b (S : Sc) (i : Nat) : ∀ (n : Nat) (k : Int), 0 ≤ k → -9 ≤ wtF S i n k ∧ wtF S i n k ≤ k + n
  | 0, k, h => by rw [show wtF S i 0 k = -9 from rfl]; omega
  | n + 1, k, h => by
    rw [wtF_s]
    have := wtF_b S i n (k + 1) (by omega)
    split <;> omega
theorem wait_L {b : Nat} {S : Sc} (hS : okS S) {i : Nat} (hi : i < cI S) : ∀ (d n : Nat) (k : Int) (M : Mem), RC b S M → Cached b S M → 0 ≤ k → k + d = 100 → d < n → ∃ M', fX2_waitOf_25L b n (i32 i) (i32 (cQd S i 0)) (i32 (cQd S i 1)) (i32 (cQd S i 2)) (i32 k) M = some (i32 (wtF S i d k), M') ∧ Cached b S M' ∧ Sm b M M' ∧ RC b S M' := by
  obtain ⟨h0, h1, h2, h3, h4⟩ := hS.2.2.2.2.2.1 i hi
  intro d
  induction d with
  | zero =>
    intro n k M hR hC hk hd hn
    obtain ⟨n, rfl⟩ : ∃ m, n = m + 1 := ⟨n - 1, by omega⟩
    refine ⟨M, ?_, hC, Sm.rf, hR⟩
    show fX2_waitOf_25B _ b (i32 i) _ _ _ (i32 k) M = _
    unfold fX2_waitOf_25B
    simp only [L0, L1, L2, L3, L4, L5, L6, L7, L8, L9, L10, L11, L12, L13, L15, L16, L20, L24, L31, L32, L40, L41, L48, L50, L57, L59, L63, L80, L81, L96, L97, L99, L100, L122, L144, L199, L255, L400, L1681, L68921, L1000000, i32_add, i32_sub, i32_mul, i32_neg, Option.bind_some, Option.bind_none]
    rw [if_pos ((i32_lt (by omega)).mpr (by omega))]
    rfl
  | succ d ih =>
    intro n k M hR hC hk hd hn
    obtain ⟨n, rfl⟩ : ∃ m, n = m + 1 := ⟨n - 1, by omega⟩
    obtain ⟨M1, g1, g2, g3, g4⟩ := shownFrom_C hS hR hC (r := cQd S i 3) (t := cQd S i 4 + k) (vw_q hS hi) (by omega) (by omega)
    have E3 := ofPicture_C hS hR hi (show 3 < 5 by decide)
    have E4 := ofPicture_C hS hR hi (show 4 < 5 by decide)
    rw [show ((3 : Nat) : Int) = 3 from rfl] at E3
    rw [show ((4 : Nat) : Int) = 4 from rfl] at E4
    have hstep : fX2_waitOf_25L b (n + 1) (i32 i) (i32 (cQd S i 0)) (i32 (cQd S i 1)) (i32 (cQd S i 2)) (i32 k) M = if shS S (cQd S i 0) (cQd S i 1) (cQd S i 2) (cQd S i 3) (cQd S i 4 + k) = 0 then some (i32 k, M1) else fX2_waitOf_25L b n (i32 i) (i32 (cQd S i 0)) (i32 (cQd S i 1)) (i32 (cQd S i 2)) (i32 (k + 1)) M1 := by
      show fX2_waitOf_25B (fX2_waitOf_25L b n) b (i32 i) _ _ _ (i32 k) M = _
      unfold fX2_waitOf_25B
      rw [show (99 : Int32) = i32 99 from rfl, if_neg (fun q => absurd ((i32_lt (by omega)).mp q) (by omega)), show (3 : Int32) = i32 3 from rfl, show (4 : Int32) = i32 4 from rfl, E3, E4]
      simp only [Option.bind_some, Option.bind_none, i32_add]
      rw [g1]
      simp only [Option.bind_some, Option.bind_none]
      rw [show (1 : Int32) = i32 1 from rfl, i32_add]
    rw [hstep, wtF_s]
    by_cases hq : shS S (cQd S i 0) (cQd S i 1) (cQd S i 2) (cQd S i 3) (cQd S i 4 + k) = 0
    · rw [if_pos hq, if_pos hq]
      exact ⟨M1, rfl, g2.cached (by omega), g3, g4⟩
    · rw [if_neg hq, if_neg hq]
      obtain ⟨M', k1, k2, k3, k4⟩ := ih n (k + 1) M1 g4 (g2.cached (by omega)) (by omega) (by omega) (by omega)
      exact ⟨M', k1, k2, g3.tr k3, k4⟩
theorem waitOf_C {b : Nat} {S : Sc} {M : Mem} (hS : okS S) (hR : RC b S M) (hC : Cached b S M) {i : Nat} (hi : i < cI S) : ∃ M', fX2_waitOf b (i32 i) M = some (i32 (wt S i), M') ∧ Cached b S M' ∧ Sm b M M' ∧ RC b S M' := by
  have E0 := ofPicture_C hS hR hi (show 0 < 5 by decide)
  have E1 := ofPicture_C hS hR hi (show 1 < 5 by decide)
  have E2 := ofPicture_C hS hR hi (show 2 < 5 by decide)
  rw [show ((0 : Nat) : Int) = 0 from rfl] at E0
  rw [show ((1 : Nat) : Int) = 1 from rfl] at E1
  rw [show ((2 : Nat) : Int) = 2 from rfl] at E2
  unfold fX2_waitOf
  simp only [L0, L1, L2, L3, L4, L5, L6, L7, L8, L9, L10, L11, L12, L13, L15, L16, L20, L24, L31, L32, L40, L41, L48, L50, L57, L59, L63, L80, L81, L96, L97, L99, L100, L122, L144, L199, L255, L400, L1681, L68921, L1000000, i32_add, i32_sub, i32_mul, i32_neg, Option.bind_some, Option.bind_none]
  rw [E0, E1, E2]
  simp only [Option.bind_some, Option.bind_none]
  exact wait_L hS hi 100 FU 0 M hR hC (by omega) (by omega) (by unfold FU; omega)
theorem waitM_L {S : Sc} (hS : okS S) {i : Nat} (hi : i < cI S) : ∀ (d n : Nat) (k : Int) (M : Mem), RM S M → 0 ≤ k → k + d = 100 → d < n → ∃ M', fX5_waitOf_2L n (i32 i) (i32 k) M = some (i32 (wtF S i d k), M') ∧ Vm M M' ∧ RM S M' := by
  obtain ⟨h0, h1, h2, h3, h4⟩ := hS.2.2.2.2.2.1 i hi
  intro d
  induction d with
  | zero =>
    intro n k M hR hk hd hn
    obtain ⟨n, rfl⟩ : ∃ m, n = m + 1 := ⟨n - 1, by omega⟩
    refine ⟨M, ?_, Vm.rf, hR⟩
    show fX5_waitOf_2B _ (i32 i) (i32 k) M = _
    unfold fX5_waitOf_2B
    simp only [L0, L1, L2, L3, L4, L5, L6, L7, L8, L9, L10, L11, L12, L13, L15, L16, L20, L24, L31, L32, L40, L41, L48, L50, L57, L59, L63, L80, L81, L96, L97, L99, L100, L122, L144, L199, L255, L400, L1681, L68921, L1000000, i32_add, i32_sub, i32_mul, i32_neg, Option.bind_some, Option.bind_none]
    rw [if_pos ((i32_lt (by omega)).mpr (by omega))]
    rfl
  | succ d ih =>
    intro n k M hR hk hd hn
    obtain ⟨n, rfl⟩ : ∃ m, n = m + 1 := ⟨n - 1, by omega⟩
    obtain ⟨M1, k1, k2, k3, k4⟩ := lookAs_M hS hR hi (cQd S i 4 + k)
    have E3 := qd_M hS k4 hi 3 (by decide)
    have E4 := qd_M hS hR hi 4 (by decide)
    rw [show ((3 : Nat) : Int) = 3 from rfl] at E3
    rw [show ((4 : Nat) : Int) = 4 from rfl] at E4
    have hstep : fX5_waitOf_2L (n + 1) (i32 i) (i32 k) M = if shS S (cQd S i 0) (cQd S i 1) (cQd S i 2) (cQd S i 3) (cQd S i 4 + k) = 0 then some (i32 k, M1) else fX5_waitOf_2L n (i32 i) (i32 (k + 1)) M1 := by
      show fX5_waitOf_2B (fX5_waitOf_2L n) (i32 i) (i32 k) M = _
      unfold fX5_waitOf_2B
      rw [show (99 : Int32) = i32 99 from rfl, if_neg (fun q => absurd ((i32_lt (by omega)).mp q) (by omega)), show (5 : Int32) = i32 5 from rfl, show (4 : Int32) = i32 4 from rfl, show (3 : Int32) = i32 3 from rfl]
      simp only [Option.bind_some, Option.bind_none, i32_add, i32_mul]
      rw [E4]
      simp only [Option.bind_some, Option.bind_none, i32_add]
      rw [k1]
      simp only [Option.bind_some, Option.bind_none]
      rw [E3]
      simp only [Option.bind_some, Option.bind_none]
      rw [shown_M hS k4 k2 (vw_q hS hi) (by omega) (by omega)]
      simp only [Option.bind_some, Option.bind_none]
      rw [show (1 : Int32) = i32 1 from rfl, i32_add]
    rw [hstep, wtF_s]
    by_cases hq : shS S (cQd S i 0) (cQd S i 1) (cQd S i 2) (cQd S i 3) (cQd S i 4 + k) = 0
    · rw [if_pos hq, if_pos hq]
      exact ⟨M1, rfl, k3, k4⟩
    · rw [if_neg hq, if_neg hq]
      obtain ⟨M', l1, l2, l3⟩ := ih n (k + 1) M1 k4 (by omega) (by omega) (by omega)
      exact ⟨M', l1, k3.tr l2, l3⟩
theorem waitOf_M {S : Sc} {M : Mem} (hS : okS S) (hR : RM S M) {i : Nat} (hi : i < cI S) : ∃ M', fX5_waitOf (i32 i) M = some (i32 (wt S i), M') ∧ Vm M M' ∧ RM S M' :=
  waitM_L hS hi 100 FU 0 M hR (by omega) (by omega) (by unfold FU; omega)
theorem waits_op {b : Nat} {S : Sc} {M : Mem} (hI : IC b S M) (hb : M.2.2 0 5 = b) (x : Int32) : ∃ v M1, fX4_waits x M = some (v, M1) ∧ QC b M M1 ∧ Cached b S M1 ∧ ∀ M2, RM S M2 → ∃ M3, fX5_waits x M2 = some (v, M3) ∧ Vm M2 M3 := by
  obtain ⟨hS, -, hR, hC, -⟩ := hI
  obtain ⟨x, hx, rfl⟩ := i32_ex x
  have hM0 : ∀ M2, RM S M2 → fX5_waits (i32 x) M2 = (if btw x 0 ((cI S : Int) - 1) = true then ((fX5_waitOf (i32 x) M2).bind fun v => some (v.1, v.2)) else some (i32 (-1), M2)) := by
    intro M2 hM
    unfold fX5_waits
    rw [isPicture_M hS hM hx]
    simp only [L0, L1, L2, L3, L4, L5, L6, L7, L8, L9, L10, L11, L12, L13, L15, L16, L20, L24, L31, L32, L40, L41, L48, L50, L57, L59, L63, L80, L81, L96, L97, L99, L100, L122, L144, L199, L255, L400, L1681, L68921, L1000000, i32_add, i32_sub, i32_mul, i32_neg, Option.bind_some, Option.bind_none, ite_bI]
  unfold fX4_waits
  rw [hb, isPicture_C hS hR hx]
  simp only [L0, L1, L2, L3, L4, L5, L6, L7, L8, L9, L10, L11, L12, L13, L15, L16, L20, L24, L31, L32, L40, L41, L48, L50, L57, L59, L63, L80, L81, L96, L97, L99, L100, L122, L144, L199, L255, L400, L1681, L68921, L1000000, i32_add, i32_sub, i32_mul, i32_neg, Option.bind_some, Option.bind_none, ite_bI]
  cases h1 : btw x 0 ((cI S : Int) - 1) with
  | false => exact ⟨_, _, rfl, QC.rf, hC, fun M2 hM => ⟨M2, by rw [hM0 M2 hM, h1]; rfl, Vm.rf⟩⟩
  | true =>
    obtain ⟨i, hi, rfl⟩ := nat_of h1
    obtain ⟨M1, g1, g2, g3, g4⟩ := waitOf_C hS hR hC hi
    refine ⟨i32 (wt S i), M1, ?_, g3.q, g2, fun M2 hM => ?_⟩
    · rw [if_pos rfl, g1]; rfl
    · obtain ⟨M3, k1, k2, -⟩ := waitOf_M hS hM hi
      exact ⟨M3, by rw [hM0 M2 hM, h1, if_pos rfl, k1]; rfl, k2⟩
def wv (S : Sc) (i : Nat) : Int := if wt S i = -9 then 0 else wt S i
def lostF (S : Sc) (n : Nat) : Int := fb_si (wv S) n
theorem wt_b (S : Sc) (i : Nat) : -9 ≤ wt S i ∧ wt S i ≤ 100 := by have := wtF_b S i 100 0 (by omega); unfold wt; omega
theorem wv_b (S : Sc) (i : Nat) : -9 ≤ wv S i ∧ wv S i ≤ 100 := by have := wt_b S i; unfold wv; split <;> omega
theorem lost_L {b : Nat} {S : Sc} (hS : okS S) : ∀ (d n i : Nat) (M : Mem), RC b S M → Cached b S M → M.2.2 0 5 = b → i + d = cI S → d < n → ∃ M', fX4_lost_4L n (i32 (lostF S i)) (i32 i) M = some (i32 (lostF S (cI S)), M') ∧ Cached b S M' ∧ Sm b M M' := by
  have h10 := hS.2.2.2.1
  intro d
  induction d with
  | zero =>
    intro n i M hR hC hb hd hn
    obtain ⟨n, rfl⟩ : ∃ m, n = m + 1 := ⟨n - 1, by omega⟩
    refine ⟨M, ?_, hC, Sm.rf⟩
    show fX4_lost_4B _ _ (i32 i) M = _
    unfold fX4_lost_4B
    rw [hb, hR.2.2.2.1, if_pos ((i32_le (by omega)).mpr (by omega)), show i = cI S by omega]
  | succ d ih =>
    intro n i M hR hC hb hd hn
    obtain ⟨n, rfl⟩ : ∃ m, n = m + 1 := ⟨n - 1, by omega⟩
    obtain ⟨M1, g1, g2, g3, g4⟩ := waitOf_C hS hR hC (show i < cI S by omega)
    obtain ⟨M', k1, k2, k3⟩ := ih n (i + 1) M1 g4 g2 (by rw [g3.1]; exact hb) (by omega) (by omega)
    refine ⟨M', ?_, k2, g3.tr k3⟩
    show fX4_lost_4B (fX4_lost_4L n) _ (i32 i) M = _
    have hwb := wt_b S i
    unfold fX4_lost_4B
    rw [hb, hR.2.2.2.1, if_neg (fun q => absurd ((i32_le (by omega)).mp q) (by omega)), g1]
    unfold fX4_lost_34
    simp only [L0, L1, L2, L3, L4, L5, L6, L7, L8, L9, L10, L11, L12, L13, L15, L16, L20, L24, L31, L32, L40, L41, L48, L50, L57, L59, L63, L80, L81, L96, L97, L99, L100, L122, L144, L199, L255, L400, L1681, L68921, L1000000, i32_add, i32_sub, i32_mul, i32_neg, Option.bind_some, Option.bind_none]
    rw [show (i : Int) + 1 = ((i + 1 : Nat) : Int) by omega]
    rw [show lostF S (i + 1) = lostF S i + wv S i from rfl] at k1
    unfold wv at k1
    by_cases hq : wt S i = -9
    · rw [if_pos (by rw [hq])]
      rw [if_pos hq, Int.add_zero] at k1
      exact k1
    · rw [if_neg (fun q => hq ((i32_inj (by omega)).mp q))]
      rw [if_neg hq] at k1
      exact k1
theorem lostM_L {S : Sc} (hS : okS S) : ∀ (d n i : Nat) (M : Mem), RM S M → i + d = cI S → d < n → ∃ M', fX5_lost_4L n (i32 (lostF S i)) (i32 i) M = some (i32 (lostF S (cI S)), M') ∧ Vm M M' := by
  have h10 := hS.2.2.2.1
  intro d
  induction d with
  | zero =>
    intro n i M hR hd hn
    obtain ⟨n, rfl⟩ : ∃ m, n = m + 1 := ⟨n - 1, by omega⟩
    refine ⟨M, ?_, Vm.rf⟩
    show fX5_lost_4B _ _ (i32 i) M = _
    unfold fX5_lost_4B
    simp only [L0, L1, L2, L3, L4, L5, L6, L7, L8, L9, L10, L11, L12, L13, L15, L16, L20, L24, L31, L32, L40, L41, L48, L50, L57, L59, L63, L80, L81, L96, L97, L99, L100, L122, L144, L199, L255, L400, L1681, L68921, L1000000, i32_add, i32_sub, i32_mul, i32_neg, Option.bind_some, Option.bind_none]
    rw [rI_ok (by omega), show ((0 : Int)).toNat = 0 from rfl, hR.2.2.2.1]
    simp only [L0, L1, L2, L3, L4, L5, L6, L7, L8, L9, L10, L11, L12, L13, L15, L16, L20, L24, L31, L32, L40, L41, L48, L50, L57, L59, L63, L80, L81, L96, L97, L99, L100, L122, L144, L199, L255, L400, L1681, L68921, L1000000, i32_add, i32_sub, i32_mul, i32_neg, Option.bind_some, Option.bind_none]
    rw [if_pos ((i32_le (by omega)).mpr (by omega)), show i = cI S by omega]
  | succ d ih =>
    intro n i M hR hd hn
    obtain ⟨n, rfl⟩ : ∃ m, n = m + 1 := ⟨n - 1, by omega⟩
    obtain ⟨M1, g1, g2, g3⟩ := waitOf_M hS hR (show i < cI S by omega)
    obtain ⟨M', k1, k2⟩ := ih n (i + 1) M1 g3 (by omega) (by omega)
    refine ⟨M', ?_, g2.tr k2⟩
    show fX5_lost_4B (fX5_lost_4L n) _ (i32 i) M = _
    have hwb := wt_b S i
    unfold fX5_lost_4B
    simp only [L0, L1, L2, L3, L4, L5, L6, L7, L8, L9, L10, L11, L12, L13, L15, L16, L20, L24, L31, L32, L40, L41, L48, L50, L57, L59, L63, L80, L81, L96, L97, L99, L100, L122, L144, L199, L255, L400, L1681, L68921, L1000000, i32_add, i32_sub, i32_mul, i32_neg, Option.bind_some, Option.bind_none]
    rw [rI_ok (by omega), show ((0 : Int)).toNat = 0 from rfl, hR.2.2.2.1]
    simp only [L0, L1, L2, L3, L4, L5, L6, L7, L8, L9, L10, L11, L12, L13, L15, L16, L20, L24, L31, L32, L40, L41, L48, L50, L57, L59, L63, L80, L81, L96, L97, L99, L100, L122, L144, L199, L255, L400, L1681, L68921, L1000000, i32_add, i32_sub, i32_mul, i32_neg, Option.bind_some, Option.bind_none]
    rw [if_neg (fun q => absurd ((i32_le (by omega)).mp q) (by omega)), g1]
    unfold fX5_lost_32
    simp only [L0, L1, L2, L3, L4, L5, L6, L7, L8, L9, L10, L11, L12, L13, L15, L16, L20, L24, L31, L32, L40, L41, L48, L50, L57, L59, L63, L80, L81, L96, L97, L99, L100, L122, L144, L199, L255, L400, L1681, L68921, L1000000, i32_add, i32_sub, i32_mul, i32_neg, Option.bind_some, Option.bind_none]
    rw [show (i : Int) + 1 = ((i + 1 : Nat) : Int) by omega]
    rw [show lostF S (i + 1) = lostF S i + wv S i from rfl] at k1
    unfold wv at k1
    by_cases hq : wt S i = -9
    · rw [if_pos (by rw [hq])]
      rw [if_pos hq] at k1
      exact k1
    · rw [if_neg (fun q => hq ((i32_inj (by omega)).mp q))]
      rw [if_neg hq] at k1
      exact k1
theorem lost_op {b : Nat} {S : Sc} {M : Mem} (hI : IC b S M) (hb : M.2.2 0 5 = b) : ∃ v M1, fX4_lost M = some (v, M1) ∧ QC b M M1 ∧ Cached b S M1 ∧ ∀ M2, RM S M2 → ∃ M3, fX5_lost M2 = some (v, M3) ∧ Vm M2 M3 := by
  obtain ⟨hS, -, hR, hC, -⟩ := hI
  have h10 := hS.2.2.2.1
  obtain ⟨M1, g1, g2, g3⟩ := lost_L hS (cI S) FU 0 M hR hC hb (by omega) (by unfold FU; omega)
  exact ⟨_, M1, g1, g3.q, g2, fun M2 hM => lostM_L hS (cI S) FU 0 M2 hM (by omega) (by unfold FU; omega)⟩

/-! Whom a view shows: the class's shownFrom, the model's shown. -/
def shS (S : Sc) (x y w r t : Int) : Int32 := acc (fun p => decide (stF S x y w r t p = 1)) (cP S)
theorem hides_3 (S : Sc) (x y w t a s : Int) : ∀ (n : Nat) (k : Int), 1 ≤ hidF S x y w t a s n k ∧ hidF S x y w t a s n k ≤ 3
  | 0, k => by rw [show hidF S x y w t a s 0 k = 1 from rfl]; decide
  | n + 1, k => by
    rw [hidF_s]
    have ih := hides_3 S x y w t a s n (k + 1)
    split
    · split
      · decide
      · split
        · exact ih
        · decide
    · exact ih
theorem stF_3 (S : Sc) (x y w r t : Int) (p : Nat) : 0 ≤ stF S x y w r t p ∧ stF S x y w r t p ≤ 3 := by
  unfold stF
  split
  · have := hides_3 S x y w t (sA S x y w p t) (sS S x y w p t) ((sA S x y w p t) - 1).toNat 1
    unfold hides; omega
  · decide
theorem shown_L {b : Nat} {S : Sc} {M : Mem} (hS : okS S) (hR : RC b S M) {t x y w r : Int} (hA : At b S t M) (hv : vw S x y w) (hr : 0 ≤ r ∧ r ≤ 9) : ∀ (d n p : Nat), p + d = cP S → d < n → fX2_shownFrom_12L b n (i32 x) (i32 y) (i32 w) (i32 r) (acc (fun p => decide (stF S x y w r t p = 1)) p) (i32 p) M = some (shS S x y w r t, M) := by
  have h8 := hS.2.2.1
  intro d
  induction d with
  | zero =>
    intro n p hp hn
    obtain ⟨n, rfl⟩ : ∃ m, n = m + 1 := ⟨n - 1, by omega⟩
    show fX2_shownFrom_12B _ b (i32 x) (i32 y) (i32 w) (i32 r) _ (i32 p) M = _
    unfold fX2_shownFrom_12B
    rw [hR.2.2.1, if_pos ((i32_le (by omega)).mpr (by omega)), show p = cP S by omega]
    rfl
  | succ d ih =>
    intro n p hp hn
    obtain ⟨n, rfl⟩ : ∃ m, n = m + 1 := ⟨n - 1, by omega⟩
    show fX2_shownFrom_12B (fX2_shownFrom_12L b n) b (i32 x) (i32 y) (i32 w) (i32 r) _ (i32 p) M = _
    unfold fX2_shownFrom_12B
    rw [hR.2.2.1, if_neg (fun q => absurd ((i32_le (by omega)).mp q) (by omega)), stateOf_C hS hR hA hv hr (show p < cP S by omega)]
    have ihp := ih n (p + 1) (by omega) (by omega)
    rw [acc_s] at ihp
    have h3 := stF_3 S x y w r t p
    unfold fX2_shownFrom_45
    simp only [L0, L1, L2, L3, L4, L5, L6, L7, L8, L9, L10, L11, L12, L13, L15, L16, L20, L24, L31, L32, L40, L41, L48, L50, L57, L59, L63, L80, L81, L96, L97, L99, L100, L122, L144, L199, L255, L400, L1681, L68921, L1000000, i32_add, i32_sub, i32_mul, i32_neg, Option.bind_some, Option.bind_none]
    simp (disch := omega) only [i32_inj]
    rw [show (p : Int) + 1 = ((p + 1 : Nat) : Int) by omega]
    by_cases hq : stF S x y w r t p = 1
    · rw [if_pos hq]
      rw [if_pos (decide_eq_true hq)] at ihp
      exact ihp
    · rw [if_neg hq]
      rw [if_neg (by rw [decide_eq_false hq]; decide), or_0] at ihp
      exact ihp
theorem shownFrom_C {b : Nat} {S : Sc} {M : Mem} (hS : okS S) (hR : RC b S M) (hC : Cached b S M) {t x y w r : Int} (hv : vw S x y w) (hr : 0 ≤ r ∧ r ≤ 9) (ht : 0 ≤ t ∧ t ≤ 1000) : ∃ M', fX2_shownFrom b (i32 x) (i32 y) (i32 w) (i32 r) (i32 t) M = some (shS S x y w r t, M') ∧ At b S t M' ∧ Sm b M M' ∧ RC b S M' := by
  obtain ⟨M', g1, g2, g3, g4⟩ := standAt_C hS hR hC ht
  refine ⟨M', ?_, g2, g3, g4⟩
  unfold fX2_shownFrom
  rw [g1]
  simp only [Option.bind_some, Option.bind_none]
  exact shown_L hS g4 g2 hv hr (cP S) FU 0 (by omega) (by have := hS.2.2.1; unfold FU; omega)
/-! the model -/
theorem isOn_M {S : Sc} {M : Mem} (hS : okS S) (hR : RM S M) {x y : Int} (h1 : (-2147483648 ≤ x ∧ x ≤ 2147483647) ∧ (-2147483648 ≤ y ∧ y ≤ 2147483647)) : fX5_isOn (i32 x) (i32 y) M = some (i32 (bI (sCell S x y))) := by
  obtain ⟨hw, hh, -⟩ := hS
  unfold fX5_isOn sCell
  simp only [L0, L1, L2, L3, L4, L5, L6, L7, L8, L9, L10, L11, L12, L13, L15, L16, L20, L24, L31, L32, L40, L41, L48, L50, L57, L59, L63, L80, L81, L96, L97, L99, L100, L122, L144, L199, L255, L400, L1681, L68921, L1000000, i32_add, i32_sub, i32_mul, i32_neg, Option.bind_some, Option.bind_none]
  rw [rI_ok (by omega), show ((0 : Int)).toNat = 0 from rfl, hR.1, rI_ok (by omega), show ((0 : Int)).toNat = 0 from rfl, hR.2.1]
  simp only [L0, L1, L2, L3, L4, L5, L6, L7, L8, L9, L10, L11, L12, L13, L15, L16, L20, L24, L31, L32, L40, L41, L48, L50, L57, L59, L63, L80, L81, L96, L97, L99, L100, L122, L144, L199, L255, L400, L1681, L68921, L1000000, i32_add, i32_sub, i32_mul, i32_neg, Option.bind_some, Option.bind_none]
  rw [in_M (by omega), in_M (by omega)]
  simp only [L0, L1, L2, L3, L4, L5, L6, L7, L8, L9, L10, L11, L12, L13, L15, L16, L20, L24, L31, L32, L40, L41, L48, L50, L57, L59, L63, L80, L81, L96, L97, L99, L100, L122, L144, L199, L255, L400, L1681, L68921, L1000000, i32_add, i32_sub, i32_mul, i32_neg, Option.bind_some, Option.bind_none, ite_bI]
  unfold btw
  by_cases c1 : 0 ≤ x ∧ x ≤ cW S - 1
  · rw [decide_eq_true c1, if_pos rfl]
    by_cases c2 : 0 ≤ y ∧ y ≤ cH S - 1
    · rw [decide_eq_true c2, if_pos rfl, decide_eq_true (by omega)]; rfl
    · rw [decide_eq_false c2, if_neg (by decide), decide_eq_false (by omega)]; rfl
  · rw [decide_eq_false c1, if_neg (by decide), decide_eq_false (by omega)]; rfl
theorem isWall_M {S : Sc} {M : Mem} (hS : okS S) (hR : RM S M) {x y : Int} (h1 : (-2147483648 ≤ x ∧ x ≤ 2147483647) ∧ (-2147483648 ≤ y ∧ y ≤ 2147483647)) : fX5_isWall (i32 x) (i32 y) M = some (i32 (bI (sCell S x y && cWl S x y))) := by
  have w1 := hS.1
  have w2 := hS.2.1
  unfold fX5_isWall
  rw [isOn_M hS hR h1]
  simp only [L0, L1, L2, L3, L4, L5, L6, L7, L8, L9, L10, L11, L12, L13, L15, L16, L20, L24, L31, L32, L40, L41, L48, L50, L57, L59, L63, L80, L81, L96, L97, L99, L100, L122, L144, L199, L255, L400, L1681, L68921, L1000000, i32_add, i32_sub, i32_mul, i32_neg, Option.bind_some, Option.bind_none, ite_bI]
  cases hc : sCell S x y with
  | false => rfl
  | true =>
    obtain ⟨cx, cy⟩ := sCell_iff.mp hc
    rw [if_pos rfl, rI_ok (by omega), hR.2.2.2.2.1 x y (by omega) (by omega) (by omega) (by omega)]
    simp only [L0, L1, L2, L3, L4, L5, L6, L7, L8, L9, L10, L11, L12, L13, L15, L16, L20, L24, L31, L32, L40, L41, L48, L50, L57, L59, L63, L80, L81, L96, L97, L99, L100, L122, L144, L199, L255, L400, L1681, L68921, L1000000, i32_add, i32_sub, i32_mul, i32_neg, Option.bind_some, Option.bind_none, ite_bI]
    cases cWl S x y <;> rfl
theorem cellOf_M {S : Sc} {M : Mem} (hS : okS S) (hR : RM S M) {p : Nat} (hp : p < cP S) {t : Int} (ht : -1000 ≤ t ∧ t ≤ 1000) : fX5_cellOf (i32 p) (i32 t) M = some (i32 (cellN S p t)) := by
  obtain ⟨h0, h1, h2, h3, h4, h5⟩ := hS.2.2.2.2.1 p hp
  have h8 := hS.2.2.1
  have bx := px_b hS hp ht
  have bY := py_b hS hp ht
  have R : ∀ j : Nat, j < 6 → rI M 48 96 (i32 (6 * (p : Int) + j)) = some (i32 (cPd S p j)) := by
    intro j hj
    rw [rI_ok (by omega), show (6 * (p : Int) + (j : Int)).toNat = 6 * p + j by omega, hR.2.2.2.2.2.1 p j hp hj]
  have E0 : rI M 48 96 (i32 (6 * (p : Int))) = some (i32 (cPd S p 0)) := by have := R 0 (by decide); rw [show 6 * (p : Int) + ((0 : Nat) : Int) = 6 * p by omega] at this; exact this
  have E1 : rI M 48 96 (i32 (6 * (p : Int) + 1)) = some (i32 (cPd S p 1)) := R 1 (by decide)
  have E2 : rI M 48 96 (i32 (6 * (p : Int) + 2)) = some (i32 (cPd S p 2)) := R 2 (by decide)
  have E3 : rI M 48 96 (i32 (6 * (p : Int) + 3)) = some (i32 (cPd S p 3)) := R 3 (by decide)
  have E4 : rI M 48 96 (i32 (6 * (p : Int) + 4)) = some (i32 (cPd S p 4)) := R 4 (by decide)
  unfold fX5_cellOf
  simp only [L0, L1, L2, L3, L4, L5, L6, L7, L8, L9, L10, L11, L12, L13, L15, L16, L20, L24, L31, L32, L40, L41, L48, L50, L57, L59, L63, L80, L81, L96, L97, L99, L100, L122, L144, L199, L255, L400, L1681, L68921, L1000000, i32_add, i32_sub, i32_mul, i32_neg, Option.bind_some, Option.bind_none]
  simp only [E0, E1, E2, E3, E4, L0, L1, L2, L3, L4, L5, L6, L7, L8, L9, L10, L11, L12, L13, L15, L16, L20, L24, L31, L32, L40, L41, L48, L50, L57, L59, L63, L80, L81, L96, L97, L99, L100, L122, L144, L199, L255, L400, L1681, L68921, L1000000, i32_add, i32_sub, i32_mul, i32_neg, Option.bind_some, Option.bind_none, asideOf_M h2, downOf_M h2]
  rw [in_M (by omega)]
  simp only [L0, L1, L2, L3, L4, L5, L6, L7, L8, L9, L10, L11, L12, L13, L15, L16, L20, L24, L31, L32, L40, L41, L48, L50, L57, L59, L63, L80, L81, L96, L97, L99, L100, L122, L144, L199, L255, L400, L1681, L68921, L1000000, i32_add, i32_sub, i32_mul, i32_neg, Option.bind_some, Option.bind_none, ite_bI]
  have fx : cPd S p 0 + (t - cPd S p 3) * sx (cPd S p 2) = px S p t := rfl
  have fy : cPd S p 1 + (t - cPd S p 3) * sy (cPd S p 2) = py S p t := rfl
  rw [fx, fy, isOn_M hS hR (by omega), isWall_M hS hR (by omega), rI_ok (by omega), show ((0 : Int)).toNat = 0 from rfl, hR.1]
  simp only [L0, L1, L2, L3, L4, L5, L6, L7, L8, L9, L10, L11, L12, L13, L15, L16, L20, L24, L31, L32, L40, L41, L48, L50, L57, L59, L63, L80, L81, L96, L97, L99, L100, L122, L144, L199, L255, L400, L1681, L68921, L1000000, i32_add, i32_sub, i32_mul, i32_neg, Option.bind_some, Option.bind_none, ite_bI]
  unfold cellN there
  cases c1 : btw (t - cPd S p 3) 0 (cPd S p 4) with
  | false => rfl
  | true =>
    cases c2 : sCell S (px S p t) (py S p t) with
    | false => rfl
    | true => cases cWl S (px S p t) (py S p t) <;> rfl
theorem onS_off {S : Sc} {x y t : Int} (h : sCell S x y = false) : onS S x y t = 0 := by
  have : ∀ n, acc (onB S x y t) n = 0 := by
    intro n
    induction n with
    | zero => rfl
    | succ n ih =>
      rw [acc_s, ih, if_neg, or_0]
      intro q
      unfold onB at q
      simp only [Bool.and_eq_true, decide_eq_true_eq] at q
      obtain ⟨q1, q2, q3⟩ := q
      have := there_cell q1
      rw [q2, q3, h] at this
      cases this
  exact this _
theorem thoseOn_L {S : Sc} {M : Mem} (hS : okS S) (hR : RM S M) {x y t : Int} (ht : -1000 ≤ t ∧ t ≤ 1000) (hc : sCell S x y = true) : ∀ (d n p : Nat), p + d = cP S → d < n → fX5_thoseOn_6L M n (i32 x) (i32 y) (i32 t) (acc (onB S x y t) p) (i32 p) = some (onS S x y t) := by
  have h8 := hS.2.2.1
  have w1 := hS.1
  have w2 := hS.2.1
  have hcb := cell_b hS hc
  obtain ⟨cx, cy⟩ := sCell_iff.mp hc
  intro d
  induction d with
  | zero =>
    intro n p hp hn
    obtain ⟨n, rfl⟩ : ∃ m, n = m + 1 := ⟨n - 1, by omega⟩
    show fX5_thoseOn_6B _ (i32 x) (i32 y) (i32 t) _ (i32 p) M = _
    unfold fX5_thoseOn_6B
    simp only [L0, L1, L2, L3, L4, L5, L6, L7, L8, L9, L10, L11, L12, L13, L15, L16, L20, L24, L31, L32, L40, L41, L48, L50, L57, L59, L63, L80, L81, L96, L97, L99, L100, L122, L144, L199, L255, L400, L1681, L68921, L1000000, i32_add, i32_sub, i32_mul, i32_neg, Option.bind_some, Option.bind_none]
    rw [rI_ok (by omega), show ((0 : Int)).toNat = 0 from rfl, hR.2.2.1]
    simp only [L0, L1, L2, L3, L4, L5, L6, L7, L8, L9, L10, L11, L12, L13, L15, L16, L20, L24, L31, L32, L40, L41, L48, L50, L57, L59, L63, L80, L81, L96, L97, L99, L100, L122, L144, L199, L255, L400, L1681, L68921, L1000000, i32_add, i32_sub, i32_mul, i32_neg, Option.bind_some, Option.bind_none]
    rw [if_pos ((i32_le (by omega)).mpr (by omega)), show p = cP S by omega]
    rfl
  | succ d ih =>
    intro n p hp hn
    obtain ⟨n, rfl⟩ : ∃ m, n = m + 1 := ⟨n - 1, by omega⟩
    have hpP : p < cP S := by omega
    show fX5_thoseOn_6B (fX5_thoseOn_6L M n) (i32 x) (i32 y) (i32 t) _ (i32 p) M = _
    unfold fX5_thoseOn_6B
    simp only [L0, L1, L2, L3, L4, L5, L6, L7, L8, L9, L10, L11, L12, L13, L15, L16, L20, L24, L31, L32, L40, L41, L48, L50, L57, L59, L63, L80, L81, L96, L97, L99, L100, L122, L144, L199, L255, L400, L1681, L68921, L1000000, i32_add, i32_sub, i32_mul, i32_neg, Option.bind_some, Option.bind_none]
    rw [rI_ok (by omega), show ((0 : Int)).toNat = 0 from rfl, hR.2.2.1]
    simp only [L0, L1, L2, L3, L4, L5, L6, L7, L8, L9, L10, L11, L12, L13, L15, L16, L20, L24, L31, L32, L40, L41, L48, L50, L57, L59, L63, L80, L81, L96, L97, L99, L100, L122, L144, L199, L255, L400, L1681, L68921, L1000000, i32_add, i32_sub, i32_mul, i32_neg, Option.bind_some, Option.bind_none]
    rw [if_neg (fun q => absurd ((i32_le (by omega)).mp q) (by omega)), isOn_M hS hR (by omega), hc, cellOf_M hS hR hpP ht, rI_ok (by omega), show ((0 : Int)).toNat = 0 from rfl, hR.1]
    simp only [L0, L1, L2, L3, L4, L5, L6, L7, L8, L9, L10, L11, L12, L13, L15, L16, L20, L24, L31, L32, L40, L41, L48, L50, L57, L59, L63, L80, L81, L96, L97, L99, L100, L122, L144, L199, L255, L400, L1681, L68921, L1000000, i32_add, i32_sub, i32_mul, i32_neg, Option.bind_some, Option.bind_none, ite_bI]
    rw [if_pos trivial]
    have ihp := ih n (p + 1) (by omega) (by omega)
    rw [acc_s] at ihp
    unfold fX5_thoseOn_56
    simp only [L0, L1, L2, L3, L4, L5, L6, L7, L8, L9, L10, L11, L12, L13, L15, L16, L20, L24, L31, L32, L40, L41, L48, L50, L57, L59, L63, L80, L81, L96, L97, L99, L100, L122, L144, L199, L255, L400, L1681, L68921, L1000000, i32_add, i32_sub, i32_mul, i32_neg, Option.bind_some, Option.bind_none]
    rw [show (p : Int) + 1 = ((p + 1 : Nat) : Int) by omega]
    cases hth : there S p t with
    | false =>
      rw [cellN_f hth, if_neg (fun q => absurd ((i32_inj (by omega)).mp q) (by omega))]
      rw [if_neg (by unfold onB; rw [hth]; simp)] at ihp
      exact ihp
    | true =>
      have hcell := there_cell hth
      have hcb2 := cell_b hS hcell
      rw [cellN_t hth]
      by_cases hq : px S p t = x ∧ py S p t = y
      · rw [if_pos (by rw [hq.1, hq.2])]
        rw [if_pos (by unfold onB; rw [hth]; simp [hq])] at ihp
        exact ihp
      · rw [if_neg (fun q => hq (cell_inj (sCell_iff.mp hcell).1 cx ((i32_inj (by omega)).mp q)))]
        rw [if_neg (by unfold onB; rw [hth]; simp; intro h1 h2; exact hq ⟨h1, h2⟩)] at ihp
        exact ihp
theorem thoseOn_M {S : Sc} {M : Mem} (hS : okS S) (hR : RM S M) {x y t : Int} (ht : -1000 ≤ t ∧ t ≤ 1000) (h1 : (-2147483648 ≤ x ∧ x ≤ 2147483647) ∧ (-2147483648 ≤ y ∧ y ≤ 2147483647)) : fX5_thoseOn (i32 x) (i32 y) (i32 t) M = some (onS S x y t) := by
  have h8 := hS.2.2.1
  unfold fX5_thoseOn
  cases hc : sCell S x y with
  | true => exact thoseOn_L hS hR ht hc (cP S) FU 0 (by omega) (by unfold FU; omega)
  | false =>
    rw [onS_off hc]
    show fX5_thoseOn_6B _ (i32 x) (i32 y) (i32 t) 0 0 M = _
    unfold fX5_thoseOn_6B
    simp only [L0, L1, L2, L3, L4, L5, L6, L7, L8, L9, L10, L11, L12, L13, L15, L16, L20, L24, L31, L32, L40, L41, L48, L50, L57, L59, L63, L80, L81, L96, L97, L99, L100, L122, L144, L199, L255, L400, L1681, L68921, L1000000, i32_add, i32_sub, i32_mul, i32_neg, Option.bind_some, Option.bind_none]
    rw [rI_ok (by omega), show ((0 : Int)).toNat = 0 from rfl, hR.2.2.1, isOn_M hS hR h1, hc]
    simp only [L0, L1, L2, L3, L4, L5, L6, L7, L8, L9, L10, L11, L12, L13, L15, L16, L20, L24, L31, L32, L40, L41, L48, L50, L57, L59, L63, L80, L81, L96, L97, L99, L100, L122, L144, L199, L255, L400, L1681, L68921, L1000000, i32_add, i32_sub, i32_mul, i32_neg, Option.bind_some, Option.bind_none, ite_bI]
    split <;> rfl
/-- the model looks from here -/
def Lk (x y w t : Int) (M : Mem) : Prop := M.1 42 15 = i32 x ∧ M.1 42 16 = i32 y ∧ M.1 42 17 = i32 w ∧ M.1 42 18 = i32 t
theorem xAt_M {M : Mem} {x y w t a s : Int} (hL : Lk x y w t M) (hw : 0 ≤ w ∧ w ≤ 3) : fX5_xAt (i32 a) (i32 s) M = some (i32 (x + vx w a s)) := by
  unfold fX5_xAt
  rw [hL.1, hL.2.2.1, nx_e hw, asideOf_M (by omega), asideOf_M (by have := nx_b hw; omega)]
  simp only [L0, L1, L2, L3, L4, L5, L6, L7, L8, L9, L10, L11, L12, L13, L15, L16, L20, L24, L31, L32, L40, L41, L48, L50, L57, L59, L63, L80, L81, L96, L97, L99, L100, L122, L144, L199, L255, L400, L1681, L68921, L1000000, i32_add, i32_sub, i32_mul, i32_neg, Option.bind_some, Option.bind_none]
  rw [show x + a * sx w + s * sx (nx w) = x + vx w a s by unfold vx; omega]
theorem yAt_M {M : Mem} {x y w t a s : Int} (hL : Lk x y w t M) (hw : 0 ≤ w ∧ w ≤ 3) : fX5_yAt (i32 a) (i32 s) M = some (i32 (y + vy w a s)) := by
  unfold fX5_yAt
  rw [hL.2.1, hL.2.2.1, nx_e hw, downOf_M (by omega), downOf_M (by have := nx_b hw; omega)]
  simp only [L0, L1, L2, L3, L4, L5, L6, L7, L8, L9, L10, L11, L12, L13, L15, L16, L20, L24, L31, L32, L40, L41, L48, L50, L57, L59, L63, L80, L81, L96, L97, L99, L100, L122, L144, L199, L255, L400, L1681, L68921, L1000000, i32_add, i32_sub, i32_mul, i32_neg, Option.bind_some, Option.bind_none]
  rw [show y + a * sy w + s * sy (nx w) = y + vy w a s by unfold vy; omega]
theorem hides_L {S : Sc} {M : Mem} (hS : okS S) (hR : RM S M) {x y w t a s : Int} (hL : Lk x y w t M) (hv : vw S x y w) (ht : -1000 ≤ t ∧ t ≤ 1000) (ha : 1 ≤ a ∧ a ≤ 9) (hs : -4 ≤ s ∧ s ≤ 4) : ∀ (d n : Nat) (k : Int), 1 ≤ k → k + d = a → d < n → fX5_hides_2L M n (i32 a) (i32 s) (i32 k) = some (i32 (hidF S x y w t a s d k)) := by
  obtain ⟨⟨hx, hy⟩, hw⟩ := hv
  have w1 := hS.1
  have w2 := hS.2.1
  intro d
  induction d with
  | zero =>
    intro n k hk hka hn
    obtain ⟨n, rfl⟩ : ∃ m, n = m + 1 := ⟨n - 1, by omega⟩
    show fX5_hides_2B _ (i32 a) (i32 s) (i32 k) M = _
    unfold fX5_hides_2B
    rw [if_pos ((i32_le (by omega)).mpr (by omega))]
    rfl
  | succ d ih =>
    intro n k hk hka hn
    obtain ⟨n, rfl⟩ : ∃ m, n = m + 1 := ⟨n - 1, by omega⟩
    show fX5_hides_2B (fX5_hides_2L M n) (i32 a) (i32 s) (i32 k) M = _
    have hb := aside_b hs (show 1 ≤ k ∧ k ≤ 9 by omega) ha
    have hb2 := vx_b2 w (a := k) (s := (s * k).tdiv a) (by omega)
    unfold fX5_hides_2B
    rw [if_neg (fun q => absurd ((i32_le (by omega)).mp q) (by omega)), i32_mul, oD_ok (by omega)]
    simp only [Option.bind_some, Option.bind_none]
    rw [xAt_M hL hw, yAt_M hL hw]
    simp only [Option.bind_some, Option.bind_none]
    rw [isWall_M hS hR (by omega), hL.2.2.2, thoseOn_M hS hR ht (by omega)]
    simp only [L0, L1, L2, L3, L4, L5, L6, L7, L8, L9, L10, L11, L12, L13, L15, L16, L20, L24, L31, L32, L40, L41, L48, L50, L57, L59, L63, L80, L81, L96, L97, L99, L100, L122, L144, L199, L255, L400, L1681, L68921, L1000000, i32_add, i32_sub, i32_mul, i32_neg, Option.bind_some, Option.bind_none, ite_bI]
    rw [ih n (k + 1) (by omega) (by omega) (by omega), hidF_s]
    cases hc : sCell S (x + vx w k ((s * k).tdiv a)) (y + vy w k ((s * k).tdiv a)) with
    | false =>
      rw [onS_off hc]
      rfl
    | true =>
      cases cWl S (x + vx w k ((s * k).tdiv a)) (y + vy w k ((s * k).tdiv a)) with
      | true => rfl
      | false =>
        show (if onS S _ _ t = 0 then _ else _) = some (i32 (if onS S _ _ t = 0 then _ else _))
        by_cases ho : onS S (x + vx w k ((s * k).tdiv a)) (y + vy w k ((s * k).tdiv a)) t = 0
        · rw [if_pos ho, if_pos ho]
        · rw [if_neg ho, if_neg ho]
theorem hides_M {S : Sc} {M : Mem} (hS : okS S) (hR : RM S M) {x y w t a s : Int} (hL : Lk x y w t M) (hv : vw S x y w) (ht : -1000 ≤ t ∧ t ≤ 1000) (ha : 1 ≤ a ∧ a ≤ 9) (hs : -4 ≤ s ∧ s ≤ 4) : fX5_hides (i32 a) (i32 s) M = some (i32 (hides S x y w t a s)) := by
  unfold fX5_hides
  rw [show (1 : Int32) = i32 1 from rfl, hides_L hS hR hL hv ht ha hs (a - 1).toNat FU 1 (by omega) (by omega) (by unfold FU; omega)]
  rfl

/-! Views: the class's stateOfCell, stateOf, shownFrom; the model's hides, shown. -/
def nx (w : Int) : Int := if w = 3 then 0 else w + 1
theorem nx_b {w : Int} (h : 0 ≤ w ∧ w ≤ 3) : 0 ≤ nx w ∧ nx w ≤ 3 := by
  rcases (show w = 0 ∨ w = 1 ∨ w = 2 ∨ w = 3 by omega) with rfl | rfl | rfl | rfl <;> decide
theorem nx_e {w : Int} (h : 0 ≤ w ∧ w ≤ 3) : (i32 w + 1) - (i32 w + 1) / 4 * 4 = i32 (nx w) := by
  rcases (show w = 0 ∨ w = 1 ∨ w = 2 ∨ w = 3 by omega) with rfl | rfl | rfl | rfl <;> decide
def vx (w a s : Int) : Int := a * sx w + s * sx (nx w)
def vy (w a s : Int) : Int := a * sy w + s * sy (nx w)
theorem vx_b (w : Int) {a s : Int} (h : (-20 ≤ a ∧ a ≤ 20) ∧ (-20 ≤ s ∧ s ≤ 20)) : -40 ≤ vx w a s ∧ vx w a s ≤ 40 := by
  unfold vx
  rcases sx_3 w with e | e | e <;> rcases sx_3 (nx w) with f | f | f <;> rw [e, f] <;> omega
theorem vy_b (w : Int) {a s : Int} (h : (-20 ≤ a ∧ a ≤ 20) ∧ (-20 ≤ s ∧ s ≤ 20)) : -40 ≤ vy w a s ∧ vy w a s ≤ 40 := by
  unfold vy
  rcases sy_3 w with e | e | e <;> rcases sy_3 (nx w) with f | f | f <;> rw [e, f] <;> omega
theorem goneX_C {w a s : Int} {M : Mem} (h : 0 ≤ w ∧ w ≤ 3) : fX2_goneX (i32 w) (i32 a) (i32 s) M = some (i32 (vx w a s)) := by
  unfold fX2_goneX
  rw [nx_e h, rT_X (by omega), rT_X (by have := nx_b h; omega)]
  simp only [Option.bind_some, Option.bind_none, i32_mul, i32_add]
  rfl
theorem goneY_C {w a s : Int} {M : Mem} (h : 0 ≤ w ∧ w ≤ 3) : fX2_goneY (i32 w) (i32 a) (i32 s) M = some (i32 (vy w a s)) := by
  unfold fX2_goneY
  rw [nx_e h, rT_Y (by omega), rT_Y (by have := nx_b h; omega)]
  simp only [Option.bind_some, Option.bind_none, i32_mul, i32_add]
  rfl
theorem oD_ok {a b : Int} (h1 : -2147483648 ≤ a ∧ a ≤ 2147483647 ∧ 0 < b ∧ b ≤ 2147483647) : oD (i32 a) (i32 b) = some (i32 (a.tdiv b)) := by
  unfold oD
  rw [show (0 : Int32) = i32 0 from rfl, if_neg (fun q => absurd ((i32_inj (a := b) (b := 0) (by omega)).mp q) (by omega)), i32_div h1]
theorem oR_ok {a b : Int} (h1 : -2147483648 ≤ a ∧ a ≤ 2147483647 ∧ 0 < b ∧ b ≤ 2147483647) : oR (i32 a) (i32 b) = some (i32 (a - a.tdiv b * b)) := by
  unfold oR
  rw [show (0 : Int32) = i32 0 from rfl, if_neg (fun q => absurd ((i32_inj (a := b) (b := 0) (by omega)).mp q) (by omega)), i32_div h1, i32_mul, i32_sub]
/-- how a cell a ahead and s aside is hidden: 1 not, 2 by a wall, 3 by people; from the k-th cell between on, n of them -/
def hidF (S : Sc) (x y w t a s : Int) : Nat → Int → Int
  | 0, _ => 1
  | n + 1, k => if sCell S (x + vx w k ((s * k).tdiv a)) (y + vy w k ((s * k).tdiv a)) = true then
      if cWl S (x + vx w k ((s * k).tdiv a)) (y + vy w k ((s * k).tdiv a)) = true then 2
      else if onS S (x + vx w k ((s * k).tdiv a)) (y + vy w k ((s * k).tdiv a)) t = 0 then hidF S x y w t a s n (k + 1) else 3
    else hidF S x y w t a s n (k + 1)
theorem hidF_s (S : Sc) (x y w t a s : Int) (n : Nat) (k : Int) : hidF S x y w t a s (n + 1) k = if sCell S (x + vx w k ((s * k).tdiv a)) (y + vy w k ((s * k).tdiv a)) = true then
      if cWl S (x + vx w k ((s * k).tdiv a)) (y + vy w k ((s * k).tdiv a)) = true then 2
      else if onS S (x + vx w k ((s * k).tdiv a)) (y + vy w k ((s * k).tdiv a)) t = 0 then hidF S x y w t a s n (k + 1) else 3
    else hidF S x y w t a s n (k + 1) := rfl
def hides (S : Sc) (x y w t a s : Int) : Int := hidF S x y w t a s (a - 1).toNat 1
/-- a place of the view's own cells, and a way -/
def vw (S : Sc) (x y w : Int) : Prop := ((0 ≤ x ∧ x < cW S) ∧ (0 ≤ y ∧ y < cH S)) ∧ (0 ≤ w ∧ w ≤ 3)
theorem aside_b {s k a : Int} (hs : -4 ≤ s ∧ s ≤ 4) (hk : 1 ≤ k ∧ k ≤ 9) (ha : 1 ≤ a ∧ a ≤ 9) : (-36 ≤ s * k ∧ s * k ≤ 36) ∧ -36 ≤ (s * k).tdiv a ∧ (s * k).tdiv a ≤ 36 := by
  have h1 : -36 ≤ s * k ∧ s * k ≤ 36 := by
    rcases (show k = 1 ∨ k = 2 ∨ k = 3 ∨ k = 4 ∨ k = 5 ∨ k = 6 ∨ k = 7 ∨ k = 8 ∨ k = 9 by omega) with rfl | rfl | rfl | rfl | rfl | rfl | rfl | rfl | rfl <;> omega
  have h4 := Int.natAbs_tdiv_le_natAbs (s * k) a
  omega
theorem vx_b2 (w : Int) {a s : Int} (h : (-40 ≤ a ∧ a ≤ 40) ∧ (-40 ≤ s ∧ s ≤ 40)) : (-80 ≤ vx w a s ∧ vx w a s ≤ 80) ∧ (-80 ≤ vy w a s ∧ vy w a s ≤ 80) := by
  unfold vx vy
  constructor
  · rcases sx_3 w with e | e | e <;> rcases sx_3 (nx w) with f | f | f <;> rw [e, f] <;> omega
  · rcases sy_3 w with e | e | e <;> rcases sy_3 (nx w) with f | f | f <;> rw [e, f] <;> omega
theorem stCell_L {b : Nat} {S : Sc} {M : Mem} (hS : okS S) (hR : RC b S M) {t x y w a s : Int} (hA : At b S t M) (hv : vw S x y w) (ha : 1 ≤ a ∧ a ≤ 9) (hs : -4 ≤ s ∧ s ≤ 4) : ∀ (d n : Nat) (k : Int), 1 ≤ k → k + d = a → d < n → fX2_stateOfCell_11L b M n (i32 x) (i32 y) (i32 w) (i32 a) (i32 s) (i32 k) = some (i32 (hidF S x y w t a s d k)) := by
  obtain ⟨⟨hx, hy⟩, hw⟩ := hv
  have w1 := hS.1
  have w2 := hS.2.1
  intro d
  induction d with
  | zero =>
    intro n k hk hka hn
    obtain ⟨n, rfl⟩ : ∃ m, n = m + 1 := ⟨n - 1, by omega⟩
    show fX2_stateOfCell_11B _ b (i32 x) (i32 y) (i32 w) (i32 a) (i32 s) (i32 k) M = _
    unfold fX2_stateOfCell_11B
    rw [if_pos ((i32_le (by omega)).mpr (by omega))]
    rfl
  | succ d ih =>
    intro n k hk hka hn
    obtain ⟨n, rfl⟩ : ∃ m, n = m + 1 := ⟨n - 1, by omega⟩
    show fX2_stateOfCell_11B (fX2_stateOfCell_11L b M n) b (i32 x) (i32 y) (i32 w) (i32 a) (i32 s) (i32 k) M = _
    have hb := aside_b hs (show 1 ≤ k ∧ k ≤ 9 by omega) ha
    have hb2 := vx_b2 w (a := k) (s := (s * k).tdiv a) (by omega)
    unfold fX2_stateOfCell_11B
    rw [if_neg (fun q => absurd ((i32_le (by omega)).mp q) (by omega)), i32_mul, oD_ok (by omega)]
    simp only [Option.bind_some, Option.bind_none]
    rw [goneX_C hw, goneY_C hw]
    simp only [Option.bind_some, Option.bind_none, i32_add]
    rw [isCell_C hS hR (by omega), hR.1]
    simp only [L0, L1, L2, L3, L4, L5, L6, L7, L8, L9, L10, L11, L12, L13, L15, L16, L20, L24, L31, L32, L40, L41, L48, L50, L57, L59, L63, L80, L81, L96, L97, L99, L100, L122, L144, L199, L255, L400, L1681, L68921, L1000000, i32_add, i32_sub, i32_mul, i32_neg, Option.bind_some, Option.bind_none, ite_bI]
    unfold fX2_stateOfCell_102
    simp only [L0, L1, L2, L3, L4, L5, L6, L7, L8, L9, L10, L11, L12, L13, L15, L16, L20, L24, L31, L32, L40, L41, L48, L50, L57, L59, L63, L80, L81, L96, L97, L99, L100, L122, L144, L199, L255, L400, L1681, L68921, L1000000, i32_add, i32_sub, i32_mul, i32_neg, Option.bind_some, Option.bind_none]
    rw [ih n (k + 1) (by omega) (by omega) (by omega)]
    rw [hidF_s]
    cases hc : sCell S (x + vx w k ((s * k).tdiv a)) (y + vy w k ((s * k).tdiv a)) with
    | false => rfl
    | true =>
      have hcb := cell_b hS hc
      rw [if_pos rfl, if_pos rfl, wall_C hS hR hc]
      simp only [L0, L1, L2, L3, L4, L5, L6, L7, L8, L9, L10, L11, L12, L13, L15, L16, L20, L24, L31, L32, L40, L41, L48, L50, L57, L59, L63, L80, L81, L96, L97, L99, L100, L122, L144, L199, L255, L400, L1681, L68921, L1000000, i32_add, i32_sub, i32_mul, i32_neg, Option.bind_some, Option.bind_none, ite_bI]
      cases cWl S (x + vx w k ((s * k).tdiv a)) (y + vy w k ((s * k).tdiv a)) with
      | true => rfl
      | false =>
        rw [if_neg (by decide), if_neg (by decide), rI_ok (by omega), hA.2.2 _ _ hc]
        simp only [Option.bind_some, Option.bind_none]
        by_cases ho : onS S (x + vx w k ((s * k).tdiv a)) (y + vy w k ((s * k).tdiv a)) t = 0
        · rw [show (i32 0 : Int32) = 0 from rfl, if_pos ho, if_pos ho]
        · rw [show (i32 0 : Int32) = 0 from rfl, if_neg ho, if_neg ho]
theorem stCell_C {b : Nat} {S : Sc} {M : Mem} (hS : okS S) (hR : RC b S M) {t x y w a s : Int} (hA : At b S t M) (hv : vw S x y w) (ha : 1 ≤ a ∧ a ≤ 9) (hs : -4 ≤ s ∧ s ≤ 4) : fX2_stateOfCell b (i32 x) (i32 y) (i32 w) (i32 a) (i32 s) M = some (i32 (hides S x y w t a s)) := by
  unfold fX2_stateOfCell
  simp only [L0, L1, L2, L3, L4, L5, L6, L7, L8, L9, L10, L11, L12, L13, L15, L16, L20, L24, L31, L32, L40, L41, L48, L50, L57, L59, L63, L80, L81, L96, L97, L99, L100, L122, L144, L199, L255, L400, L1681, L68921, L1000000]
  rw [if_pos ((i32_le (by omega)).mpr (by omega)), stCell_L hS hR hA hv ha hs (a - 1).toNat FU 1 (by omega) (by omega) (by unfold FU; omega)]
  rfl
/-- how far ahead and aside a person is -/
def sA (S : Sc) (x y w : Int) (p : Nat) (t : Int) : Int := (px S p t - x) * sx w + (py S p t - y) * sy w
def sS (S : Sc) (x y w : Int) (p : Nat) (t : Int) : Int := (px S p t - x) * sx (nx w) + (py S p t - y) * sy (nx w)
def aI (z : Int) : Int := if 0 ≤ z then z else 0 - z
def inV (S : Sc) (x y w r t : Int) (p : Nat) : Bool := there S p t && decide (¬ sA S x y w p t < 1 ∧ ¬ r < sA S x y w p t ∧ aI (sS S x y w p t) ≤ (sA S x y w p t).tdiv 2)
def stF (S : Sc) (x y w r t : Int) (p : Nat) : Int := if inV S x y w r t p = true then hides S x y w t (sA S x y w p t) (sS S x y w p t) else 0
theorem iabs_ok {z : Int} (h : -2147483647 ≤ z ∧ z ≤ 2147483647) : iabs (i32 z) = i32 (aI z) := by
  unfold iabs aI
  simp only [L0, L1, L2, L3, L4, L5, L6, L7, L8, L9, L10, L11, L12, L13, L15, L16, L20, L24, L31, L32, L40, L41, L48, L50, L57, L59, L63, L80, L81, L96, L97, L99, L100, L122, L144, L199, L255, L400, L1681, L68921, L1000000, i32_sub]
  simp (disch := omega) only [i32_le]
  by_cases q : 0 ≤ z
  · rw [if_pos q, if_pos q]
  · rw [if_neg q, if_neg q]
theorem sA_b {S : Sc} {x y w : Int} {p : Nat} {t : Int} (hx : -12 ≤ px S p t - x ∧ px S p t - x ≤ 12) (hy : -12 ≤ py S p t - y ∧ py S p t - y ≤ 12) : (-24 ≤ sA S x y w p t ∧ sA S x y w p t ≤ 24) ∧ (-24 ≤ sS S x y w p t ∧ sS S x y w p t ≤ 24) := by
  unfold sA sS
  constructor
  · rcases sx_3 w with e | e | e <;> rcases sy_3 w with f | f | f <;> rw [e, f] <;> omega
  · rcases sx_3 (nx w) with e | e | e <;> rcases sy_3 (nx w) with f | f | f <;> rw [e, f] <;> omega
theorem tdiv_cell {W x y : Int} (hW : 0 < W) (hx : 0 ≤ x ∧ x < W) (hy : 0 ≤ y) : (W * y + x).tdiv W = y := by
  have h0 : 0 ≤ W * y := Int.mul_nonneg (by omega) hy
  rw [Int.tdiv_eq_ediv_of_nonneg (by omega), Int.add_comm, Int.add_mul_ediv_left _ _ (by omega), Int.ediv_eq_zero_of_lt hx.1 hx.2, Int.zero_add]
theorem stateOf_C {b : Nat} {S : Sc} {M : Mem} (hS : okS S) (hR : RC b S M) {t x y w r : Int} (hA : At b S t M) (hv : vw S x y w) (hr : 0 ≤ r ∧ r ≤ 9) {p : Nat} (hp : p < cP S) : fX2_stateOf b (i32 p) (i32 x) (i32 y) (i32 w) (i32 r) M = some (i32 (stF S x y w r t p)) := by
  obtain ⟨⟨hx, hy⟩, hw⟩ := id hv
  have w1 := hS.1
  have w2 := hS.2.1
  have h8 := hS.2.2.1
  unfold fX2_stateOf stF inV
  rw [rI_ok (by omega), show ((p : Int)).toNat = p by omega, hA.2.1 p hp]
  simp only [Option.bind_some, Option.bind_none]
  cases hth : there S p t with
  | false =>
    rw [cellN_f hth, show (0 : Int32) = i32 0 from rfl, if_pos ((i32_lt (by omega)).mpr (by omega))]
    rfl
  | true =>
    have hc := there_cell hth
    have hcb := cell_b hS hc
    obtain ⟨hcx, hcy⟩ := sCell_iff.mp hc
    rw [cellN_t hth, hR.1, nx_e hw, rT_X (by omega), rT_Y (by omega), rT_X (by have := nx_b hw; omega), rT_Y (by have := nx_b hw; omega), oR_ok (by omega), oD_ok (by omega), tdiv_cell (by omega) hcx hcy.1]
    simp only [L0, L1, L2, L3, L4, L5, L6, L7, L8, L9, L10, L11, L12, L13, L15, L16, L20, L24, L31, L32, L40, L41, L48, L50, L57, L59, L63, L80, L81, L96, L97, L99, L100, L122, L144, L199, L255, L400, L1681, L68921, L1000000, i32_add, i32_sub, i32_mul, i32_neg, Option.bind_some, Option.bind_none]
    rw [if_neg (fun q => absurd ((i32_lt (by omega)).mp q) (by omega)), if_pos ((i32_le (by omega)).mpr (by omega))]
    rw [show cW S * py S p t + px S p t - py S p t * cW S = px S p t by rw [Int.mul_comm (py S p t)]; omega]
    rw [show (px S p t - x) * sx w + (py S p t - y) * sy w = sA S x y w p t from rfl, show (px S p t - x) * sx (nx w) + (py S p t - y) * sy (nx w) = sS S x y w p t from rfl]
    obtain ⟨ba, bs⟩ := sA_b (S := S) (x := x) (y := y) (w := w) (p := p) (t := t) (by omega) (by omega)
    rw [iabs_ok (by omega), i32_div (by omega)]
    have h4 := Int.natAbs_tdiv_le_natAbs (sA S x y w p t) 2
    have ba2 : -24 ≤ aI (sS S x y w p t) ∧ aI (sS S x y w p t) ≤ 24 := by unfold aI; split <;> omega
    simp (disch := omega) only [i32_lt, i32_le]
    by_cases c1 : sA S x y w p t < 1
    · rw [if_pos c1, decide_eq_false (by omega)]; rfl
    rw [if_neg c1]
    by_cases c2 : r < sA S x y w p t
    · rw [if_pos c2, decide_eq_false (by omega)]; rfl
    rw [if_neg c2]
    by_cases c3 : aI (sS S x y w p t) ≤ (sA S x y w p t).tdiv 2
    · rw [if_pos c3, decide_eq_true ⟨c1, c2, c3⟩]
      have hs4 : -4 ≤ sS S x y w p t ∧ sS S x y w p t ≤ 4 := by
        have : (sA S x y w p t).tdiv 2 = sA S x y w p t / 2 := Int.tdiv_eq_ediv_of_nonneg (by omega)
        unfold aI at c3
        split at c3 <;> omega
      rw [stCell_C hS hR hA hv (by omega) hs4]
      rfl
    · rw [if_neg c3, decide_eq_false (by omega)]; rfl

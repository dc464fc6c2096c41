/-! The model's shown is the class's. -/
def orL (f : Int → Int32) : Nat → Int → Int32
  | 0, _ => 0
  | n + 1, s => f s ||| orL f n (s + 1)
theorem bt_orL (f : Int → Int32) (i : Nat) : ∀ (n : Nat) (s : Int), bt (orL f n s) i = true ↔ ∃ j : Int, s ≤ j ∧ j < s + n ∧ bt (f j) i = true
  | 0, s => ⟨fun h => (by rw [orL, b_0] at h; cases h), fun ⟨j, h1, h2, _⟩ => (by omega)⟩
  | n + 1, s => by
    rw [orL, b_or, Bool.or_eq_true, bt_orL f i n (s + 1)]
    constructor
    · rintro (h | ⟨j, h1, h2, h3⟩)
      · exact ⟨s, by omega, by omega, h⟩
      · exact ⟨j, by omega, by omega, h3⟩
    · rintro ⟨j, h1, h2, h3⟩
      by_cases hj : j = s
      · subst hj; exact Or.inl h3
      · exact Or.inr ⟨j, by omega, by omega, h3⟩
def gV (S : Sc) (x y w t a s : Int) : Int32 := if onS S (x + vx w a s) (y + vy w a s) t ≠ 0 ∧ hides S x y w t a s = 1 then onS S (x + vx w a s) (y + vy w a s) t else 0
theorem half_b {a : Int} (ha : 1 ≤ a ∧ a ≤ 9) : a.tdiv 2 = a / 2 ∧ 0 ≤ a / 2 ∧ a / 2 ≤ 4 := by
  have : a.tdiv 2 = a / 2 := Int.tdiv_eq_ediv_of_nonneg (by omega)
  omega
theorem shownI_L {S : Sc} {M : Mem} (hS : okS S) (hR : RM S M) {x y w t : Int} (hL : Lk x y w t M) (hv : vw S x y w) (ht : -1000 ≤ t ∧ t ≤ 1000) {r a : Int} (ha : 1 ≤ a ∧ a ≤ 9) (k4 : Int32 → Int32 → Int32 → Option Int32) : ∀ (d n : Nat) (s : Int) (z : Int32), -(a / 2) ≤ s → s + d = a / 2 + 1 → d < n → fX5_shown_15L k4 M n (i32 r) z (i32 a) (i32 s) = k4 (i32 r) (z ||| orL (gV S x y w t a) d s) (i32 (a + 1)) := by
  obtain ⟨⟨hx, hy⟩, hw⟩ := id hv
  have w1 := hS.1
  have w2 := hS.2.1
  have hh := half_b ha
  intro d
  induction d with
  | zero =>
    intro n s z h0 h1 hn
    obtain ⟨n, rfl⟩ : ∃ m, n = m + 1 := ⟨n - 1, by omega⟩
    show fX5_shown_15B k4 _ (i32 r) z (i32 a) (i32 s) M = _
    unfold fX5_shown_15B
    simp only [L0, L1, L2, L3, L4, L5, L6, L7, L8, L9, L10, L11, L12, L13, L15, L16, L20, L24, L31, L32, L40, L41, L48, L50, L57, L59, L63, L80, L81, L96, L97, L99, L100, L122, L144, L199, L255, L400, L1681, L68921, L1000000, i32_add, i32_sub, i32_mul, i32_neg, Option.bind_some, Option.bind_none]
    rw [i32_div (by omega), if_pos ((i32_lt (by omega)).mpr (by omega)), orL, or_0]
  | succ d ih =>
    intro n s z h0 h1 hn
    obtain ⟨n, rfl⟩ : ∃ m, n = m + 1 := ⟨n - 1, by omega⟩
    show fX5_shown_15B k4 (fX5_shown_15L k4 M n) (i32 r) z (i32 a) (i32 s) M = _
    have hb2 := vx_b2 w (a := a) (s := s) (by omega)
    have h3 := hides_3 S x y w t a s (a - 1).toNat 1
    unfold fX5_shown_15B
    simp only [L0, L1, L2, L3, L4, L5, L6, L7, L8, L9, L10, L11, L12, L13, L15, L16, L20, L24, L31, L32, L40, L41, L48, L50, L57, L59, L63, L80, L81, L96, L97, L99, L100, L122, L144, L199, L255, L400, L1681, L68921, L1000000, i32_add, i32_sub, i32_mul, i32_neg, Option.bind_some, Option.bind_none]
    rw [i32_div (by omega), if_neg (fun q => absurd ((i32_lt (by omega)).mp q) (by omega)), xAt_M hL hw, yAt_M hL hw]
    simp only [Option.bind_some, Option.bind_none]
    rw [hL.2.2.2, thoseOn_M hS hR ht (by omega)]
    simp only [Option.bind_some, Option.bind_none]
    rw [hides_M hS hR hL hv ht ha (by omega)]
    simp only [L0, L1, L2, L3, L4, L5, L6, L7, L8, L9, L10, L11, L12, L13, L15, L16, L20, L24, L31, L32, L40, L41, L48, L50, L57, L59, L63, L80, L81, L96, L97, L99, L100, L122, L144, L199, L255, L400, L1681, L68921, L1000000, i32_add, i32_sub, i32_mul, i32_neg, Option.bind_some, Option.bind_none]
    unfold fX5_shown_69 fX5_shown_70
    simp only [L0, L1, L2, L3, L4, L5, L6, L7, L8, L9, L10, L11, L12, L13, L15, L16, L20, L24, L31, L32, L40, L41, L48, L50, L57, L59, L63, L80, L81, L96, L97, L99, L100, L122, L144, L199, L255, L400, L1681, L68921, L1000000, i32_add, i32_sub, i32_mul, i32_neg, Option.bind_some, Option.bind_none]
    rw [ih n (s + 1) _ (by omega) (by omega) (by omega), ih n (s + 1) _ (by omega) (by omega) (by omega), orL]
    rw [or_asc, or_asc]
    unfold gV
    by_cases ho : onS S (x + vx w a s) (y + vy w a s) t = 0
    · rw [show (i32 0 : Int32) = 0 from rfl, if_pos ho, if_neg (fun q => q.1 ho)]
    · rw [show (i32 0 : Int32) = 0 from rfl, if_neg ho]
      by_cases hq : hides S x y w t a s = 1
      · rw [if_pos (by rw [hq]), if_pos ⟨ho, hq⟩]
      · rw [if_neg (fun q => hq ((i32_inj (by unfold hides; omega)).mp q)), if_neg (fun q => hq q.2)]
theorem shownO_L {S : Sc} {M : Mem} (hS : okS S) (hR : RM S M) {x y w t : Int} (hL : Lk x y w t M) (hv : vw S x y w) (ht : -1000 ≤ t ∧ t ≤ 1000) {r : Int} (hr : 0 ≤ r ∧ r ≤ 9) : ∀ (d n : Nat) (a : Int) (z : Int32), 1 ≤ a → a + d = r + 1 → d < n → fX5_shown_4L M n (i32 r) z (i32 a) = some (z ||| orL (fun a => orL (gV S x y w t a) (2 * (a / 2) + 1).toNat (-(a / 2))) d a) := by
  intro d
  induction d with
  | zero =>
    intro n a z h0 h1 hn
    obtain ⟨n, rfl⟩ : ∃ m, n = m + 1 := ⟨n - 1, by omega⟩
    show fX5_shown_4B _ (i32 r) z (i32 a) M = _
    unfold fX5_shown_4B
    rw [if_pos ((i32_lt (by omega)).mpr (by omega)), orL, or_0]
  | succ d ih =>
    intro n a z h0 h1 hn
    obtain ⟨n, rfl⟩ : ∃ m, n = m + 1 := ⟨n - 1, by omega⟩
    show fX5_shown_4B (fX5_shown_4L M n) (i32 r) z (i32 a) M = _
    have hh := half_b (a := a) (by omega)
    unfold fX5_shown_4B
    rw [if_neg (fun q => absurd ((i32_lt (by omega)).mp q) (by omega))]
    simp only [L0, L1, L2, L3, L4, L5, L6, L7, L8, L9, L10, L11, L12, L13, L15, L16, L20, L24, L31, L32, L40, L41, L48, L50, L57, L59, L63, L80, L81, L96, L97, L99, L100, L122, L144, L199, L255, L400, L1681, L68921, L1000000, i32_add, i32_sub, i32_mul, i32_neg, Option.bind_some, Option.bind_none]
    rw [i32_div (by omega), i32_neg, hh.1, shownI_L hS hR hL hv ht (by omega) _ (2 * (a / 2) + 1).toNat FU (-(a / 2)) z (by omega) (by omega) (by unfold FU; omega), ih n (a + 1) _ (by omega) (by omega) (by omega), or_asc]
    rfl
theorem inv_1 {w dx dy : Int} (hw : 0 ≤ w ∧ w ≤ 3) : vx w (dx * sx w + dy * sy w) (dx * sx (nx w) + dy * sy (nx w)) = dx ∧ vy w (dx * sx w + dy * sy w) (dx * sx (nx w) + dy * sy (nx w)) = dy := by
  rcases (show w = 0 ∨ w = 1 ∨ w = 2 ∨ w = 3 by omega) with rfl | rfl | rfl | rfl <;> simp [vx, vy, sx, sy, nx]
theorem inv_2 {w a s : Int} (hw : 0 ≤ w ∧ w ≤ 3) : vx w a s * sx w + vy w a s * sy w = a ∧ vx w a s * sx (nx w) + vy w a s * sy (nx w) = s := by
  rcases (show w = 0 ∨ w = 1 ∨ w = 2 ∨ w = 3 by omega) with rfl | rfl | rfl | rfl <;> simp [vx, vy, sx, sy, nx]
theorem bt_onS {S : Sc} (hS : okS S) {x y t : Int} {i : Nat} (hi : i < 32) : bt (onS S x y t) i = (decide (i < cP S) && onB S x y t i) := bt_acc (by have := hS.2.2.1; omega) hi
theorem shown_eq {S : Sc} (hS : okS S) {x y w r t : Int} (hw : 0 ≤ w ∧ w ≤ 3) (hr : 0 ≤ r ∧ r ≤ 9) : orL (fun a => orL (gV S x y w t a) (2 * (a / 2) + 1).toNat (-(a / 2))) r.toNat 1 = shS S x y w r t := by
  have h8 := hS.2.2.1
  apply b_ext
  intro i hi
  apply Bool.eq_iff_iff.mpr
  unfold shS
  rw [bt_orL, bt_acc (by omega) hi, Bool.and_eq_true, decide_eq_true_iff, decide_eq_true_iff]
  constructor
  · rintro ⟨a, a1, a2, h⟩
    rw [bt_orL] at h
    obtain ⟨s, s1, s2, h⟩ := h
    have hh := half_b (a := a) (by omega)
    unfold gV at h
    by_cases hg : onS S (x + vx w a s) (y + vy w a s) t ≠ 0 ∧ hides S x y w t a s = 1
    · rw [if_pos hg, bt_onS hS hi, Bool.and_eq_true, decide_eq_true_iff] at h
      obtain ⟨hp, ho⟩ := h
      unfold onB at ho
      simp only [Bool.and_eq_true, decide_eq_true_eq] at ho
      obtain ⟨hth, ex, ey⟩ := ho
      have e := inv_2 (a := a) (s := s) hw
      have eA : sA S x y w i t = a := by unfold sA; rw [ex, ey, show x + vx w a s - x = vx w a s by omega, show y + vy w a s - y = vy w a s by omega]; exact e.1
      have eS : sS S x y w i t = s := by unfold sS; rw [ex, ey, show x + vx w a s - x = vx w a s by omega, show y + vy w a s - y = vy w a s by omega]; exact e.2
      refine ⟨hp, ?_⟩
      unfold stF inV
      rw [eA, eS, hth, if_pos, hg.2]
      rw [Bool.true_and, decide_eq_true_iff, hh.1]
      refine ⟨by omega, by omega, ?_⟩
      unfold aI
      split <;> omega
    · rw [if_neg hg, b_0] at h; cases h
  · rintro ⟨hp, hst⟩
    unfold stF at hst
    by_cases hin : inV S x y w r t i = true
    · rw [if_pos hin] at hst
      unfold inV at hin
      simp only [Bool.and_eq_true, decide_eq_true_eq] at hin
      obtain ⟨hth, c1, c2, c3⟩ := hin
      have hh := half_b (a := sA S x y w i t) (by omega)
      rw [hh.1] at c3
      have e := inv_1 (dx := px S i t - x) (dy := py S i t - y) hw
      have ex : x + vx w (sA S x y w i t) (sS S x y w i t) = px S i t := by
        have := e.1
        unfold sA sS
        omega
      have ey : y + vy w (sA S x y w i t) (sS S x y w i t) = py S i t := by
        have := e.2
        unfold sA sS
        omega
      have hs : -(sA S x y w i t / 2) ≤ sS S x y w i t ∧ sS S x y w i t ≤ sA S x y w i t / 2 := by
        unfold aI at c3
        split at c3 <;> omega
      have hb : bt (onS S (px S i t) (py S i t) t) i = true := by
        rw [bt_onS hS hi, Bool.and_eq_true, decide_eq_true_iff]
        refine ⟨hp, ?_⟩
        unfold onB
        rw [hth]
        simp
      refine ⟨sA S x y w i t, by omega, by omega, ?_⟩
      rw [bt_orL]
      refine ⟨sS S x y w i t, by omega, by omega, ?_⟩
      unfold gV
      rw [ex, ey, if_pos]
      · exact hb
      · refine ⟨fun q => ?_, hst⟩
        rw [q, b_0] at hb
        cases hb
    · rw [if_neg hin] at hst
      omega
theorem shown_M {S : Sc} {M : Mem} (hS : okS S) (hR : RM S M) {x y w t : Int} (hL : Lk x y w t M) (hv : vw S x y w) (ht : -1000 ≤ t ∧ t ≤ 1000) {r : Int} (hr : 0 ≤ r ∧ r ≤ 9) : fX5_shown (i32 r) M = some (shS S x y w r t) := by
  unfold fX5_shown
  rw [show (1 : Int32) = i32 1 from rfl, shownO_L hS hR hL hv ht hr r.toNat FU 1 0 (by omega) (by omega) (by unfold FU; omega), or_z, shown_eq hS hv.2 hr]

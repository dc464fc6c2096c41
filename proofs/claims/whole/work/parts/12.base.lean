theorem L0 : (0 : Int32) = i32 0 := by decide
theorem L1 : (1 : Int32) = i32 1 := by decide
theorem L2 : (2 : Int32) = i32 2 := by decide
theorem L3 : (3 : Int32) = i32 3 := by decide
theorem L4 : (4 : Int32) = i32 4 := by decide
theorem L5 : (5 : Int32) = i32 5 := by decide
theorem L6 : (6 : Int32) = i32 6 := by decide
theorem L7 : (7 : Int32) = i32 7 := by decide
theorem L8 : (8 : Int32) = i32 8 := by decide
theorem L9 : (9 : Int32) = i32 9 := by decide
theorem L10 : (10 : Int32) = i32 10 := by decide
theorem L11 : (11 : Int32) = i32 11 := by decide
theorem L12 : (12 : Int32) = i32 12 := by decide
theorem L13 : (13 : Int32) = i32 13 := by decide
theorem L15 : (15 : Int32) = i32 15 := by decide
theorem L16 : (16 : Int32) = i32 16 := by decide
theorem L20 : (20 : Int32) = i32 20 := by decide
theorem L24 : (24 : Int32) = i32 24 := by decide
theorem L31 : (31 : Int32) = i32 31 := by decide
theorem L32 : (32 : Int32) = i32 32 := by decide
theorem L40 : (40 : Int32) = i32 40 := by decide
theorem L41 : (41 : Int32) = i32 41 := by decide
theorem L48 : (48 : Int32) = i32 48 := by decide
theorem L50 : (50 : Int32) = i32 50 := by decide
theorem L57 : (57 : Int32) = i32 57 := by decide
theorem L59 : (59 : Int32) = i32 59 := by decide
theorem L63 : (63 : Int32) = i32 63 := by decide
theorem L80 : (80 : Int32) = i32 80 := by decide
theorem L81 : (81 : Int32) = i32 81 := by decide
theorem L96 : (96 : Int32) = i32 96 := by decide
theorem L97 : (97 : Int32) = i32 97 := by decide
theorem L99 : (99 : Int32) = i32 99 := by decide
theorem L100 : (100 : Int32) = i32 100 := by decide
theorem L122 : (122 : Int32) = i32 122 := by decide
theorem L144 : (144 : Int32) = i32 144 := by decide
theorem L199 : (199 : Int32) = i32 199 := by decide
theorem L255 : (255 : Int32) = i32 255 := by decide
theorem L400 : (400 : Int32) = i32 400 := by decide
theorem L1681 : (1681 : Int32) = i32 1681 := by decide
theorem L68921 : (68921 : Int32) = i32 68921 := by decide
theorem L1000000 : (1000000 : Int32) = i32 1000000 := by decide
/-! The square as the document tells it. -/
abbrev Sc : Type := Int × Int × (Int → Int → Bool) × Nat × (Nat → Nat → Int) × Nat × (Nat → Nat → Int)
def cW (S : Sc) : Int := S.1
def cH (S : Sc) : Int := S.2.1
def cWl (S : Sc) : Int → Int → Bool := S.2.2.1
def cP (S : Sc) : Nat := S.2.2.2.1
def cPd (S : Sc) : Nat → Nat → Int := S.2.2.2.2.1
def cI (S : Sc) : Nat := S.2.2.2.2.2.1
def cQd (S : Sc) : Nat → Nat → Int := S.2.2.2.2.2.2
def bI (c : Bool) : Int := if c then 1 else 0
def okS (S : Sc) : Prop := (3 ≤ cW S ∧ cW S ≤ 12) ∧ (3 ≤ cH S ∧ cH S ≤ 12) ∧ cP S ≤ 8 ∧ cI S ≤ 10 ∧
  (∀ p, p < cP S → (0 ≤ cPd S p 0 ∧ cPd S p 0 < cW S) ∧ (0 ≤ cPd S p 1 ∧ cPd S p 1 < cH S) ∧ (0 ≤ cPd S p 2 ∧ cPd S p 2 ≤ 4) ∧ (0 ≤ cPd S p 3 ∧ cPd S p 3 ≤ 99) ∧ (0 ≤ cPd S p 4 ∧ cPd S p 4 ≤ 99) ∧ (0 ≤ cPd S p 5 ∧ cPd S p 5 ≤ 9)) ∧
  (∀ i, i < cI S → (0 ≤ cQd S i 0 ∧ cQd S i 0 < cW S) ∧ (0 ≤ cQd S i 1 ∧ cQd S i 1 < cH S) ∧ (0 ≤ cQd S i 2 ∧ cQd S i 2 ≤ 3) ∧ (1 ≤ cQd S i 3 ∧ cQd S i 3 ≤ 9) ∧ (0 ≤ cQd S i 4 ∧ cQd S i 4 ≤ 99)) ∧
  (∀ x y, cWl S x y = true → (0 ≤ x ∧ x < cW S) ∧ (0 ≤ y ∧ y < cH S))
/-- a scene of the class holds this square -/
def RC (b : Nat) (S : Sc) (M : Mem) : Prop := M.1 b 3 = i32 (cW S) ∧ M.1 b 4 = i32 (cH S) ∧ M.1 b 6 = i32 (cP S) ∧ M.1 b 7 = i32 (cI S) ∧
  (∀ x y : Int, 0 ≤ x → x < cW S → 0 ≤ y → y < cH S → M.1 (b + 1) (cW S * y + x).toNat = i32 (bI (cWl S x y))) ∧
  (∀ p j : Nat, p < cP S → j < 6 → M.1 (b + 2) (6 * p + j) = i32 (cPd S p j)) ∧ (∀ i j : Nat, i < cI S → j < 5 → M.1 (b + 3) (5 * i + j) = i32 (cQd S i j))
/-- the model holds this square -/
def RM (S : Sc) (M : Mem) : Prop := M.1 44 0 = i32 (cW S) ∧ M.1 45 0 = i32 (cH S) ∧ M.1 47 0 = i32 (cP S) ∧ M.1 49 0 = i32 (cI S) ∧
  (∀ x y : Int, 0 ≤ x → x < 12 → 0 ≤ y → y < 12 → M.1 46 (12 * y + x).toNat = i32 (bI (cWl S x y))) ∧
  (∀ p j : Nat, p < cP S → j < 6 → M.1 48 (6 * p + j) = i32 (cPd S p j)) ∧ (∀ i j : Nat, i < cI S → j < 5 → M.1 50 (5 * i + j) = i32 (cQd S i j))
theorem bI_0 (c : Bool) : 0 ≤ bI c ∧ bI c ≤ 1 := by cases c <;> decide
theorem bI_t : bI true = 1 := rfl
theorem bI_f : bI false = 0 := rfl
theorem ite_bI {α : Type} (c : Bool) (a b : α) : (if i32 (bI c) = i32 0 then a else b) = if c = true then b else a := by
  cases c
  · rfl
  · rfl
def btw (a l h : Int) : Bool := decide (l ≤ a ∧ a ≤ h)
theorem isBetween_C {a l h : Int} (h1 : (-2147483648 ≤ a ∧ a ≤ 2147483647) ∧ (-2147483648 ≤ l ∧ l ≤ 2147483647) ∧ (-2147483648 ≤ h ∧ h ≤ 2147483647)) : fX4_isBetween (i32 a) (i32 l) (i32 h) = some (i32 (bI (btw a l h))) := by
  unfold fX4_isBetween
  simp (disch := omega) only [i32_lt]
  unfold btw
  by_cases c1 : a < l
  · rw [if_pos c1, decide_eq_false (by omega)]; rfl
  · rw [if_neg c1]
    by_cases c2 : h < a
    · rw [if_pos c2, decide_eq_false (by omega)]; rfl
    · rw [if_neg c2, decide_eq_true (by omega)]; rfl
theorem in_M {a l h : Int} (h1 : (-2147483648 ≤ a ∧ a ≤ 2147483647) ∧ (-2147483648 ≤ l ∧ l ≤ 2147483647) ∧ (-2147483648 ≤ h ∧ h ≤ 2147483647)) : fX5_in (i32 a) (i32 l) (i32 h) = some (i32 (bI (btw a l h))) := isBetween_C h1
def sCell (S : Sc) (x y : Int) : Bool := decide ((0 ≤ x ∧ x < cW S) ∧ (0 ≤ y ∧ y < cH S))
theorem isCell_C {b : Nat} {S : Sc} {M : Mem} (hS : okS S) (hR : RC b S M) {x y : Int} (h1 : (-2147483648 ≤ x ∧ x ≤ 2147483647) ∧ (-2147483648 ≤ y ∧ y ≤ 2147483647)) : fX2_isCell b (i32 x) (i32 y) M = some (i32 (bI (sCell S x y))) := by
  obtain ⟨hw, hh, -⟩ := hS
  unfold fX2_isCell sCell
  rw [hR.1, hR.2.1]
  simp only [L0, L1, L2, L3, L4, L5, L6, L7, L8, L9, L10, L11, L12, L13, L15, L16, L20, L24, L31, L32, L40, L41, L48, L50, L57, L59, L63, L80, L81, L96, L97, L99, L100, L122, L144, L199, L255, L400, L1681, L68921, L1000000]
  simp (disch := omega) only [i32_lt, i32_le]
  by_cases c1 : x < 0
  · rw [if_pos c1, decide_eq_false (by omega)]; rfl
  rw [if_neg c1]
  by_cases c2 : cW S ≤ x
  · rw [if_pos c2, decide_eq_false (by omega)]; rfl
  rw [if_neg c2]
  by_cases c3 : y < 0
  · rw [if_pos c3, decide_eq_false (by omega)]; rfl
  rw [if_neg c3]
  by_cases c4 : cH S ≤ y
  · rw [if_pos c4, decide_eq_false (by omega)]; rfl
  rw [if_neg c4, decide_eq_true (by omega)]; rfl
theorem ofPerson_C {b : Nat} {S : Sc} {M : Mem} (hS : okS S) (hR : RC b S M) {p j : Nat} (hp : p < cP S) (hj : j < 6) : fX2_ofPerson b (i32 p) (i32 j) M = some (i32 (cPd S p j)) := by
  have h8 := hS.2.2.1
  unfold fX2_ofPerson
  simp only [L0, L1, L2, L3, L4, L5, L6, L7, L8, L9, L10, L11, L12, L13, L15, L16, L20, L24, L31, L32, L40, L41, L48, L50, L57, L59, L63, L80, L81, L96, L97, L99, L100, L122, L144, L199, L255, L400, L1681, L68921, L1000000, i32_add, i32_sub, i32_mul, i32_neg, Option.bind_some, Option.bind_none]
  rw [rI_ok (by omega), show (6 * (p : Int) + (j : Int)).toNat = 6 * p + j by omega, hR.2.2.2.2.2.1 p j hp hj]
  rfl
theorem ofPicture_C {b : Nat} {S : Sc} {M : Mem} (hS : okS S) (hR : RC b S M) {i j : Nat} (hp : i < cI S) (hj : j < 5) : fX2_ofPicture b (i32 i) (i32 j) M = some (i32 (cQd S i j)) := by
  have h8 := hS.2.2.2.1
  unfold fX2_ofPicture
  simp only [L0, L1, L2, L3, L4, L5, L6, L7, L8, L9, L10, L11, L12, L13, L15, L16, L20, L24, L31, L32, L40, L41, L48, L50, L57, L59, L63, L80, L81, L96, L97, L99, L100, L122, L144, L199, L255, L400, L1681, L68921, L1000000, i32_add, i32_sub, i32_mul, i32_neg, Option.bind_some, Option.bind_none]
  rw [rI_ok (by omega), show (5 * (i : Int) + (j : Int)).toNat = 5 * i + j by omega, hR.2.2.2.2.2.2 i j hp hj]
  rfl
def sx (w : Int) : Int := if w = 0 then 1 else if w = 2 then -1 else 0
def sy (w : Int) : Int := if w = 1 then 1 else if w = 3 then -1 else 0
theorem sx_3 (w : Int) : sx w = 1 ∨ sx w = -1 ∨ sx w = 0 := by
  unfold sx
  by_cases c1 : w = 0
  · rw [if_pos c1]; exact Or.inl rfl
  · rw [if_neg c1]
    by_cases c2 : w = 2
    · rw [if_pos c2]; exact Or.inr (Or.inl rfl)
    · rw [if_neg c2]; exact Or.inr (Or.inr rfl)
theorem sy_3 (w : Int) : sy w = 1 ∨ sy w = -1 ∨ sy w = 0 := by
  unfold sy
  by_cases c1 : w = 1
  · rw [if_pos c1]; exact Or.inl rfl
  · rw [if_neg c1]
    by_cases c2 : w = 3
    · rw [if_pos c2]; exact Or.inr (Or.inl rfl)
    · rw [if_neg c2]; exact Or.inr (Or.inr rfl)
theorem rT_X {w : Int} (h : 0 ≤ w ∧ w ≤ 4) : rT tSX (i32 w) = some (i32 (sx w)) := by
  rcases (show w = 0 ∨ w = 1 ∨ w = 2 ∨ w = 3 ∨ w = 4 by omega) with rfl | rfl | rfl | rfl | rfl <;> rfl
theorem rT_Y {w : Int} (h : 0 ≤ w ∧ w ≤ 4) : rT tSY (i32 w) = some (i32 (sy w)) := by
  rcases (show w = 0 ∨ w = 1 ∨ w = 2 ∨ w = 3 ∨ w = 4 by omega) with rfl | rfl | rfl | rfl | rfl <;> rfl
theorem asideOf_M {w : Int} (h : 0 ≤ w ∧ w ≤ 4) : fX5_asideOf (i32 w) = some (i32 (sx w)) := by
  rcases (show w = 0 ∨ w = 1 ∨ w = 2 ∨ w = 3 ∨ w = 4 by omega) with rfl | rfl | rfl | rfl | rfl <;> rfl
theorem downOf_M {w : Int} (h : 0 ≤ w ∧ w ≤ 4) : fX5_downOf (i32 w) = some (i32 (sy w)) := by
  rcases (show w = 0 ∨ w = 1 ∨ w = 2 ∨ w = 3 ∨ w = 4 by omega) with rfl | rfl | rfl | rfl | rfl <;> rfl
def px (S : Sc) (p : Nat) (t : Int) : Int := cPd S p 0 + (t - cPd S p 3) * sx (cPd S p 2)
def py (S : Sc) (p : Nat) (t : Int) : Int := cPd S p 1 + (t - cPd S p 3) * sy (cPd S p 2)
def there (S : Sc) (p : Nat) (t : Int) : Bool := btw (t - cPd S p 3) 0 (cPd S p 4) && (sCell S (px S p t) (py S p t) && !cWl S (px S p t) (py S p t))
def cellN (S : Sc) (p : Nat) (t : Int) : Int := if there S p t then cW S * py S p t + px S p t else -9
theorem px_b {S : Sc} (hS : okS S) {p : Nat} (hp : p < cP S) {t : Int} (ht : -1000 ≤ t ∧ t ≤ 1000) : -3000 ≤ px S p t ∧ px S p t ≤ 3000 := by
  obtain ⟨h0, h1, h2, h3, h4, h5⟩ := hS.2.2.2.2.1 p hp
  have := hS.1
  unfold px
  rcases sx_3 (cPd S p 2) with e | e | e <;> rw [e] <;> omega
theorem py_b {S : Sc} (hS : okS S) {p : Nat} (hp : p < cP S) {t : Int} (ht : -1000 ≤ t ∧ t ≤ 1000) : -3000 ≤ py S p t ∧ py S p t ≤ 3000 := by
  obtain ⟨h0, h1, h2, h3, h4, h5⟩ := hS.2.2.2.2.1 p hp
  have := hS.2.1
  unfold py
  rcases sy_3 (cPd S p 2) with e | e | e <;> rw [e] <;> omega
theorem sCell_iff {S : Sc} {x y : Int} : sCell S x y = true ↔ (0 ≤ x ∧ x < cW S) ∧ (0 ≤ y ∧ y < cH S) := by unfold sCell; exact decide_eq_true_iff
/-- a cell's number lies among the 144 -/
theorem cell_b {S : Sc} (hS : okS S) {x y : Int} (h : sCell S x y = true) : 0 ≤ cW S * y ∧ cW S * y ≤ 132 ∧ 0 ≤ cW S * y + x ∧ cW S * y + x < 144 ∧ cW S * y + x < cW S * cH S ∧ cW S * cH S ≤ 144 := by
  obtain ⟨⟨h1, h2⟩, h3, h4⟩ := sCell_iff.mp h
  obtain ⟨⟨w1, w2⟩, ⟨w3, w4⟩, -⟩ := hS
  have e1 : cW S * y ≤ cW S * (cH S - 1) := Int.mul_le_mul_of_nonneg_left (by omega) (by omega)
  have e2 : 0 ≤ cW S * y := Int.mul_nonneg (by omega) h3
  have e3 : cW S * (cH S - 1) = cW S * cH S - cW S := by rw [Int.mul_sub, Int.mul_one]
  have e4 : cW S * cH S ≤ 12 * 12 := Int.mul_le_mul w2 w4 (by omega) (by omega)
  have e5 : cW S * y ≤ 12 * 11 := Int.mul_le_mul w2 (by omega) h3 (by omega)
  omega
theorem cell_inj {W x y x' y' : Int} (hx : 0 ≤ x ∧ x < W) (hx' : 0 ≤ x' ∧ x' < W) (h : W * y + x = W * y' + x') : x = x' ∧ y = y' := by
  have hW : 0 < W := by omega
  have key : y = y' := by
    rcases Int.lt_trichotomy y y' with q | q | q
    · have : W * (y + 1) ≤ W * y' := Int.mul_le_mul_of_nonneg_left (by omega) (by omega)
      rw [Int.mul_add, Int.mul_one] at this
      omega
    · exact q
    · have : W * (y' + 1) ≤ W * y := Int.mul_le_mul_of_nonneg_left (by omega) (by omega)
      rw [Int.mul_add, Int.mul_one] at this
      omega
  subst key
  exact ⟨by omega, rfl⟩
theorem wall_C {b : Nat} {S : Sc} {M : Mem} (hS : okS S) (hR : RC b S M) {x y : Int} (h : sCell S x y = true) : rI M (b + 1) 144 (i32 (cW S * y + x)) = some (i32 (bI (cWl S x y))) := by
  have hb := cell_b hS h
  obtain ⟨⟨h1, h2⟩, h3, h4⟩ := sCell_iff.mp h
  rw [rI_ok (by omega), hR.2.2.2.2.1 x y h1 h2 h3 h4]
theorem cellOf_C {b : Nat} {S : Sc} {M : Mem} (hS : okS S) (hR : RC b S M) {p : Nat} (hp : p < cP S) {t : Int} (ht : -1000 ≤ t ∧ t ≤ 1000) : fX2_cellOf b (i32 p) (i32 t) M = some (i32 (cellN S p t)) := by
  obtain ⟨h0, h1, h2, h3, h4, h5⟩ := hS.2.2.2.2.1 p hp
  have bx := px_b hS hp ht
  have bY := py_b hS hp ht
  have E0 := ofPerson_C hS hR hp (show 0 < 6 by decide)
  have E1 := ofPerson_C hS hR hp (show 1 < 6 by decide)
  have E2 := ofPerson_C hS hR hp (show 2 < 6 by decide)
  have E3 := ofPerson_C hS hR hp (show 3 < 6 by decide)
  have E4 := ofPerson_C hS hR hp (show 4 < 6 by decide)
  unfold fX2_cellOf
  simp only [L0, L1, L2, L3, L4, L5, L6, L7, L8, L9, L10, L11, L12, L13, L15, L16, L20, L24, L31, L32, L40, L41, L48, L50, L57, L59, L63, L80, L81, L96, L97, L99, L100, L122, L144, L199, L255, L400, L1681, L68921, L1000000]
  rw [show ((0 : Nat) : Int) = 0 from rfl] at E0
  rw [show ((1 : Nat) : Int) = 1 from rfl] at E1
  rw [show ((2 : Nat) : Int) = 2 from rfl] at E2
  rw [show ((3 : Nat) : Int) = 3 from rfl] at E3
  rw [show ((4 : Nat) : Int) = 4 from rfl] at E4
  simp only [E0, E1, E2, E3, E4, rT_X h2, rT_Y h2, Option.bind_some, i32_sub, i32_mul, i32_add, hR.1]
  rw [isBetween_C (by omega)]
  simp only [Option.bind_some, ite_bI]
  have fx : cPd S p 0 + (t - cPd S p 3) * sx (cPd S p 2) = px S p t := rfl
  have fy : cPd S p 1 + (t - cPd S p 3) * sy (cPd S p 2) = py S p t := rfl
  rw [fx, fy, isCell_C hS hR (by omega)]
  simp only [Option.bind_some, ite_bI]
  unfold cellN there
  cases c1 : btw (t - cPd S p 3) 0 (cPd S p 4) with
  | false => rfl
  | true =>
    cases c2 : sCell S (px S p t) (py S p t) with
    | false => rfl
    | true =>
      rw [wall_C hS hR c2]
      simp only [Option.bind_some, ite_bI]
      cases cWl S (px S p t) (py S p t) <;> rfl

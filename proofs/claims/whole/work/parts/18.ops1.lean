/-! Calls that ask: wall, person, picture, where, on, shows, view, hidden. -/
theorem i32_ex (x : Int32) : ∃ z : Int, (-2147483648 ≤ z ∧ z ≤ 2147483647) ∧ x = i32 z := ⟨x.toInt, ⟨i32_ge x, i32_le' x⟩, i32_of x⟩
def shP (S : Sc) (i : Nat) : Int32 := shS S (cQd S i 0) (cQd S i 1) (cQd S i 2) (cQd S i 3) (cQd S i 4)
/-- the class's scene: the square, its cache, whom each picture shows -/
def IC (b : Nat) (S : Sc) (M : Mem) : Prop := okS S ∧ isSc b ∧ RC b S M ∧ Cached b S M ∧ (∀ i, i < cI S → M.1 (b + 6) i = shP S i)
/-- what asking calls may change in the class's cells -/
def QC (b : Nat) (M M' : Mem) : Prop := M'.2.2 = M.2.2 ∧ (∀ a, a ≠ b + 8 → M'.2.1 a = M.2.1 a) ∧ (∀ a, a ≠ b → a ≠ b + 4 → a ≠ b + 5 → a ≠ b + 7 → a ≠ 8 → a ≠ 21 → a ≠ 22 → a ≠ 23 → M'.1 a = M.1 a) ∧ (∀ j, j ≠ 10 → M'.1 b j = M.1 b j)
theorem QC.rf {b : Nat} {M : Mem} : QC b M M := ⟨rfl, fun _ _ => rfl, fun _ _ _ _ _ _ _ _ _ => rfl, fun _ _ => rfl⟩
theorem Sm.q {b : Nat} {M M' : Mem} (h : Sm b M M') : QC b M M' := ⟨h.1, fun a _ => by rw [h.2.1], fun a q1 q2 q3 _ _ _ _ _ => h.2.2.1 a q1 q2 q3, h.2.2.2⟩
theorem QC.tr {b : Nat} {M M1 M2 : Mem} (h : QC b M M1) (k : QC b M1 M2) : QC b M M2 := ⟨k.1.trans h.1, fun a q => (k.2.1 a q).trans (h.2.1 a q), fun a q1 q2 q3 q4 q5 q6 q7 q8 => (k.2.2.1 a q1 q2 q3 q4 q5 q6 q7 q8).trans (h.2.2.1 a q1 q2 q3 q4 q5 q6 q7 q8), fun j q => (k.2.2.2 j q).trans (h.2.2.2 j q)⟩
theorem sc_b {b : Nat} (h : isSc b) : 24 ≤ b ∧ b ≤ 33 := by rcases h with rfl | rfl <;> decide
theorem RC.qc {b : Nat} {S : Sc} {M M' : Mem} (hb : isSc b) (h : RC b S M) (k : QC b M M') : RC b S M' := by
  have := sc_b hb
  obtain ⟨h1, h2, h3, h4, h5, h6, h7⟩ := h
  obtain ⟨-, -, k1, k2⟩ := k
  refine ⟨by rw [k2 3 (by decide)]; exact h1, by rw [k2 4 (by decide)]; exact h2, by rw [k2 6 (by decide)]; exact h3, by rw [k2 7 (by decide)]; exact h4, ?_, ?_, ?_⟩
  · intro x y a1 a2 a3 a4
    rw [k1 (b + 1) (by omega) (by omega) (by omega) (by omega) (by omega) (by omega) (by omega) (by omega)]; exact h5 x y a1 a2 a3 a4
  · intro p j a1 a2
    rw [k1 (b + 2) (by omega) (by omega) (by omega) (by omega) (by omega) (by omega) (by omega) (by omega)]; exact h6 p j a1 a2
  · intro p j a1 a2
    rw [k1 (b + 3) (by omega) (by omega) (by omega) (by omega) (by omega) (by omega) (by omega) (by omega)]; exact h7 p j a1 a2
/-- what asking calls may change in the model's cells -/
def Vm (M M' : Mem) : Prop := M'.2 = M.2 ∧ (∀ a, a ≠ 42 → a ≠ 63 → a ≠ 64 → a ≠ 65 → a ≠ 66 → a ≠ 67 → M'.1 a = M.1 a) ∧ (∀ j, (j < 15 ∨ 19 < j) → j ≠ 36 → M'.1 42 j = M.1 42 j) ∧ (M'.1 65 0, M'.1 63 0) = (M.1 65 0, M.1 63 0)
theorem Vm.rf {M : Mem} : Vm M M := ⟨rfl, fun _ _ _ _ _ _ _ => rfl, fun _ _ _ => rfl, rfl⟩
theorem Vm.tr {M M1 M2 : Mem} (h : Vm M M1) (k : Vm M1 M2) : Vm M M2 := ⟨k.1.trans h.1, fun a q1 q2 q3 q4 q5 q6 => (k.2.1 a q1 q2 q3 q4 q5 q6).trans (h.2.1 a q1 q2 q3 q4 q5 q6), fun j q1 q2 => (k.2.2.1 j q1 q2).trans (h.2.2.1 j q1 q2), k.2.2.2.trans h.2.2.2⟩
theorem Vm.f {M : Mem} {j : Nat} {x : Int32} (h : (15 ≤ j ∧ j ≤ 19) ∨ j = 36) : Vm M (sI M 42 j x) := ⟨rfl, fun a q1 _ _ _ _ _ => sI_ne q1, fun j' q1 q2 => sI_nj (by omega), by rw [sI_ne (by decide), sI_ne (by decide)]⟩
theorem RM.vm {S : Sc} {M M' : Mem} (h : RM S M) (k : Vm M M') : RM S M' := by
  obtain ⟨h1, h2, h3, h4, h5, h6, h7⟩ := h
  obtain ⟨-, k1, -⟩ := k
  refine ⟨?_, ?_, ?_, ?_, ?_, ?_, ?_⟩
  · rw [k1 44 (by decide) (by decide) (by decide) (by decide) (by decide) (by decide)]; exact h1
  · rw [k1 45 (by decide) (by decide) (by decide) (by decide) (by decide) (by decide)]; exact h2
  · rw [k1 47 (by decide) (by decide) (by decide) (by decide) (by decide) (by decide)]; exact h3
  · rw [k1 49 (by decide) (by decide) (by decide) (by decide) (by decide) (by decide)]; exact h4
  · rw [k1 46 (by decide) (by decide) (by decide) (by decide) (by decide) (by decide)]; exact h5
  · rw [k1 48 (by decide) (by decide) (by decide) (by decide) (by decide) (by decide)]; exact h6
  · rw [k1 50 (by decide) (by decide) (by decide) (by decide) (by decide) (by decide)]; exact h7
theorem gB_bI (c : Bool) : gB (i32 (bI c)) = some (i32 (bI c)) := by cases c <;> rfl
theorem isPerson_C {b : Nat} {S : Sc} {M : Mem} (hS : okS S) (hR : RC b S M) {z : Int} (h : -2147483648 ≤ z ∧ z ≤ 2147483647) : fX2_isPerson b (i32 z) M = some (i32 (bI (btw z 0 ((cP S : Int) - 1)))) := by
  have := hS.2.2.1
  unfold fX2_isPerson
  rw [hR.2.2.1]
  simp only [L0, L1, L2, L3, L4, L5, L6, L7, L8, L9, L10, L11, L12, L13, L15, L16, L20, L24, L31, L32, L40, L41, L48, L50, L57, L59, L63, L80, L81, L96, L97, L99, L100, L122, L144, L199, L255, L400, L1681, L68921, L1000000, i32_add, i32_sub, i32_mul, i32_neg, Option.bind_some, Option.bind_none]
  rw [isBetween_C (by omega)]
  simp only [Option.bind_some, Option.bind_none, gB_bI]
theorem isPicture_C {b : Nat} {S : Sc} {M : Mem} (hS : okS S) (hR : RC b S M) {z : Int} (h : -2147483648 ≤ z ∧ z ≤ 2147483647) : fX2_isPicture b (i32 z) M = some (i32 (bI (btw z 0 ((cI S : Int) - 1)))) := by
  have := hS.2.2.2.1
  unfold fX2_isPicture
  rw [hR.2.2.2.1]
  simp only [L0, L1, L2, L3, L4, L5, L6, L7, L8, L9, L10, L11, L12, L13, L15, L16, L20, L24, L31, L32, L40, L41, L48, L50, L57, L59, L63, L80, L81, L96, L97, L99, L100, L122, L144, L199, L255, L400, L1681, L68921, L1000000, i32_add, i32_sub, i32_mul, i32_neg, Option.bind_some, Option.bind_none]
  rw [isBetween_C (by omega)]
  simp only [Option.bind_some, Option.bind_none, gB_bI]
theorem isPerson_M {S : Sc} {M : Mem} (hS : okS S) (hR : RM S M) {z : Int} (h : -2147483648 ≤ z ∧ z ≤ 2147483647) : fX5_isPerson (i32 z) M = some (i32 (bI (btw z 0 ((cP S : Int) - 1)))) := by
  have := hS.2.2.1
  unfold fX5_isPerson
  simp only [L0, L1, L2, L3, L4, L5, L6, L7, L8, L9, L10, L11, L12, L13, L15, L16, L20, L24, L31, L32, L40, L41, L48, L50, L57, L59, L63, L80, L81, L96, L97, L99, L100, L122, L144, L199, L255, L400, L1681, L68921, L1000000, i32_add, i32_sub, i32_mul, i32_neg, Option.bind_some, Option.bind_none]
  rw [rI_ok (by omega), show ((0 : Int)).toNat = 0 from rfl, hR.2.2.1]
  simp only [L0, L1, L2, L3, L4, L5, L6, L7, L8, L9, L10, L11, L12, L13, L15, L16, L20, L24, L31, L32, L40, L41, L48, L50, L57, L59, L63, L80, L81, L96, L97, L99, L100, L122, L144, L199, L255, L400, L1681, L68921, L1000000, i32_add, i32_sub, i32_mul, i32_neg, Option.bind_some, Option.bind_none]
  rw [in_M (by omega)]
  simp only [Option.bind_some, Option.bind_none, gB_bI]
theorem isPicture_M {S : Sc} {M : Mem} (hS : okS S) (hR : RM S M) {z : Int} (h : -2147483648 ≤ z ∧ z ≤ 2147483647) : fX5_isPicture (i32 z) M = some (i32 (bI (btw z 0 ((cI S : Int) - 1)))) := by
  have := hS.2.2.2.1
  unfold fX5_isPicture
  simp only [L0, L1, L2, L3, L4, L5, L6, L7, L8, L9, L10, L11, L12, L13, L15, L16, L20, L24, L31, L32, L40, L41, L48, L50, L57, L59, L63, L80, L81, L96, L97, L99, L100, L122, L144, L199, L255, L400, L1681, L68921, L1000000, i32_add, i32_sub, i32_mul, i32_neg, Option.bind_some, Option.bind_none]
  rw [rI_ok (by omega), show ((0 : Int)).toNat = 0 from rfl, hR.2.2.2.1]
  simp only [L0, L1, L2, L3, L4, L5, L6, L7, L8, L9, L10, L11, L12, L13, L15, L16, L20, L24, L31, L32, L40, L41, L48, L50, L57, L59, L63, L80, L81, L96, L97, L99, L100, L122, L144, L199, L255, L400, L1681, L68921, L1000000, i32_add, i32_sub, i32_mul, i32_neg, Option.bind_some, Option.bind_none]
  rw [in_M (by omega)]
  simp only [Option.bind_some, Option.bind_none, gB_bI]
theorem btw_t {a l h : Int} (c : btw a l h = true) : l ≤ a ∧ a ≤ h := of_decide_eq_true c
theorem isWall_C {b : Nat} {S : Sc} {M : Mem} (hS : okS S) (hR : RC b S M) {x y : Int} (h1 : (-2147483648 ≤ x ∧ x ≤ 2147483647) ∧ (-2147483648 ≤ y ∧ y ≤ 2147483647)) : fX2_isWall b (i32 x) (i32 y) M = some (i32 (bI (sCell S x y && cWl S x y))) := by
  unfold fX2_isWall
  rw [isCell_C hS hR h1, hR.1]
  simp only [L0, L1, L2, L3, L4, L5, L6, L7, L8, L9, L10, L11, L12, L13, L15, L16, L20, L24, L31, L32, L40, L41, L48, L50, L57, L59, L63, L80, L81, L96, L97, L99, L100, L122, L144, L199, L255, L400, L1681, L68921, L1000000, i32_add, i32_sub, i32_mul, i32_neg, Option.bind_some, Option.bind_none, ite_bI]
  cases hc : sCell S x y with
  | false => rfl
  | true =>
    rw [if_pos rfl, wall_C hS hR hc]
    simp only [L0, L1, L2, L3, L4, L5, L6, L7, L8, L9, L10, L11, L12, L13, L15, L16, L20, L24, L31, L32, L40, L41, L48, L50, L57, L59, L63, L80, L81, L96, L97, L99, L100, L122, L144, L199, L255, L400, L1681, L68921, L1000000, i32_add, i32_sub, i32_mul, i32_neg, Option.bind_some, Option.bind_none, ite_bI]
    cases cWl S x y <;> rfl
/-- the picture's data, as the model reads it -/
theorem qd_M {S : Sc} {M : Mem} (hS : okS S) (hR : RM S M) {i : Nat} (hi : i < cI S) (j : Nat) (hj : j < 5) : rI M 50 100 (i32 (5 * (i : Int) + j)) = some (i32 (cQd S i j)) := by
  have := hS.2.2.2.1
  rw [rI_ok (by omega), show (5 * (i : Int) + (j : Int)).toNat = 5 * i + j by omega, hR.2.2.2.2.2.2 i j hi hj]
theorem qd_M0 {S : Sc} {M : Mem} (hS : okS S) (hR : RM S M) {i : Nat} (hi : i < cI S) : rI M 50 100 (i32 (5 * (i : Int))) = some (i32 (cQd S i 0)) := by
  have := qd_M hS hR hi 0 (by decide)
  rw [show 5 * (i : Int) + ((0 : Nat) : Int) = 5 * i by omega] at this
  exact this
theorem wall_op {b : Nat} {S : Sc} {M : Mem} (hI : IC b S M) (hb : M.2.2 0 5 = b) (x y : Int32) : ∃ v, fX4_wall x y M = some v ∧ ∀ M2, RM S M2 → fX5_wall x y M2 = some v := by
  obtain ⟨hS, -, hR, -, -⟩ := hI
  obtain ⟨x, hx, rfl⟩ := i32_ex x
  obtain ⟨y, hy, rfl⟩ := i32_ex y
  have hM0 : ∀ M2, RM S M2 → fX5_wall (i32 x) (i32 y) M2 = (if sCell S x y = true then (if (sCell S x y && cWl S x y) = true then some (i32 1) else some (i32 0)) else some (i32 (-1))) := by
    intro M2 hM
    unfold fX5_wall
    rw [isOn_M hS hM ⟨hx, hy⟩, isWall_M hS hM ⟨hx, hy⟩]
    simp only [L0, L1, L2, L3, L4, L5, L6, L7, L8, L9, L10, L11, L12, L13, L15, L16, L20, L24, L31, L32, L40, L41, L48, L50, L57, L59, L63, L80, L81, L96, L97, L99, L100, L122, L144, L199, L255, L400, L1681, L68921, L1000000, i32_add, i32_sub, i32_mul, i32_neg, Option.bind_some, Option.bind_none, ite_bI]
  unfold fX4_wall
  rw [hb, isCell_C hS hR ⟨hx, hy⟩, isWall_C hS hR ⟨hx, hy⟩]
  simp only [L0, L1, L2, L3, L4, L5, L6, L7, L8, L9, L10, L11, L12, L13, L15, L16, L20, L24, L31, L32, L40, L41, L48, L50, L57, L59, L63, L80, L81, L96, L97, L99, L100, L122, L144, L199, L255, L400, L1681, L68921, L1000000, i32_add, i32_sub, i32_mul, i32_neg, Option.bind_some, Option.bind_none, ite_bI]
  cases h1 : sCell S x y with
  | false => exact ⟨_, rfl, fun M2 hM => by rw [hM0 M2 hM, h1]; rfl⟩
  | true =>
    cases h2 : cWl S x y with
    | false => exact ⟨_, rfl, fun M2 hM => by rw [hM0 M2 hM, h1, h2]; rfl⟩
    | true => exact ⟨_, rfl, fun M2 hM => by rw [hM0 M2 hM, h1, h2]; rfl⟩
theorem nat_of {z : Int} {n : Nat} (h : btw z 0 ((n : Int) - 1) = true) : ∃ k : Nat, k < n ∧ z = (k : Int) := ⟨z.toNat, by have := btw_t h; omega, by have := btw_t h; omega⟩
theorem person_op {b : Nat} {S : Sc} {M : Mem} (hI : IC b S M) (hb : M.2.2 0 5 = b) (x y : Int32) : ∃ v, fX4_person x y M = some v ∧ ∀ M2, RM S M2 → fX5_person x y M2 = some v := by
  obtain ⟨hS, -, hR, -, -⟩ := hI
  obtain ⟨x, hx, rfl⟩ := i32_ex x
  obtain ⟨y, hy, rfl⟩ := i32_ex y
  have h8 := hS.2.2.1
  have hM0 : ∀ M2, RM S M2 → fX5_person (i32 x) (i32 y) M2 = (if btw x 0 ((cP S : Int) - 1) = true then (if btw y 0 5 = true then (rI M2 48 96 (i32 (6 * x + y))).bind fun v => some v else some (i32 (-1))) else some (i32 (-1))) := by
    intro M2 hM
    unfold fX5_person
    simp only [L0, L1, L2, L3, L4, L5, L6, L7, L8, L9, L10, L11, L12, L13, L15, L16, L20, L24, L31, L32, L40, L41, L48, L50, L57, L59, L63, L80, L81, L96, L97, L99, L100, L122, L144, L199, L255, L400, L1681, L68921, L1000000, i32_add, i32_sub, i32_mul, i32_neg, Option.bind_some, Option.bind_none]
    rw [isPerson_M hS hM hx, in_M (by omega)]
    simp only [L0, L1, L2, L3, L4, L5, L6, L7, L8, L9, L10, L11, L12, L13, L15, L16, L20, L24, L31, L32, L40, L41, L48, L50, L57, L59, L63, L80, L81, L96, L97, L99, L100, L122, L144, L199, L255, L400, L1681, L68921, L1000000, i32_add, i32_sub, i32_mul, i32_neg, Option.bind_some, Option.bind_none, ite_bI]
  unfold fX4_person
  simp only [L0, L1, L2, L3, L4, L5, L6, L7, L8, L9, L10, L11, L12, L13, L15, L16, L20, L24, L31, L32, L40, L41, L48, L50, L57, L59, L63, L80, L81, L96, L97, L99, L100, L122, L144, L199, L255, L400, L1681, L68921, L1000000, i32_add, i32_sub, i32_mul, i32_neg, Option.bind_some, Option.bind_none]
  rw [hb, isPerson_C hS hR hx, isBetween_C (by omega)]
  simp only [L0, L1, L2, L3, L4, L5, L6, L7, L8, L9, L10, L11, L12, L13, L15, L16, L20, L24, L31, L32, L40, L41, L48, L50, L57, L59, L63, L80, L81, L96, L97, L99, L100, L122, L144, L199, L255, L400, L1681, L68921, L1000000, i32_add, i32_sub, i32_mul, i32_neg, Option.bind_some, Option.bind_none, ite_bI]
  cases h1 : btw x 0 ((cP S : Int) - 1) with
  | false => exact ⟨_, rfl, fun M2 hM => by rw [hM0 M2 hM, h1]; rfl⟩
  | true =>
    cases h2 : btw y 0 5 with
    | false => exact ⟨_, rfl, fun M2 hM => by rw [hM0 M2 hM, h1, h2]; rfl⟩
    | true =>
      obtain ⟨p, hp, rfl⟩ := nat_of h1
      obtain ⟨j, hj, rfl⟩ := nat_of (n := 6) h2
      refine ⟨i32 (cPd S p j), ?_, fun M2 hM => ?_⟩
      · rw [if_pos rfl, if_pos rfl, ofPerson_C hS hR hp hj]; rfl
      · rw [hM0 M2 hM, h1, h2, if_pos rfl, if_pos rfl, rI_ok (by omega), show (6 * (p : Int) + (j : Int)).toNat = 6 * p + j by omega, hM.2.2.2.2.2.1 p j hp hj]; rfl
theorem picture_op {b : Nat} {S : Sc} {M : Mem} (hI : IC b S M) (hb : M.2.2 0 5 = b) (x y : Int32) : ∃ v, fX4_picture x y M = some v ∧ ∀ M2, RM S M2 → fX5_picture x y M2 = some v := by
  obtain ⟨hS, -, hR, -, -⟩ := hI
  obtain ⟨x, hx, rfl⟩ := i32_ex x
  obtain ⟨y, hy, rfl⟩ := i32_ex y
  have h8 := hS.2.2.2.1
  have hM0 : ∀ M2, RM S M2 → fX5_picture (i32 x) (i32 y) M2 = (if btw x 0 ((cI S : Int) - 1) = true then (if btw y 0 4 = true then (rI M2 50 100 (i32 (5 * x + y))).bind fun v => some v else some (i32 (-1))) else some (i32 (-1))) := by
    intro M2 hM
    unfold fX5_picture
    simp only [L0, L1, L2, L3, L4, L5, L6, L7, L8, L9, L10, L11, L12, L13, L15, L16, L20, L24, L31, L32, L40, L41, L48, L50, L57, L59, L63, L80, L81, L96, L97, L99, L100, L122, L144, L199, L255, L400, L1681, L68921, L1000000, i32_add, i32_sub, i32_mul, i32_neg, Option.bind_some, Option.bind_none]
    rw [isPicture_M hS hM hx, in_M (by omega)]
    simp only [L0, L1, L2, L3, L4, L5, L6, L7, L8, L9, L10, L11, L12, L13, L15, L16, L20, L24, L31, L32, L40, L41, L48, L50, L57, L59, L63, L80, L81, L96, L97, L99, L100, L122, L144, L199, L255, L400, L1681, L68921, L1000000, i32_add, i32_sub, i32_mul, i32_neg, Option.bind_some, Option.bind_none, ite_bI]
  unfold fX4_picture
  simp only [L0, L1, L2, L3, L4, L5, L6, L7, L8, L9, L10, L11, L12, L13, L15, L16, L20, L24, L31, L32, L40, L41, L48, L50, L57, L59, L63, L80, L81, L96, L97, L99, L100, L122, L144, L199, L255, L400, L1681, L68921, L1000000, i32_add, i32_sub, i32_mul, i32_neg, Option.bind_some, Option.bind_none]
  rw [hb, isPicture_C hS hR hx, isBetween_C (by omega)]
  simp only [L0, L1, L2, L3, L4, L5, L6, L7, L8, L9, L10, L11, L12, L13, L15, L16, L20, L24, L31, L32, L40, L41, L48, L50, L57, L59, L63, L80, L81, L96, L97, L99, L100, L122, L144, L199, L255, L400, L1681, L68921, L1000000, i32_add, i32_sub, i32_mul, i32_neg, Option.bind_some, Option.bind_none, ite_bI]
  cases h1 : btw x 0 ((cI S : Int) - 1) with
  | false => exact ⟨_, rfl, fun M2 hM => by rw [hM0 M2 hM, h1]; rfl⟩
  | true =>
    cases h2 : btw y 0 4 with
    | false => exact ⟨_, rfl, fun M2 hM => by rw [hM0 M2 hM, h1, h2]; rfl⟩
    | true =>
      obtain ⟨p, hp, rfl⟩ := nat_of h1
      obtain ⟨j, hj, rfl⟩ := nat_of (n := 5) h2
      refine ⟨i32 (cQd S p j), ?_, fun M2 hM => ?_⟩
      · rw [if_pos rfl, if_pos rfl, ofPicture_C hS hR hp hj]; rfl
      · rw [hM0 M2 hM, h1, h2, if_pos rfl, if_pos rfl, qd_M hS hM hp j hj]; rfl
theorem where_op {b : Nat} {S : Sc} {M : Mem} (hI : IC b S M) (hb : M.2.2 0 5 = b) (x y : Int32) : ∃ v, fX4_where x y M = some v ∧ ∀ M2, RM S M2 → fX5_where x y M2 = some v := by
  obtain ⟨hS, -, hR, -, -⟩ := hI
  obtain ⟨x, hx, rfl⟩ := i32_ex x
  obtain ⟨y, hy, rfl⟩ := i32_ex y
  have hM0 : ∀ M2, RM S M2 → fX5_where (i32 x) (i32 y) M2 = (if btw x 0 ((cP S : Int) - 1) = true then (if btw y 0 199 = true then (fX5_cellOf (i32 x) (i32 y) M2).bind fun v => some v else some (i32 (-1))) else some (i32 (-1))) := by
    intro M2 hM
    unfold fX5_where
    simp only [L0, L1, L2, L3, L4, L5, L6, L7, L8, L9, L10, L11, L12, L13, L15, L16, L20, L24, L31, L32, L40, L41, L48, L50, L57, L59, L63, L80, L81, L96, L97, L99, L100, L122, L144, L199, L255, L400, L1681, L68921, L1000000, i32_add, i32_sub, i32_mul, i32_neg, Option.bind_some, Option.bind_none]
    rw [isPerson_M hS hM hx, in_M (by omega)]
    simp only [L0, L1, L2, L3, L4, L5, L6, L7, L8, L9, L10, L11, L12, L13, L15, L16, L20, L24, L31, L32, L40, L41, L48, L50, L57, L59, L63, L80, L81, L96, L97, L99, L100, L122, L144, L199, L255, L400, L1681, L68921, L1000000, i32_add, i32_sub, i32_mul, i32_neg, Option.bind_some, Option.bind_none, ite_bI]
  unfold fX4_where
  simp only [L0, L1, L2, L3, L4, L5, L6, L7, L8, L9, L10, L11, L12, L13, L15, L16, L20, L24, L31, L32, L40, L41, L48, L50, L57, L59, L63, L80, L81, L96, L97, L99, L100, L122, L144, L199, L255, L400, L1681, L68921, L1000000, i32_add, i32_sub, i32_mul, i32_neg, Option.bind_some, Option.bind_none]
  rw [hb, isPerson_C hS hR hx, isBetween_C (by omega)]
  simp only [L0, L1, L2, L3, L4, L5, L6, L7, L8, L9, L10, L11, L12, L13, L15, L16, L20, L24, L31, L32, L40, L41, L48, L50, L57, L59, L63, L80, L81, L96, L97, L99, L100, L122, L144, L199, L255, L400, L1681, L68921, L1000000, i32_add, i32_sub, i32_mul, i32_neg, Option.bind_some, Option.bind_none, ite_bI]
  cases h1 : btw x 0 ((cP S : Int) - 1) with
  | false => exact ⟨_, rfl, fun M2 hM => by rw [hM0 M2 hM, h1]; rfl⟩
  | true =>
    cases h2 : btw y 0 199 with
    | false => exact ⟨_, rfl, fun M2 hM => by rw [hM0 M2 hM, h1, h2]; rfl⟩
    | true =>
      obtain ⟨p, hp, rfl⟩ := nat_of h1
      have := btw_t h2
      refine ⟨i32 (cellN S p y), ?_, fun M2 hM => ?_⟩
      · rw [if_pos rfl, if_pos rfl, cellOf_C hS hR hp (by omega)]; rfl
      · rw [hM0 M2 hM, h1, h2, if_pos rfl, if_pos rfl, cellOf_M hS hM hp (by omega)]; rfl
theorem on_op {b : Nat} {S : Sc} {M : Mem} (hI : IC b S M) (hb : M.2.2 0 5 = b) (x y t : Int32) : ∃ v M1, fX4_on x y t M = some (v, M1) ∧ QC b M M1 ∧ Cached b S M1 ∧ ∀ M2, RM S M2 → fX5_on x y t M2 = some v := by
  obtain ⟨hS, -, hR, hC, -⟩ := hI
  obtain ⟨x, hx, rfl⟩ := i32_ex x
  obtain ⟨y, hy, rfl⟩ := i32_ex y
  obtain ⟨t, ht, rfl⟩ := i32_ex t
  have hM0 : ∀ M2, RM S M2 → fX5_on (i32 x) (i32 y) (i32 t) M2 = (if sCell S x y = true then (if btw t 0 199 = true then (fX5_thoseOn (i32 x) (i32 y) (i32 t) M2).bind fun v => some v else some (i32 (-1))) else some (i32 (-1))) := by
    intro M2 hM
    unfold fX5_on
    simp only [L0, L1, L2, L3, L4, L5, L6, L7, L8, L9, L10, L11, L12, L13, L15, L16, L20, L24, L31, L32, L40, L41, L48, L50, L57, L59, L63, L80, L81, L96, L97, L99, L100, L122, L144, L199, L255, L400, L1681, L68921, L1000000, i32_add, i32_sub, i32_mul, i32_neg, Option.bind_some, Option.bind_none]
    rw [isOn_M hS hM ⟨hx, hy⟩, in_M (by omega)]
    simp only [L0, L1, L2, L3, L4, L5, L6, L7, L8, L9, L10, L11, L12, L13, L15, L16, L20, L24, L31, L32, L40, L41, L48, L50, L57, L59, L63, L80, L81, L96, L97, L99, L100, L122, L144, L199, L255, L400, L1681, L68921, L1000000, i32_add, i32_sub, i32_mul, i32_neg, Option.bind_some, Option.bind_none, ite_bI]
  unfold fX4_on
  simp only [L0, L1, L2, L3, L4, L5, L6, L7, L8, L9, L10, L11, L12, L13, L15, L16, L20, L24, L31, L32, L40, L41, L48, L50, L57, L59, L63, L80, L81, L96, L97, L99, L100, L122, L144, L199, L255, L400, L1681, L68921, L1000000, i32_add, i32_sub, i32_mul, i32_neg, Option.bind_some, Option.bind_none]
  rw [hb, isCell_C hS hR ⟨hx, hy⟩, isBetween_C (by omega)]
  simp only [L0, L1, L2, L3, L4, L5, L6, L7, L8, L9, L10, L11, L12, L13, L15, L16, L20, L24, L31, L32, L40, L41, L48, L50, L57, L59, L63, L80, L81, L96, L97, L99, L100, L122, L144, L199, L255, L400, L1681, L68921, L1000000, i32_add, i32_sub, i32_mul, i32_neg, Option.bind_some, Option.bind_none, ite_bI]
  cases h1 : sCell S x y with
  | false => exact ⟨_, _, rfl, QC.rf, hC, fun M2 hM => by rw [hM0 M2 hM, h1]; rfl⟩
  | true =>
    cases h2 : btw t 0 199 with
    | false => exact ⟨_, _, rfl, QC.rf, hC, fun M2 hM => by rw [hM0 M2 hM, h1, h2]; rfl⟩
    | true =>
      have := btw_t h2
      obtain ⟨M1, g1, g2, g3, g4⟩ := peopleOn_C hS hR hC (t := t) (by omega) h1
      refine ⟨onS S x y t, M1, ?_, g3.q, g2.cached (by omega), fun M2 hM => ?_⟩
      · rw [if_pos rfl, if_pos rfl, g1]; rfl
      · rw [hM0 M2 hM, h1, h2, if_pos rfl, if_pos rfl, thoseOn_M hS hM (by omega) ⟨hx, hy⟩]; rfl
/-- looking: four fields of the model -/
theorem lookFrom_M {S : Sc} {M : Mem} (hR : RM S M) (x y w t : Int) : ∃ M', fX5_lookFrom (i32 x) (i32 y) (i32 w) (i32 t) M = some M' ∧ Lk x y w t M' ∧ Vm M M' ∧ RM S M' := by
  have hv : Vm M (sI (sI (sI (sI M 42 15 (i32 x)) 42 16 (i32 y)) 42 17 (i32 w)) 42 18 (i32 t)) := (((Vm.f (by decide)).tr (Vm.f (by decide))).tr (Vm.f (by decide))).tr (Vm.f (by decide))
  refine ⟨_, rfl, ⟨?_, ?_, ?_, ?_⟩, hv, hR.vm hv⟩
  · rw [sI_nj (by decide), sI_nj (by decide), sI_nj (by decide), sI_at]
  · rw [sI_nj (by decide), sI_nj (by decide), sI_at]
  · rw [sI_nj (by decide), sI_at]
  · rw [sI_at]
theorem lookAs_M {S : Sc} {M : Mem} (hS : okS S) (hR : RM S M) {i : Nat} (hi : i < cI S) (t : Int) : ∃ M', fX5_lookAs (i32 i) (i32 t) M = some M' ∧ Lk (cQd S i 0) (cQd S i 1) (cQd S i 2) t M' ∧ Vm M M' ∧ RM S M' := by
  obtain ⟨M', g1, g2, g3, g4⟩ := lookFrom_M hR (cQd S i 0) (cQd S i 1) (cQd S i 2) t
  refine ⟨M', ?_, g2, g3, g4⟩
  unfold fX5_lookAs
  simp only [L0, L1, L2, L3, L4, L5, L6, L7, L8, L9, L10, L11, L12, L13, L15, L16, L20, L24, L31, L32, L40, L41, L48, L50, L57, L59, L63, L80, L81, L96, L97, L99, L100, L122, L144, L199, L255, L400, L1681, L68921, L1000000, i32_add, i32_sub, i32_mul, i32_neg, Option.bind_some, Option.bind_none]
  have E1 := qd_M hS hR hi 1 (by decide)
  have E2 := qd_M hS hR hi 2 (by decide)
  rw [show ((1 : Nat) : Int) = 1 from rfl] at E1
  rw [show ((2 : Nat) : Int) = 2 from rfl] at E2
  rw [qd_M0 hS hR hi, E1, E2]
  simp only [Option.bind_some, Option.bind_none]
  rw [g1]
  rfl
theorem vw_q {S : Sc} (hS : okS S) {i : Nat} (hi : i < cI S) : vw S (cQd S i 0) (cQd S i 1) (cQd S i 2) := by
  obtain ⟨h0, h1, h2, h3, h4⟩ := hS.2.2.2.2.2.1 i hi
  exact ⟨⟨h0, h1⟩, h2⟩
theorem showsOf_M {S : Sc} {M : Mem} (hS : okS S) (hR : RM S M) {i : Nat} (hi : i < cI S) : ∃ M', fX5_showsOf (i32 i) M = some (shP S i, M') ∧ Vm M M' ∧ RM S M' := by
  obtain ⟨h0, h1, h2, h3, h4⟩ := hS.2.2.2.2.2.1 i hi
  obtain ⟨M', g1, g2, g3, g4⟩ := lookAs_M hS hR hi (cQd S i 4)
  refine ⟨M', ?_, g3, g4⟩
  unfold fX5_showsOf
  simp only [L0, L1, L2, L3, L4, L5, L6, L7, L8, L9, L10, L11, L12, L13, L15, L16, L20, L24, L31, L32, L40, L41, L48, L50, L57, L59, L63, L80, L81, L96, L97, L99, L100, L122, L144, L199, L255, L400, L1681, L68921, L1000000, i32_add, i32_sub, i32_mul, i32_neg, Option.bind_some, Option.bind_none]
  have E3 := qd_M hS g4 hi 3 (by decide)
  have E4 := qd_M hS hR hi 4 (by decide)
  rw [show ((3 : Nat) : Int) = 3 from rfl] at E3
  rw [show ((4 : Nat) : Int) = 4 from rfl] at E4
  rw [E4]
  simp only [Option.bind_some, Option.bind_none]
  rw [g1]
  simp only [Option.bind_some, Option.bind_none]
  rw [E3]
  simp only [Option.bind_some, Option.bind_none]
  rw [shown_M hS g4 g2 (vw_q hS hi) (by omega) (by omega)]
  rfl
theorem shows_op {b : Nat} {S : Sc} {M : Mem} (hI : IC b S M) (hb : M.2.2 0 5 = b) (x : Int32) : ∃ v, fX4_shows x M = some v ∧ ∀ M2, RM S M2 → ∃ M3, fX5_shows x M2 = some (v, M3) ∧ Vm M2 M3 := by
  obtain ⟨hS, -, hR, hC, hSh⟩ := hI
  obtain ⟨x, hx, rfl⟩ := i32_ex x
  have h10 := hS.2.2.2.1
  have hM0 : ∀ M2, RM S M2 → fX5_shows (i32 x) M2 = (if btw x 0 ((cI S : Int) - 1) = true then ((fX5_showsOf (i32 x) M2).bind fun v => some (v.1, v.2)) else some (i32 (-1), M2)) := by
    intro M2 hM
    unfold fX5_shows
    simp only [L0, L1, L2, L3, L4, L5, L6, L7, L8, L9, L10, L11, L12, L13, L15, L16, L20, L24, L31, L32, L40, L41, L48, L50, L57, L59, L63, L80, L81, L96, L97, L99, L100, L122, L144, L199, L255, L400, L1681, L68921, L1000000, i32_add, i32_sub, i32_mul, i32_neg, Option.bind_some, Option.bind_none]
    rw [isPicture_M hS hM hx]
    simp only [L0, L1, L2, L3, L4, L5, L6, L7, L8, L9, L10, L11, L12, L13, L15, L16, L20, L24, L31, L32, L40, L41, L48, L50, L57, L59, L63, L80, L81, L96, L97, L99, L100, L122, L144, L199, L255, L400, L1681, L68921, L1000000, i32_add, i32_sub, i32_mul, i32_neg, Option.bind_some, Option.bind_none, ite_bI]
  unfold fX4_shows
  simp only [L0, L1, L2, L3, L4, L5, L6, L7, L8, L9, L10, L11, L12, L13, L15, L16, L20, L24, L31, L32, L40, L41, L48, L50, L57, L59, L63, L80, L81, L96, L97, L99, L100, L122, L144, L199, L255, L400, L1681, L68921, L1000000, i32_add, i32_sub, i32_mul, i32_neg, Option.bind_some, Option.bind_none]
  rw [hb, isPicture_C hS hR hx]
  simp only [L0, L1, L2, L3, L4, L5, L6, L7, L8, L9, L10, L11, L12, L13, L15, L16, L20, L24, L31, L32, L40, L41, L48, L50, L57, L59, L63, L80, L81, L96, L97, L99, L100, L122, L144, L199, L255, L400, L1681, L68921, L1000000, i32_add, i32_sub, i32_mul, i32_neg, Option.bind_some, Option.bind_none, ite_bI]
  cases h1 : btw x 0 ((cI S : Int) - 1) with
  | false => exact ⟨_, rfl, fun M2 hM => ⟨M2, by rw [hM0 M2 hM, h1]; rfl, Vm.rf⟩⟩
  | true =>
    obtain ⟨i, hi, rfl⟩ := nat_of h1
    refine ⟨shP S i, ?_, fun M2 hM => ?_⟩
    · rw [if_pos rfl, rI_ok (by omega), show ((i : Int)).toNat = i by omega, hSh i hi]; rfl
    · obtain ⟨M3, g1, g2, -⟩ := showsOf_M hS hM hi
      exact ⟨M3, by rw [hM0 M2 hM, h1, if_pos rfl, g1]; rfl, g2⟩
theorem view_op {b : Nat} {S : Sc} {M : Mem} (hI : IC b S M) (hb : M.2.2 0 5 = b) (x y w r t : Int32) : ∃ v M1, fX4_view x y w r t M = some (v, M1) ∧ QC b M M1 ∧ Cached b S M1 ∧ ∀ M2, RM S M2 → ∃ M3, fX5_view x y w r t M2 = some (v, M3) ∧ Vm M2 M3 := by
  obtain ⟨hS, -, hR, hC, -⟩ := hI
  obtain ⟨x, hx, rfl⟩ := i32_ex x
  obtain ⟨y, hy, rfl⟩ := i32_ex y
  obtain ⟨w, hw, rfl⟩ := i32_ex w
  obtain ⟨r, hr, rfl⟩ := i32_ex r
  obtain ⟨t, ht, rfl⟩ := i32_ex t
  have hM0 : ∀ M2, RM S M2 → fX5_view (i32 x) (i32 y) (i32 w) (i32 r) (i32 t) M2 = (if sCell S x y = true then (if btw w 0 3 = true then (if btw r 1 9 = true then (if btw t 0 199 = true then ((fX5_lookFrom (i32 x) (i32 y) (i32 w) (i32 t) M2).bind fun v5 => (fX5_shown (i32 r) v5).bind fun v6 => some (v6, v5)) else some (i32 (-1), M2)) else some (i32 (-1), M2)) else some (i32 (-1), M2)) else some (i32 (-1), M2)) := by
    intro M2 hM
    unfold fX5_view
    simp only [L0, L1, L2, L3, L4, L5, L6, L7, L8, L9, L10, L11, L12, L13, L15, L16, L20, L24, L31, L32, L40, L41, L48, L50, L57, L59, L63, L80, L81, L96, L97, L99, L100, L122, L144, L199, L255, L400, L1681, L68921, L1000000, i32_add, i32_sub, i32_mul, i32_neg, Option.bind_some, Option.bind_none]
    rw [isOn_M hS hM ⟨hx, hy⟩, in_M (by omega), in_M (by omega), in_M (by omega)]
    simp only [L0, L1, L2, L3, L4, L5, L6, L7, L8, L9, L10, L11, L12, L13, L15, L16, L20, L24, L31, L32, L40, L41, L48, L50, L57, L59, L63, L80, L81, L96, L97, L99, L100, L122, L144, L199, L255, L400, L1681, L68921, L1000000, i32_add, i32_sub, i32_mul, i32_neg, Option.bind_some, Option.bind_none, ite_bI]
  unfold fX4_view
  simp only [L0, L1, L2, L3, L4, L5, L6, L7, L8, L9, L10, L11, L12, L13, L15, L16, L20, L24, L31, L32, L40, L41, L48, L50, L57, L59, L63, L80, L81, L96, L97, L99, L100, L122, L144, L199, L255, L400, L1681, L68921, L1000000, i32_add, i32_sub, i32_mul, i32_neg, Option.bind_some, Option.bind_none]
  rw [hb, isCell_C hS hR ⟨hx, hy⟩, isBetween_C (by omega), isBetween_C (by omega), isBetween_C (by omega)]
  simp only [L0, L1, L2, L3, L4, L5, L6, L7, L8, L9, L10, L11, L12, L13, L15, L16, L20, L24, L31, L32, L40, L41, L48, L50, L57, L59, L63, L80, L81, L96, L97, L99, L100, L122, L144, L199, L255, L400, L1681, L68921, L1000000, i32_add, i32_sub, i32_mul, i32_neg, Option.bind_some, Option.bind_none, ite_bI]
  cases h1 : sCell S x y with
  | false => exact ⟨_, _, rfl, QC.rf, hC, fun M2 hM => ⟨M2, by rw [hM0 M2 hM, h1]; rfl, Vm.rf⟩⟩
  | true =>
  cases h2 : btw w 0 3 with
  | false => exact ⟨_, _, rfl, QC.rf, hC, fun M2 hM => ⟨M2, by rw [hM0 M2 hM, h1, h2]; rfl, Vm.rf⟩⟩
  | true =>
  cases h3 : btw r 1 9 with
  | false => exact ⟨_, _, rfl, QC.rf, hC, fun M2 hM => ⟨M2, by rw [hM0 M2 hM, h1, h2, h3]; rfl, Vm.rf⟩⟩
  | true =>
  cases h4 : btw t 0 199 with
  | false => exact ⟨_, _, rfl, QC.rf, hC, fun M2 hM => ⟨M2, by rw [hM0 M2 hM, h1, h2, h3, h4]; rfl, Vm.rf⟩⟩
  | true =>
    have b2 := btw_t h2
    have b3 := btw_t h3
    have b4 := btw_t h4
    have hv : vw S x y w := ⟨sCell_iff.mp h1, b2⟩
    obtain ⟨M1, g1, g2, g3, g4⟩ := shownFrom_C hS hR hC (r := r) (t := t) hv (by omega) (by omega)
    refine ⟨shS S x y w r t, M1, ?_, g3.q, g2.cached (by omega), fun M2 hM => ?_⟩
    · rw [if_pos rfl, if_pos rfl, if_pos rfl, if_pos rfl, g1]; rfl
    · obtain ⟨M3, k1, k2, k3, k4⟩ := lookFrom_M hM x y w t
      refine ⟨M3, ?_, k3⟩
      rw [hM0 M2 hM, h1, h2, h3, h4, if_pos rfl, if_pos rfl, if_pos rfl, if_pos rfl, k1]
      simp only [Option.bind_some, Option.bind_none]
      rw [shown_M hS k4 k2 hv (by omega) (by omega)]
      rfl

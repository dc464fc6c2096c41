/-! square: the class puts the items in. -/
theorem mB_r {S : Sc} {i : Nat} {k : Int} (h : may S i k = true) : (0 ≤ k ∧ k ≤ 3) ∧ (k = 2 → cP S < 8) ∧ (k = 3 → cI S < 10) ∧ (k = 0 → i = 0) := by
  unfold may at h
  rw [Bool.and_eq_true, Bool.and_eq_true, Bool.and_eq_true, Bool.not_eq_true', Bool.not_eq_true', Bool.not_eq_true'] at h
  obtain ⟨h1, h2, h3, h4⟩ := h
  refine ⟨btw_t h1, fun z => ?_, fun z => ?_, fun z => ?_⟩
  · rw [decide_eq_true z, Bool.true_and] at h2
    have := of_decide_eq_false h2; omega
  · rw [decide_eq_true z, Bool.true_and] at h3
    have := of_decide_eq_false h3; omega
  · rw [decide_eq_true z, Bool.true_and, Bool.not_eq_false'] at h4
    exact of_decide_eq_true h4
theorem ok_add {S : Sc} (hS : okS S) {k : Nat} (hk : k < 4) {w : Nat → Int} (hw : ∀ i, i < nl k → rlo k i ≤ w i ∧ w i ≤ rhi S k i) (h2 : k = 2 → cP S < 8) (h3 : k = 3 → cI S < 10) (h0 : k = 0 → S = S0) : okS (addI S k w) := by
  obtain ⟨s1, s2, s3, s4, s5, s6, s7⟩ := id hS
  obtain rfl | rfl | rfl | rfl : k = 0 ∨ k = 1 ∨ k = 2 ∨ k = 3 := by omega
  · have w0 : 3 ≤ w 0 ∧ w 0 ≤ 12 := hw 0 (by decide)
    have w1 : 3 ≤ w 1 ∧ w 1 ≤ 12 := hw 1 (by decide)
    have e := h0 rfl
    refine ⟨w0, w1, s3, s4, fun p hp => ?_, fun p hp => ?_, fun x y h => ?_⟩
    · have hp' : p < cP S := hp
      rw [e] at hp'; exact absurd hp' (Nat.not_lt_zero p)
    · have hp' : p < cI S := hp
      rw [e] at hp'; exact absurd hp' (Nat.not_lt_zero p)
    · have h' : cWl S x y = true := h
      rw [e] at h'; exact Bool.noConfusion (show false = true from h')
  · have w0 : 0 ≤ w 0 ∧ w 0 ≤ cW S - 1 := hw 0 (by decide)
    have w1 : 0 ≤ w 1 ∧ w 1 ≤ cH S - 1 := hw 1 (by decide)
    refine ⟨s1, s2, s3, s4, s5, s6, fun x y h => ?_⟩
    have h' : (decide (x = w 0 ∧ y = w 1) || cWl S x y) = true := h
    show (0 ≤ x ∧ x < cW S) ∧ (0 ≤ y ∧ y < cH S)
    rcases (Bool.or_eq_true _ _).mp h' with q | q
    · have := of_decide_eq_true q; omega
    · exact s7 x y q
  · have w0 : 0 ≤ w 0 ∧ w 0 ≤ cW S - 1 := hw 0 (by decide)
    have w1 : 0 ≤ w 1 ∧ w 1 ≤ cH S - 1 := hw 1 (by decide)
    have w2 : 0 ≤ w 2 ∧ w 2 ≤ 4 := hw 2 (by decide)
    have w3 : 0 ≤ w 3 ∧ w 3 ≤ 99 := hw 3 (by decide)
    have w4 : 0 ≤ w 4 ∧ w 4 ≤ 99 := hw 4 (by decide)
    have w5 : 0 ≤ w 5 ∧ w 5 ≤ 9 := hw 5 (by decide)
    have := h2 rfl
    refine ⟨s1, s2, (show cP S + 1 ≤ 8 by omega), s4, fun p hp => ?_, s6, s7⟩
    have hp' : p < cP S + 1 := hp
    show (0 ≤ (if p = cP S then w 0 else cPd S p 0) ∧ (if p = cP S then w 0 else cPd S p 0) < cW S) ∧ (0 ≤ (if p = cP S then w 1 else cPd S p 1) ∧ (if p = cP S then w 1 else cPd S p 1) < cH S) ∧ (0 ≤ (if p = cP S then w 2 else cPd S p 2) ∧ (if p = cP S then w 2 else cPd S p 2) ≤ 4) ∧ (0 ≤ (if p = cP S then w 3 else cPd S p 3) ∧ (if p = cP S then w 3 else cPd S p 3) ≤ 99) ∧ (0 ≤ (if p = cP S then w 4 else cPd S p 4) ∧ (if p = cP S then w 4 else cPd S p 4) ≤ 99) ∧ (0 ≤ (if p = cP S then w 5 else cPd S p 5) ∧ (if p = cP S then w 5 else cPd S p 5) ≤ 9)
    by_cases z : p = cP S
    · simp only [if_pos z]; omega
    · simp only [if_neg z]; exact s5 p (by omega)
  · have w0 : 0 ≤ w 0 ∧ w 0 ≤ cW S - 1 := hw 0 (by decide)
    have w1 : 0 ≤ w 1 ∧ w 1 ≤ cH S - 1 := hw 1 (by decide)
    have w2 : 0 ≤ w 2 ∧ w 2 ≤ 3 := hw 2 (by decide)
    have w3 : 1 ≤ w 3 ∧ w 3 ≤ 9 := hw 3 (by decide)
    have w4 : 0 ≤ w 4 ∧ w 4 ≤ 99 := hw 4 (by decide)
    have := h3 rfl
    refine ⟨s1, s2, s3, (show cI S + 1 ≤ 10 by omega), s5, fun p hp => ?_, s7⟩
    have hp' : p < cI S + 1 := hp
    show (0 ≤ (if p = cI S then w 0 else cQd S p 0) ∧ (if p = cI S then w 0 else cQd S p 0) < cW S) ∧ (0 ≤ (if p = cI S then w 1 else cQd S p 1) ∧ (if p = cI S then w 1 else cQd S p 1) < cH S) ∧ (0 ≤ (if p = cI S then w 2 else cQd S p 2) ∧ (if p = cI S then w 2 else cQd S p 2) ≤ 3) ∧ (1 ≤ (if p = cI S then w 3 else cQd S p 3) ∧ (if p = cI S then w 3 else cQd S p 3) ≤ 9) ∧ (0 ≤ (if p = cI S then w 4 else cQd S p 4) ∧ (if p = cI S then w 4 else cQd S p 4) ≤ 99)
    by_cases z : p = cI S
    · simp only [if_pos z]; omega
    · simp only [if_neg z]; exact s6 p (by omega)
theorem okS0 : okS S0 := by
  refine ⟨by decide, by decide, by decide, by decide, fun p hp => absurd hp (Nat.not_lt_zero p), fun p hp => absurd hp (Nat.not_lt_zero p), fun x y h => Bool.noConfusion (show false = true from h)⟩
/-- the scene that is being told -/
def CI (b i : Nat) (S : Sc) (M : Mem) : Prop := okS S ∧ RC b S M ∧ M.1 b 5 = i32 ((wc S : Nat) : Int) ∧ (i = 0 → S = S0 ∧ ∀ j, j < 144 → M.1 (b + 1) j = 0) ∧ M.1 b 10 = i32 (-9)
theorem CI.f3 {b i : Nat} (hb : 24 ≤ b) {S : Sc} {M M' : Mem} (h : CI b i S M) (k : F3 M M') : CI b i S M' := by
  obtain ⟨h1, h2, h3, h4, h5⟩ := h
  have r : ∀ a, b ≤ a → M'.1 a = M.1 a := fun a ha => k.2.1 a (by omega) (by omega)
  refine ⟨h1, ?_, by rw [r b (by omega)]; exact h3, fun z => ⟨(h4 z).1, fun j hj => by rw [r (b + 1) (by omega)]; exact (h4 z).2 j hj⟩, by rw [r b (by omega)]; exact h5⟩
  unfold RC at *
  rw [r b (by omega), r (b + 1) (by omega), r (b + 2) (by omega), r (b + 3) (by omega)]
  exact h2
/-- only this scene's rows changed -/
def Fb (b : Nat) (M M' : Mem) : Prop := M'.2 = M.2 ∧ (∀ a, a < b ∨ b + 3 < a → M'.1 a = M.1 a)
theorem hasRoom_C {b : Nat} {S : Sc} {M : Mem} (hS : okS S) (hR : RC b S M) {k : Int} (hk : 0 ≤ k ∧ k ≤ 3) : fX2_hasRoomFor b (i32 k) M = some (i32 (bI (!(decide (k = 2) && decide (8 ≤ cP S)) && !(decide (k = 3) && decide (10 ≤ cI S))))) := by
  have s3 := hS.2.2.1
  have s4 := hS.2.2.2.1
  unfold fX2_hasRoomFor fX2_hasRoomFor_14 fX2_hasRoomFor_28
  rw [hR.2.2.1, hR.2.2.2.1]
  obtain rfl | rfl | rfl | rfl : k = 0 ∨ k = 1 ∨ k = 2 ∨ k = 3 := by omega
  · rfl
  · rfl
  · rw [if_pos (by rfl), if_neg (show ¬ i32 2 = 3 by decide)]
    by_cases z : 8 ≤ cP S
    · rw [if_pos (show (8 : Int32) ≤ i32 (cP S) from (i32_le (a := 8) (by omega)).mpr (by omega)), decide_eq_true z]; rfl
    · rw [if_neg (show ¬ (8 : Int32) ≤ i32 (cP S) from fun q => z (by have := (i32_le (a := 8) (by omega)).mp q; omega)), decide_eq_false z]; rfl
  · rw [if_neg (show ¬ i32 3 = 2 by decide), if_pos (show i32 3 = 3 by decide)]
    by_cases z : 10 ≤ cI S
    · rw [if_pos (show (10 : Int32) ≤ i32 (cI S) from (i32_le (a := 10) (by omega)).mpr (by omega)), decide_eq_true z]; rfl
    · rw [if_neg (show ¬ (10 : Int32) ≤ i32 (cI S) from fun q => z (by have := (i32_le (a := 10) (by omega)).mp q; omega)), decide_eq_false z]; rfl
theorem wc_le (S : Sc) : wc S ≤ 144 := fb_ct_le _ 144
theorem wc_add {S : Sc} (hS : okS S) {x y : Int} (hx : sCell S x y = true) (hw : cWl S x y = false) {S' : Sc} (hS' : cWl S' = fun a b => decide (a = x ∧ b = y) || cWl S a b) : wc S' = wc S + 1 := by
  obtain ⟨h1, h2⟩ := sCell_iff.mp hx
  obtain ⟨s1, s2, -⟩ := id hS
  obtain ⟨X, rfl⟩ : ∃ X : Nat, x = X := ⟨x.toNat, by omega⟩
  obtain ⟨Y, rfl⟩ : ∃ Y : Nat, y = Y := ⟨y.toNat, by omega⟩
  have hk : 12 * Y + X < 144 := by omega
  have e := fb_ct_upd (fun k => cWl S ((k % 12 : Nat) : Int) ((k / 12 : Nat) : Int)) true hk
  have hd : (12 * Y + X) % 12 = X ∧ (12 * Y + X) / 12 = Y := by omega
  have e2 : cWl S (((12 * Y + X) % 12 : Nat) : Int) (((12 * Y + X) / 12 : Nat) : Int) = false := by rw [hd.1, hd.2]; exact hw
  rw [e2] at e
  simp only [if_true, Bool.false_eq_true, if_false, Nat.add_zero] at e
  unfold wc
  rw [← e]
  refine fb_ct_cong fun k _ => ?_
  rw [hS']
  show (decide (((k % 12 : Nat) : Int) = X ∧ ((k / 12 : Nat) : Int) = Y) || cWl S ((k % 12 : Nat) : Int) ((k / 12 : Nat) : Int)) = _
  by_cases z : k = 12 * Y + X
  · rw [if_pos z, z, hd.1, hd.2, decide_eq_true (show (X : Int) = X ∧ (Y : Int) = Y from ⟨rfl, rfl⟩), Bool.true_or]
  · rw [if_neg z, decide_eq_false (by omega), Bool.false_or]
theorem RC.at6 {b : Nat} {S : Sc} {M : Mem} (hR : RC b S M) {p j : Nat} (hp : p < cP S) (hj : j < 6) : M.1 (b + 2) (6 * p + j) = i32 (cPd S p j) := hR.2.2.2.2.2.1 p j hp hj
theorem addItem_C {b i : Nat} (hb : 24 ≤ b) {S : Sc} {M : Mem} (hC : CI b i S M) {k : Nat} (hk : k < 4) (hm : may S i (k : Int) = true) {w : Nat → Int} (hw : ∀ j, j < nl k → rlo k j ≤ w j ∧ w j ≤ rhi S k j) (h3 : ∀ j, j < nl k → M.1 3 j = i32 (w j)) : ∃ M', fX2_addItem b 3 6 (i32 (k : Int)) M = some M' ∧ Fb b M M' ∧ CI b (i + 1) (addI S k w) M' := by
  obtain ⟨hS, hR, hwc, hi0, h10⟩ := id hC
  obtain ⟨m1, m2, m3, m4⟩ := mB_r hm
  have hokA : okS (addI S k w) := ok_add hS hk hw (fun z => m2 (by omega)) (fun z => m3 (by omega)) (fun z => (hi0 (m4 (by omega))).1)
  have hroom : (!(decide ((k : Int) = 2) && decide (8 ≤ cP S)) && !(decide ((k : Int) = 3) && decide (10 ≤ cI S))) = true := by
    unfold may at hm
    rw [Bool.and_eq_true, Bool.and_eq_true, Bool.and_eq_true] at hm
    rw [Bool.and_eq_true]
    exact ⟨hm.2.1, hm.2.2.1⟩
  obtain ⟨s1, s2, s3, s4, s5, s6, s7⟩ := id hS
  obtain ⟨r1, r2, r3, r4, r5, r6, r7⟩ := id hR
  unfold fX2_addItem
  rw [hasRoom_C hS hR m1, hroom]
  simp only [Option.bind_some, Option.bind_none]
  rw [if_neg (by decide)]
  obtain rfl | rfl | rfl | rfl : k = 0 ∨ k = 1 ∨ k = 2 ∨ k = 3 := by omega
  · -- square
    have w0 : 3 ≤ w 0 ∧ w 0 ≤ 12 := hw 0 (by decide)
    have w1 : 3 ≤ w 1 ∧ w 1 ≤ 12 := hw 1 (by decide)
    obtain ⟨e0, hz⟩ := hi0 (m4 (by omega))
    rw [if_pos (by rfl), show (0 : Int32) = i32 ((0 : Nat) : Int) from rfl, rI_ok (by omega), show (((0 : Nat) : Int)).toNat = 0 from rfl, h3 0 (by decide)]
    unfold wF
    simp only [Option.bind_some, Option.bind_none]
    rw [show (1 : Int32) = i32 ((1 : Nat) : Int) from rfl, rI_ok (by omega), show (((1 : Nat) : Int)).toNat = 1 from rfl, sI_ne (by omega), h3 1 (by decide)]
    simp only [Option.bind_some, Option.bind_none]
    refine ⟨_, rfl, ⟨rfl, fun a ha => by rw [sI_ne (by omega), sI_ne (by omega)]⟩, hokA, ⟨?_, ?_, ?_, ?_, ?_, ?_, ?_⟩, ?_, fun z => absurd z (by omega), ?_⟩
    · rw [sI_nj (by decide), sI_at]; rfl
    · rw [sI_at]; rfl
    · rw [sI_nj (by decide), sI_nj (by decide)]; exact r3
    · rw [sI_nj (by decide), sI_nj (by decide)]; exact r4
    · intro x y x0 x1 y0 y1
      have x1' : x < w 0 := x1
      have y1' : y < w 1 := y1
      rw [sI_ne (by omega), sI_ne (by omega)]
      have hb : (w 0 * y + x).toNat < 144 := by
        have := Int.mul_le_mul (show w 0 ≤ 12 by omega) (show y ≤ 11 by omega) y0 (by omega)
        have h0 : 0 ≤ w 0 * y := Int.mul_nonneg (by omega) y0
        omega
      show M.1 (b + 1) (w 0 * y + x).toNat = i32 (bI (cWl S x y))
      rw [hz _ hb, e0]; rfl
    · intro p j hp
      have hp' : p < cP S := hp
      rw [e0] at hp'; exact absurd hp' (Nat.not_lt_zero p)
    · intro p j hp
      have hp' : p < cI S := hp
      rw [e0] at hp'; exact absurd hp' (Nat.not_lt_zero p)
    · rw [sI_nj (by decide), sI_nj (by decide), hwc]; rfl
    · rw [sI_nj (by decide), sI_nj (by decide)]; exact h10
  · -- wall
    have w0 : 0 ≤ w 0 ∧ w 0 ≤ cW S - 1 := hw 0 (by decide)
    have w1 : 0 ≤ w 1 ∧ w 1 ≤ cH S - 1 := hw 1 (by decide)
    have hcell : sCell S (w 0) (w 1) = true := sCell_iff.mpr (by omega)
    have hcb := cell_b hS hcell
    rw [if_neg (by decide), if_pos (by rfl), show (0 : Int32) = i32 ((0 : Nat) : Int) from rfl, rI_ok (by omega), show (((0 : Nat) : Int)).toNat = 0 from rfl, h3 0 (by decide), show (1 : Int32) = i32 ((1 : Nat) : Int) from rfl, rI_ok (by omega), show (((1 : Nat) : Int)).toNat = 1 from rfl, h3 1 (by decide)]
    simp only [Option.bind_some, Option.bind_none]
    unfold fX2_addWall
    rw [isCell_C hS hR (by omega), hcell, r1, i32_mul, i32_add, wall_C hS hR hcell]
    simp only [Option.bind_some, Option.bind_none]
    rw [if_neg (by decide)]
    have hn : i + 1 = 0 → addI S 1 w = S0 ∧ ∀ j, j < 144 → M.1 (b + 1) j = 0 := fun z => absurd z (by omega)
    cases hwl : cWl S (w 0) (w 1) with
    | true =>
      rw [if_neg (by decide)]
      have eS : cWl (addI S 1 w) = cWl S := by
        funext x y
        show (decide (x = w 0 ∧ y = w 1) || cWl S x y) = cWl S x y
        by_cases z : x = w 0 ∧ y = w 1
        · rw [decide_eq_true z, z.1, z.2, hwl]; rfl
        · rw [decide_eq_false z, Bool.false_or]
      refine ⟨M, rfl, ⟨rfl, fun _ _ => rfl⟩, hokA, ⟨r1, r2, r3, r4, ?_, r6, r7⟩, ?_, hn, h10⟩
      · rw [eS]; exact r5
      · rw [hwc]; unfold wc; rw [eS]
    | false =>
      rw [if_pos (by decide), show (1 : Int32) = i32 1 from rfl, wZ_ok (by omega)]
      unfold wF
      simp only [Option.bind_some, Option.bind_none]
      rw [sI_ne (by omega), hwc, i32_add]
      refine ⟨_, rfl, ⟨rfl, fun a ha => by rw [sI_ne (by omega), sI_ne (by omega)]⟩, hokA, ⟨?_, ?_, ?_, ?_, ?_, ?_, ?_⟩, ?_, fun z => absurd z (by omega), ?_⟩
      · rw [sI_nj (by decide), sI_ne (by omega)]; exact r1
      · rw [sI_nj (by decide), sI_ne (by omega)]; exact r2
      · rw [sI_nj (by decide), sI_ne (by omega)]; exact r3
      · rw [sI_nj (by decide), sI_ne (by omega)]; exact r4
      · intro x y x0 x1 y0 y1
        have x1' : x < cW S := x1
        have y1' : y < cH S := y1
        rw [sI_ne (by omega)]
        show (sI M (b + 1) (cW S * w 1 + w 0).toNat (i32 1)).1 (b + 1) (cW S * y + x).toNat = i32 (bI (decide (x = w 0 ∧ y = w 1) || cWl S x y))
        have hcb2 := cell_b hS (sCell_iff.mpr ⟨⟨x0, x1'⟩, ⟨y0, y1'⟩⟩)
        by_cases z : x = w 0 ∧ y = w 1
        · rw [z.1, z.2, sI_at, decide_eq_true ⟨rfl, rfl⟩]; rfl
        · rw [sI_nj (fun q => z (cell_inj (W := cW S) ⟨x0, x1'⟩ (by omega) (by omega))), decide_eq_false z, Bool.false_or]
          exact r5 x y x0 x1' y0 y1'
      · intro p j hp hj; rw [sI_ne (by omega), sI_ne (by omega)]; exact r6 p j hp hj
      · intro p j hp hj; rw [sI_ne (by omega), sI_ne (by omega)]; exact r7 p j hp hj
      · rw [sI_at, wc_add hS hcell hwl (S' := addI S 1 w) rfl]; rfl
      · rw [sI_nj (by decide), sI_ne (by omega)]; exact h10
  · -- person
    have hlt := m2 (by omega)
    rw [if_neg (by decide), if_neg (by decide), if_pos (by rfl), r3]
    unfold cpI wF
    rw [show (6 : Int32) = i32 6 from rfl, i32_mul, show (0 : Int32) = i32 0 from rfl, i32_nat (by omega) (by omega), i32_nat (by omega) (by omega), i32_nat (by omega) (by omega), if_pos ⟨by decide, fun z => absurd ((i32_lt (by omega)).mp z) (by omega), by decide, by decide, by omega⟩]
    simp only [Option.bind_some, Option.bind_none]
    rw [sW_ne (show b ≠ b + 2 by omega), r3, show (1 : Int32) = i32 1 from rfl, i32_add]
    refine ⟨_, rfl, ⟨rfl, fun a ha => by rw [sI_ne (by omega), sW_ne (by omega)]⟩, hokA, ⟨?_, ?_, ?_, ?_, ?_, ?_, ?_⟩, ?_, fun z => absurd z (by omega), ?_⟩
    · rw [sI_nj (by decide), sW_ne (by omega)]; exact r1
    · rw [sI_nj (by decide), sW_ne (by omega)]; exact r2
    · rw [sI_at]; rfl
    · rw [sI_nj (by decide), sW_ne (by omega)]; exact r4
    · intro x y x0 x1 y0 y1
      rw [sI_ne (by omega), sW_ne (by omega)]; exact r5 x y x0 x1 y0 y1
    · intro p j hp hj
      have hp' : p < cP S + 1 := hp
      rw [sI_ne (by omega), sW_k]
      show va_cpy (M.1 3) (M.1 (b + 2)) (0 : Int).toNat (6 * (cP S : Int)).toNat (6 : Int).toNat (6 * p + j) = i32 (if p = cP S then w j else cPd S p j)
      unfold va_cpy
      rw [show (0 : Int).toNat = 0 from rfl, show (6 : Int).toNat = 6 from rfl, show (6 * (cP S : Int)).toNat = 6 * cP S by omega]
      by_cases z : p = cP S
      · rw [if_pos z, if_pos (by omega), show 0 + (6 * p + j - 6 * cP S) = j by omega]; exact h3 j hj
      · rw [if_neg z, if_neg (by omega)]; exact r6 p j (by omega) hj
    · intro p j hp hj
      rw [sI_ne (by omega), sW_ne (by omega)]; exact r7 p j hp hj
    · rw [sI_nj (by decide), sW_ne (by omega), hwc]; rfl
    · rw [sI_nj (by decide), sW_ne (by omega)]; exact h10
  · -- picture
    have hlt := m3 (by omega)
    rw [if_neg (by decide), if_neg (by decide), if_neg (by decide), r4]
    unfold cpI wF
    rw [show (5 : Int32) = i32 5 from rfl, i32_mul, show (0 : Int32) = i32 0 from rfl, i32_nat (by omega) (by omega), i32_nat (by omega) (by omega), i32_nat (by omega) (by omega), if_pos ⟨by decide, fun z => absurd ((i32_lt (by omega)).mp z) (by omega), by decide, by decide, by omega⟩]
    simp only [Option.bind_some, Option.bind_none]
    rw [sW_ne (show b ≠ b + 3 by omega), r4, show (1 : Int32) = i32 1 from rfl, i32_add]
    refine ⟨_, rfl, ⟨rfl, fun a ha => by rw [sI_ne (by omega), sW_ne (by omega)]⟩, hokA, ⟨?_, ?_, ?_, ?_, ?_, ?_, ?_⟩, ?_, fun z => absurd z (by omega), ?_⟩
    · rw [sI_nj (by decide), sW_ne (by omega)]; exact r1
    · rw [sI_nj (by decide), sW_ne (by omega)]; exact r2
    · rw [sI_nj (by decide), sW_ne (by omega)]; exact r3
    · rw [sI_at]; rfl
    · intro x y x0 x1 y0 y1
      rw [sI_ne (by omega), sW_ne (by omega)]; exact r5 x y x0 x1 y0 y1
    · intro p j hp hj
      rw [sI_ne (by omega), sW_ne (by omega)]; exact r6 p j hp hj
    · intro p j hp hj
      have hp' : p < cI S + 1 := hp
      rw [sI_ne (by omega), sW_k]
      show va_cpy (M.1 3) (M.1 (b + 3)) (0 : Int).toNat (5 * (cI S : Int)).toNat (5 : Int).toNat (5 * p + j) = i32 (if p = cI S then w j else cQd S p j)
      unfold va_cpy
      rw [show (0 : Int).toNat = 0 from rfl, show (5 : Int).toNat = 5 from rfl, show (5 * (cI S : Int)).toNat = 5 * cI S by omega]
      by_cases z : p = cI S
      · rw [if_pos z, if_pos (by omega), show 0 + (5 * p + j - 5 * cI S) = j by omega]; exact h3 j hj
      · rw [if_neg z, if_neg (by omega)]; exact r7 p j (by omega) hj
    · rw [sI_nj (by decide), sW_ne (by omega), hwc]; rfl
    · rw [sI_nj (by decide), sW_ne (by omega)]; exact h10

/-! empty: the class. -/
def ca (k : Nat) : Nat := if k < 1 then 1 else if k < 4 then 2 else if k < 7 then 3 else if k < 12 then 4 else if k < 17 then 5 else if k < 24 then 6 else if k < 31 then 7 else if k < 40 then 8 else 9
def off (a : Nat) : Nat := if a ≤ 1 then 0 else if a = 2 then 1 else if a = 3 then 4 else if a = 4 then 7 else if a = 5 then 12 else if a = 6 then 17 else if a = 7 then 24 else if a = 8 then 31 else if a = 9 then 40 else 49
def cs (k : Nat) : Int := (k : Int) - (off (ca k) : Int) - ((ca k / 2 : Nat) : Int)
theorem off_s : ∀ a, a < 10 → 1 ≤ a → off (a + 1) = off a + (2 * (a / 2) + 1) ∧ ∀ j, j < 9 → j ≤ 2 * (a / 2) → ca (off a + j) = a ∧ cs (off a + j) = (j : Int) - ((a / 2 : Nat) : Int) := by decide
theorem ca_b : ∀ k, k < 64 → 1 ≤ ca k ∧ ca k ≤ 9 := by decide
theorem off_49 : ∀ a, a < 11 → off a ≤ 49 := by decide
theorem off_le : ∀ a, a < 10 → 1 ≤ a → off a ≤ 40 := by decide
def gX (x w : Int) (k : Nat) : Int := x + vx w (ca k) (cs k)
def gY (y w : Int) (k : Nat) : Int := y + vy w (ca k) (cs k)
def grd (S : Sc) (x y w : Int) (k : Nat) : Bool := sCell S (gX x w k) (gY y w k) && !cWl S (gX x w k) (gY y w k)
def emp (S : Sc) (x y w t : Int) (k : Nat) : Bool := (grd S x y w k && decide (onS S (gX x w k) (gY y w k) t = i32 0)) && decide (hides S x y w t (ca k) (cs k) = 1)
theorem ground_C {b : Nat} {S : Sc} {M : Mem} (hS : okS S) (hR : RC b S M) {x y : Int} (h1 : (-2147483648 ≤ x ∧ x ≤ 2147483647) ∧ (-2147483648 ≤ y ∧ y ≤ 2147483647)) : fX2_isGround b (i32 x) (i32 y) M = some (i32 (bI (sCell S x y && !cWl S x y))) := by
  unfold fX2_isGround
  rw [isCell_C hS hR h1]
  simp only [Option.bind_some, Option.bind_none, L0, ite_bI]
  cases hc : sCell S x y with
  | false => rfl
  | true =>
    rw [if_pos rfl, hR.1, i32_mul, i32_add, wall_C hS hR hc]
    simp only [Option.bind_some, Option.bind_none, ite_bI]
    cases cWl S x y <;> rfl
theorem emptyG_C {b : Nat} {S : Sc} {M : Mem} (hS : okS S) (hR : RC b S M) {t : Int} (hA : At b S t M) {x y : Int} (h1 : (-2147483648 ≤ x ∧ x ≤ 2147483647) ∧ (-2147483648 ≤ y ∧ y ≤ 2147483647)) : fX2_isEmptyGround b (i32 x) (i32 y) M = some (i32 (bI ((sCell S x y && !cWl S x y) && decide (onS S x y t = i32 0)))) := by
  unfold fX2_isEmptyGround
  rw [ground_C hS hR h1]
  simp only [Option.bind_some, Option.bind_none, L0, ite_bI]
  cases hc : (sCell S x y && !cWl S x y) with
  | false => rfl
  | true =>
    have hcell : sCell S x y = true := ((Bool.and_eq_true _ _).mp hc).1
    have hb := cell_b hS hcell
    rw [if_pos rfl, hR.1, i32_mul, i32_add, rI_ok (by omega), hA.2.2 x y hcell]
    simp only [Option.bind_some, Option.bind_none]
    by_cases z : onS S x y t = i32 0
    · rw [if_pos z, decide_eq_true z]; rfl
    · rw [if_neg z, decide_eq_false z]; rfl
def gc (S : Sc) (x y w t : Int) (f : Bool) (k : Nat) : Bool := if f = true then emp S x y w t k else grd S x y w k
theorem gIn_L {b : Nat} {S : Sc} {M : Mem} (hS : okS S) (hR : RC b S M) {t x y w : Int} (hA : At b S t M) (hv : vw S x y w) {k42 : Int32 → Int32 → Int32 → Int32 → Int32 → Int64 → Int32 → Int32 → Mem → Option (Int64 × Mem)} {i : Int32} {f : Bool} {a : Nat} (ha : 1 ≤ a ∧ a ≤ 9) : ∀ (d n j : Nat), j + d = 2 * (a / 2) + 1 → d < n → fX2_groundOf_60L k42 b n i (i32 (bI f)) (i32 x) (i32 y) (i32 w) (accL (gc S x y w t f) (off a + j)) (i32 ((off a + j : Nat) : Int)) (i32 a) (i32 ((j : Int) - ((a / 2 : Nat) : Int))) M = k42 i (i32 (bI f)) (i32 x) (i32 y) (i32 w) (accL (gc S x y w t f) (off (a + 1))) (i32 ((off (a + 1) : Nat) : Int)) (i32 ((a + 1 : Nat) : Int)) M := by
  obtain ⟨o1, o2⟩ := off_s a (by omega) ha.1
  have o40 := off_le a (by omega) ha.1
  have hdiv : i32 (a : Int) / 2 = i32 ((a / 2 : Nat) : Int) := by
    rw [show (2 : Int32) = i32 2 from rfl, i32_div (by omega), Int.tdiv_eq_ediv_of_nonneg (by omega)]; rfl
  obtain ⟨v1, v2⟩ := hv.1
  have hw := hv.2
  obtain ⟨s1, s2, -⟩ := id hS
  intro d
  induction d with
  | zero =>
    intro n j h1 h2
    obtain ⟨n, rfl⟩ : ∃ m, n = m + 1 := ⟨n - 1, by omega⟩
    show fX2_groundOf_60B k42 (fX2_groundOf_60L k42 b n) b _ _ _ _ _ _ _ _ _ _ = _
    unfold fX2_groundOf_60B
    rw [hdiv, if_pos ((i32_lt (by omega)).mpr (by omega)), show off a + j = off (a + 1) by omega, show (1 : Int32) = i32 1 from rfl, i32_add]
    rfl
  | succ d ih =>
    intro n j h1 h2
    obtain ⟨n, rfl⟩ : ∃ m, n = m + 1 := ⟨n - 1, by omega⟩
    obtain ⟨p1, p2⟩ := o2 j (by omega) (by omega)
    have hgX : x + vx w (a : Int) ((j : Int) - ((a / 2 : Nat) : Int)) = gX x w (off a + j) := by unfold gX; rw [p1, p2]
    have hgY : y + vy w (a : Int) ((j : Int) - ((a / 2 : Nat) : Int)) = gY y w (off a + j) := by unfold gY; rw [p1, p2]
    have bx := vx_b w (a := (a : Int)) (s := (j : Int) - ((a / 2 : Nat) : Int)) (by omega)
    have by' := vy_b w (a := (a : Int)) (s := (j : Int) - ((a / 2 : Nat) : Int)) (by omega)
    have e163 : ∀ z : Int64, fX2_groundOf_163 k42 (fX2_groundOf_60L k42 b n) b i (i32 (bI f)) (i32 x) (i32 y) (i32 w) z (i32 ((off a + j : Nat) : Int)) (i32 a) (i32 ((j : Int) - ((a / 2 : Nat) : Int))) M = fX2_groundOf_60L k42 b n i (i32 (bI f)) (i32 x) (i32 y) (i32 w) z (i32 ((off a + (j + 1) : Nat) : Int)) (i32 a) (i32 (((j + 1 : Nat) : Int) - ((a / 2 : Nat) : Int))) M := fun z => by
      unfold fX2_groundOf_163
      rw [show (1 : Int32) = i32 1 from rfl, i32_add, i32_add, show ((off a + j : Nat) : Int) + 1 = ((off a + (j + 1) : Nat) : Int) by omega, show (j : Int) - ((a / 2 : Nat) : Int) + 1 = ((j + 1 : Nat) : Int) - ((a / 2 : Nat) : Int) by omega]
    have e154 : ∀ z : Int64, fX2_groundOf_154 k42 (fX2_groundOf_60L k42 b n) b i (i32 (bI f)) (i32 x) (i32 y) (i32 w) z (i32 ((off a + j : Nat) : Int)) (i32 a) (i32 ((j : Int) - ((a / 2 : Nat) : Int))) M = fX2_groundOf_60L k42 b n i (i32 (bI f)) (i32 x) (i32 y) (i32 w) (z ||| bitL (off a + j)) (i32 ((off a + (j + 1) : Nat) : Int)) (i32 a) (i32 (((j + 1 : Nat) : Int) - ((a / 2 : Nat) : Int))) M := fun z => e163 _
    have e129 : ∀ c : Bool, fX2_groundOf_129 k42 (fX2_groundOf_60L k42 b n) b i (i32 (bI f)) (i32 x) (i32 y) (i32 w) (accL (gc S x y w t f) (off a + j)) (i32 ((off a + j : Nat) : Int)) (i32 a) (i32 ((j : Int) - ((a / 2 : Nat) : Int))) (i32 (gX x w (off a + j))) (i32 (gY y w (off a + j))) (i32 (bI c)) M = (if (if f = true then c else grd S x y w (off a + j)) = true then fX2_groundOf_60L k42 b n i (i32 (bI f)) (i32 x) (i32 y) (i32 w) (accL (gc S x y w t f) (off a + j) ||| bitL (off a + j)) (i32 ((off a + (j + 1) : Nat) : Int)) (i32 a) (i32 (((j + 1 : Nat) : Int) - ((a / 2 : Nat) : Int))) M else fX2_groundOf_60L k42 b n i (i32 (bI f)) (i32 x) (i32 y) (i32 w) (accL (gc S x y w t f) (off a + j)) (i32 ((off a + (j + 1) : Nat) : Int)) (i32 a) (i32 (((j + 1 : Nat) : Int) - ((a / 2 : Nat) : Int))) M) := fun c => by
      unfold fX2_groundOf_129
      rw [ground_C hS hR (by rw [← hgX, ← hgY]; omega), e163, e154]
      simp only [Option.bind_some, Option.bind_none, L0, ite_bI]
      cases f
      · rfl
      · rfl
    have hs : accL (gc S x y w t f) (off a + (j + 1)) = accL (gc S x y w t f) (off a + j) ||| (if gc S x y w t f (off a + j) = true then bitL (off a + j) else 0) := rfl
    have or0 : accL (gc S x y w t f) (off a + j) ||| 0 = accL (gc S x y w t f) (off a + j) := bl_ext fun i hi => by rw [bl_or, bl_0, Bool.or_false]
    have iht := ih n (j + 1) (by omega) (by omega)
    have hEM : emp S x y w t (off a + j) = ((grd S x y w (off a + j) && decide (onS S (gX x w (off a + j)) (gY y w (off a + j)) t = i32 0)) && decide (hides S x y w t (a : Int) ((j : Int) - ((a / 2 : Nat) : Int)) = 1)) := by
      unfold emp; rw [p1, p2]
    show fX2_groundOf_60B k42 (fX2_groundOf_60L k42 b n) b _ _ _ _ _ _ _ _ _ _ = _
    unfold fX2_groundOf_60B fX2_groundOf_128
    rw [hdiv, if_neg (fun z => absurd ((i32_lt (by omega)).mp z) (by omega)), goneX_C hw, goneY_C hw]
    simp only [Option.bind_some, Option.bind_none]
    rw [i32_add, i32_add, hgX, hgY, emptyG_C hS hR hA (by rw [← hgX, ← hgY]; omega), stCell_C hS hR hA hv (by omega) (by omega)]
    simp only [Option.bind_some, Option.bind_none]
    rw [show (0 : Int32) = i32 (bI false) from rfl, show (1 : Int32) = i32 (bI true) from rfl, e129, e129, show i32 (bI false) = i32 0 from rfl, ite_bI]
    rw [hs] at iht
    have hfin : ∀ c : Bool, c = emp S x y w t (off a + j) → (if (if f = true then c else grd S x y w (off a + j)) = true then fX2_groundOf_60L k42 b n i (i32 (bI f)) (i32 x) (i32 y) (i32 w) (accL (gc S x y w t f) (off a + j) ||| bitL (off a + j)) (i32 ((off a + (j + 1) : Nat) : Int)) (i32 a) (i32 (((j + 1 : Nat) : Int) - ((a / 2 : Nat) : Int))) M else fX2_groundOf_60L k42 b n i (i32 (bI f)) (i32 x) (i32 y) (i32 w) (accL (gc S x y w t f) (off a + j)) (i32 ((off a + (j + 1) : Nat) : Int)) (i32 a) (i32 (((j + 1 : Nat) : Int) - ((a / 2 : Nat) : Int))) M) = k42 i (i32 (bI f)) (i32 x) (i32 y) (i32 w) (accL (gc S x y w t f) (off (a + 1))) (i32 ((off (a + 1) : Nat) : Int)) (i32 ((a + 1 : Nat) : Int)) M := fun c hc => by
      rw [← iht, hc]
      show (if gc S x y w t f (off a + j) = true then _ else _) = _
      cases gc S x y w t f (off a + j)
      · rw [if_neg (by decide), if_neg (by decide), or0]
      · rw [if_pos rfl, if_pos rfl]
    have hEM2 : emp S x y w t (off a + j) = (((sCell S (gX x w (off a + j)) (gY y w (off a + j)) && !cWl S (gX x w (off a + j)) (gY y w (off a + j))) && decide (onS S (gX x w (off a + j)) (gY y w (off a + j)) t = i32 0)) && decide (hides S x y w t (a : Int) ((j : Int) - ((a / 2 : Nat) : Int)) = 1)) := hEM
    cases he : ((sCell S (gX x w (off a + j)) (gY y w (off a + j)) && !cWl S (gX x w (off a + j)) (gY y w (off a + j))) && decide (onS S (gX x w (off a + j)) (gY y w (off a + j)) t = i32 0)) with
    | false =>
      rw [if_neg (by decide)]
      exact hfin false (by rw [hEM2, he, Bool.false_and])
    | true =>
      rw [if_pos rfl]
      have h3 := hides_3 S x y w t (a : Int) ((j : Int) - ((a / 2 : Nat) : Int)) ((a : Int) - 1).toNat 1
      have h3' : 1 ≤ hides S x y w t (a : Int) ((j : Int) - ((a / 2 : Nat) : Int)) ∧ hides S x y w t (a : Int) ((j : Int) - ((a / 2 : Nat) : Int)) ≤ 3 := h3
      by_cases z : hides S x y w t (a : Int) ((j : Int) - ((a / 2 : Nat) : Int)) = 1
      · rw [if_pos (show i32 (hides S x y w t (a : Int) ((j : Int) - ((a / 2 : Nat) : Int))) = i32 (bI true) by rw [z]; rfl)]
        exact hfin true (by rw [hEM2, he, decide_eq_true z, Bool.true_and])
      · rw [if_neg (show ¬ i32 (hides S x y w t (a : Int) ((j : Int) - ((a / 2 : Nat) : Int))) = i32 (bI true) from fun q => z ((i32_inj (b := 1) (by omega)).mp q))]
        exact hfin false (by rw [hEM2, he, decide_eq_false z, Bool.true_and])
theorem gOut_L {b : Nat} {S : Sc} {M : Mem} (hS : okS S) (hR : RC b S M) {t : Int} (hA : At b S t M) {i : Nat} (hi : i < cI S) {x y w : Int} (hv : vw S x y w) {f : Bool} {r : Nat} (hr : cQd S i 3 = r) : ∀ (d n a : Nat), a + d = r + 1 → d < n → 1 ≤ a → fX2_groundOf_42L b n (i32 i) (i32 (bI f)) (i32 x) (i32 y) (i32 w) (accL (gc S x y w t f) (off a)) (i32 ((off a : Nat) : Int)) (i32 a) M = some (accL (gc S x y w t f) (off (r + 1)), M) := by
  have hq := (hS.2.2.2.2.2.1 i hi).2.2.2.1
  have E3 : fX2_ofPicture b (i32 i) 3 M = some (i32 (r : Int)) := by
    have := ofPicture_C hS hR hi (show 3 < 5 by decide)
    rw [hr] at this
    exact this
  intro d
  induction d with
  | zero =>
    intro n a h1 h2 h3
    obtain ⟨n, rfl⟩ : ∃ m, n = m + 1 := ⟨n - 1, by omega⟩
    obtain rfl : a = r + 1 := by omega
    show fX2_groundOf_42B (fX2_groundOf_42L b n) b _ _ _ _ _ _ _ _ _ = _
    unfold fX2_groundOf_42B
    rw [E3]
    simp only [Option.bind_some, Option.bind_none]
    rw [if_pos ((i32_lt (by omega)).mpr (by omega))]
  | succ d ih =>
    intro n a h1 h2 h3
    obtain ⟨n, rfl⟩ : ∃ m, n = m + 1 := ⟨n - 1, by omega⟩
    have hdiv : i32 (a : Int) / 2 = i32 ((a / 2 : Nat) : Int) := by
      rw [show (2 : Int32) = i32 2 from rfl, i32_div (by omega), Int.tdiv_eq_ediv_of_nonneg (by omega)]; rfl
    show fX2_groundOf_42B (fX2_groundOf_42L b n) b _ _ _ _ _ _ _ _ _ = _
    unfold fX2_groundOf_42B
    rw [E3]
    simp only [Option.bind_some, Option.bind_none]
    rw [if_neg (fun z => absurd ((i32_lt (by omega)).mp z) (by omega)), hdiv, i32_neg]
    have := gIn_L hS hR hA hv (k42 := fX2_groundOf_42L b n) (i := i32 i) (f := f) (a := a) (by omega) (2 * (a / 2) + 1) FU 0 (by omega) (by unfold FU; omega)
    rw [Nat.add_zero, show ((0 : Nat) : Int) - ((a / 2 : Nat) : Int) = -((a / 2 : Nat) : Int) by omega] at this
    rw [this]
    exact ih n (a + 1) (by omega) (by omega) (by omega)
def rr (S : Sc) (i : Nat) : Nat := (cQd S i 3).toNat
def gcP (S : Sc) (i : Nat) (f : Bool) : Nat → Bool := gc S (cQd S i 0) (cQd S i 1) (cQd S i 2) (cQd S i 4) f
theorem groundOf_C {b : Nat} {S : Sc} {M : Mem} (hS : okS S) (hR : RC b S M) (hC : Cached b S M) {i : Nat} (hi : i < cI S) (f : Bool) : ∃ M', fX2_groundOf b (i32 i) (i32 (bI f)) M = some (accL (gcP S i f) (off (rr S i + 1)), M') ∧ Cached b S M' ∧ Sm b M M' ∧ RC b S M' := by
  obtain ⟨q0, q1, q2, q3, q4⟩ := hS.2.2.2.2.2.1 i hi
  have E0 := ofPicture_C hS hR hi (show 0 < 5 by decide)
  have E1 := ofPicture_C hS hR hi (show 1 < 5 by decide)
  have E2 := ofPicture_C hS hR hi (show 2 < 5 by decide)
  have E4 := ofPicture_C hS hR hi (show 4 < 5 by decide)
  obtain ⟨M', g1, g2, g3, g4⟩ := standAt_C hS hR hC (t := cQd S i 4) (by omega)
  refine ⟨M', ?_, At.cached (by omega) g2, g3, g4⟩
  unfold fX2_groundOf
  rw [show (0 : Int32) = i32 ((0 : Nat) : Int) from rfl, show (1 : Int32) = i32 ((1 : Nat) : Int) from rfl, show (2 : Int32) = i32 ((2 : Nat) : Int) from rfl, show (4 : Int32) = i32 ((4 : Nat) : Int) from rfl, E0, E1, E2, E4]
  simp only [Option.bind_some, Option.bind_none]
  rw [g1]
  simp only [Option.bind_some, Option.bind_none]
  exact gOut_L hS g4 g2 hi (vw_q hS hi) (f := f) (r := rr S i) (by unfold rr; omega) (rr S i) FU 1 (by omega) (by unfold FU rr; omega) (by decide)
def al (S : Sc) (i j : Nat) : Bool := decide (cQd S i 0 = cQd S j 0 ∧ cQd S i 1 = cQd S j 1 ∧ cQd S i 2 = cQd S j 2 ∧ cQd S i 3 = cQd S j 3)
theorem al_iff (S : Sc) (i j : Nat) : al S i j = true ↔ ∀ k, k < 4 → cQd S i k = cQd S j k := by
  unfold al
  rw [decide_eq_true_iff]
  constructor
  · rintro ⟨h0, h1, h2, h3⟩ k hk
    rcases j4 hk with rfl | rfl | rfl | rfl
    · exact h0
    · exact h1
    · exact h2
    · exact h3
  · intro h
    exact ⟨h 0 (by decide), h 1 (by decide), h 2 (by decide), h 3 (by decide)⟩
theorem oneView_L {b : Nat} {S : Sc} {M : Mem} (hS : okS S) (hR : RC b S M) {i j : Nat} (hi : i < cI S) (hj : j < cI S) : ∀ (d n k : Nat), k + d = 4 → d < n → (∀ k', k' < k → cQd S i k' = cQd S j k') → fX2_haveOneView_2L b M n (i32 i) (i32 j) (i32 k) = some (i32 (bI (al S i j))) := by
  obtain ⟨p0, p1, p2, p3, -⟩ := hS.2.2.2.2.2.1 i hi
  obtain ⟨r0, r1, r2, r3, -⟩ := hS.2.2.2.2.2.1 j hj
  obtain ⟨s1, s2, -⟩ := id hS
  intro d
  induction d with
  | zero =>
    intro n k h1 h2 h3
    obtain ⟨n, rfl⟩ : ∃ m, n = m + 1 := ⟨n - 1, by omega⟩
    obtain rfl : k = 4 := by omega
    show fX2_haveOneView_2B (fX2_haveOneView_2L b M n) b _ _ _ _ = _
    unfold fX2_haveOneView_2B
    rw [if_pos (by decide), show al S i j = true from (al_iff S i j).mpr h3]; rfl
  | succ d ih =>
    intro n k h1 h2 h3
    obtain ⟨n, rfl⟩ : ∃ m, n = m + 1 := ⟨n - 1, by omega⟩
    have hb : ∀ c, c < 4 → (-2147483648 ≤ cQd S i c ∧ cQd S i c ≤ 2147483647) ∧ (-2147483648 ≤ cQd S j c ∧ cQd S j c ≤ 2147483647) := fun c hc => by
      rcases j4 hc with rfl | rfl | rfl | rfl <;> omega
    have hbk := hb k (by omega)
    show fX2_haveOneView_2B (fX2_haveOneView_2L b M n) b _ _ _ _ = _
    unfold fX2_haveOneView_2B
    rw [show (3 : Int32) = i32 3 from rfl, if_neg (fun z => absurd ((i32_lt (by omega)).mp z) (by omega)), ofPicture_C hS hR hi (show k < 5 by omega), ofPicture_C hS hR hj (show k < 5 by omega)]
    simp only [Option.bind_some, Option.bind_none]
    by_cases z : cQd S i k = cQd S j k
    · rw [if_pos (by rw [z]), show (1 : Int32) = i32 1 from rfl, i32_add, show (k : Int) + 1 = ((k + 1 : Nat) : Int) by omega]
      refine ih n (k + 1) (by omega) (by omega) (fun k' hk' => ?_)
      by_cases w : k' = k
      · rw [w]; exact z
      · exact h3 k' (by omega)
    · rw [if_neg (fun q => z ((i32_inj (by omega)).mp q)), show al S i j = false from Bool.eq_false_iff.mpr (fun q => z ((al_iff S i j).mp q k (by omega)))]; rfl
theorem oneView_C {b : Nat} {S : Sc} {M : Mem} (hS : okS S) (hR : RC b S M) {i j : Nat} (hi : i < cI S) (hj : j < cI S) : fX2_haveOneView b (i32 i) (i32 j) M = some (i32 (bI (al S i j))) := oneView_L hS hR hi hj 4 FU 0 (by omega) (by unfold FU; omega) (fun k hk => absurd hk (by omega))
def Ej (S : Sc) (j : Nat) : Int64 := accL (gcP S j true) (off (rr S j + 1))
theorem Sm.qc8 {b : Nat} {M : Mem} {j : Nat} {x : Int64} : QC b M (sJ M (b + 8) j x) := ⟨rfl, fun a h => sJ_ne h, fun _ _ _ _ _ _ _ _ _ => rfl, fun _ _ => rfl⟩
theorem findE_L {b : Nat} {S : Sc} (hS : okS S) (hb : isSc b) {i : Nat} (hi : i < cI S) : ∀ (d n j : Nat) (M : Mem), j + d = cI S → d < n → RC b S M → Cached b S M → (∀ k, k < j → al S i k = true → M.2.1 (b + 8) k = Ej S k) → ∃ M', fX2_findEmpties_4L b n (i32 i) (acc (al S i) j) (i32 j) M = some (acc (al S i) (cI S), M') ∧ Cached b S M' ∧ QC b M M' ∧ RC b S M' ∧ ∀ k, k < cI S → al S i k = true → M'.2.1 (b + 8) k = Ej S k := by
  have h10 := hS.2.2.2.1
  intro d
  induction d with
  | zero =>
    intro n j M h1 h2 hR hC h3
    obtain ⟨n, rfl⟩ : ∃ m, n = m + 1 := ⟨n - 1, by omega⟩
    obtain rfl : j = cI S := by omega
    refine ⟨M, ?_, hC, QC.rf, hR, h3⟩
    show fX2_findEmpties_4B (fX2_findEmpties_4L b n) b _ _ _ _ = _
    unfold fX2_findEmpties_4B
    rw [hR.2.2.2.1, if_pos ((i32_le (by omega)).mpr (by omega))]
  | succ d ih =>
    intro n j M h1 h2 hR hC h3
    obtain ⟨n, rfl⟩ : ∃ m, n = m + 1 := ⟨n - 1, by omega⟩
    have hj : j < cI S := by omega
    have e39 : ∀ z Mx, fX2_findEmpties_39 (fX2_findEmpties_4L b n) b (i32 i) z (i32 j) Mx = fX2_findEmpties_4L b n (i32 i) z (i32 ((j + 1 : Nat) : Int)) Mx := fun z Mx => by
      unfold fX2_findEmpties_39
      rw [show (1 : Int32) = i32 1 from rfl, i32_add]; rfl
    cases ha : al S i j with
    | false =>
      obtain ⟨M', g1, g2, g3, g4, g5⟩ := ih n (j + 1) M (by omega) (by omega) hR hC (fun k hk hal => by
        by_cases z : k = j
        · rw [z, ha] at hal; exact absurd hal (by decide)
        · exact h3 k (by omega) hal)
      refine ⟨M', ?_, g2, g3, g4, g5⟩
      rw [acc_s, ha, if_neg (by decide), or_0] at g1
      show fX2_findEmpties_4B (fX2_findEmpties_4L b n) b _ _ _ _ = _
      unfold fX2_findEmpties_4B
      rw [hR.2.2.2.1, if_neg (fun z => absurd ((i32_le (by omega)).mp z) (by omega)), oneView_C hS hR hi hj, ha]
      simp only [Option.bind_some, Option.bind_none]
      rw [if_pos (by decide), e39]
      exact g1
    | true =>
      obtain ⟨M1, k1, k2, k3, k4⟩ := groundOf_C hS hR hC hj true
      have hq : QC b M (sJ M1 (b + 8) j (Ej S j)) := k3.q.tr Sm.qc8
      obtain ⟨M', g1, g2, g3, g4, g5⟩ := ih n (j + 1) (sJ M1 (b + 8) j (Ej S j)) (by omega) (by omega) k4 k2 (fun k hk hal => by
        by_cases z : k = j
        · rw [z, sJ_at]
        · have := h3 k (by omega) hal
          rw [← k3.2.1] at this
          rw [sJ_k]
          show (if k = j then _ else M1.2.1 (b + 8) k) = _
          rw [if_neg z]; exact this)
      refine ⟨M', ?_, g2, hq.tr g3, g4, g5⟩
      rw [acc_s, ha, if_pos rfl] at g1
      show fX2_findEmpties_4B (fX2_findEmpties_4L b n) b _ _ _ _ = _
      unfold fX2_findEmpties_4B wJ
      rw [hR.2.2.2.1, if_neg (fun z => absurd ((i32_le (by omega)).mp z) (by omega)), oneView_C hS hR hi hj, ha]
      simp only [Option.bind_some, Option.bind_none]
      have k1' : fX2_groundOf b (i32 j) 1 M = some (Ej S j, M1) := k1
      rw [if_neg (by decide), k1']
      simp only [Option.bind_some, Option.bind_none]
      rw [i32_inb (by omega) (by omega), if_pos (decide_eq_true (by omega)), i32_nat (by omega) (by omega), show ((j : Int)).toNat = j by omega]
      simp only [Option.bind_some, Option.bind_none]
      rw [e39]
      exact g1

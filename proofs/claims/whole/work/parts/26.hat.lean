/-! The hat: with, without, near. -/
def wiF (S : Sc) (N : Nt) : Nat → Int
  | 0 => -9
  | i + 1 => if nH N i = 1 then (if wiF S N i < cQd S i 4 then cQd S i 4 else wiF S N i) else wiF S N i
def woF (S : Sc) (N : Nt) (w : Int) : Nat → Int
  | 0 => -9
  | i + 1 => if nH N i = 0 then (if cQd S i 4 ≤ w then woF S N w i else if woF S N w i = -9 then cQd S i 4 else if woF S N w i ≤ cQd S i 4 then woF S N w i else cQd S i 4) else woF S N w i
theorem wiF_s (S : Sc) (N : Nt) (i : Nat) : wiF S N (i + 1) = if nH N i = 1 then (if wiF S N i < cQd S i 4 then cQd S i 4 else wiF S N i) else wiF S N i := rfl
theorem woF_s (S : Sc) (N : Nt) (w : Int) (i : Nat) : woF S N w (i + 1) = if nH N i = 0 then (if cQd S i 4 ≤ w then woF S N w i else if woF S N w i = -9 then cQd S i 4 else if woF S N w i ≤ cQd S i 4 then woF S N w i else cQd S i 4) else woF S N w i := rfl
theorem wi_b {S : Sc} (hS : okS S) (N : Nt) (w : Int) : ∀ i, i ≤ cI S → (-9 ≤ wiF S N i ∧ wiF S N i ≤ 99 ∧ (wiF S N i = -9 ∨ 0 ≤ wiF S N i)) ∧ (-9 ≤ woF S N w i ∧ woF S N w i ≤ 99 ∧ (woF S N w i = -9 ∨ 0 ≤ woF S N w i))
  | 0, _ => by rw [show wiF S N 0 = -9 from rfl, show woF S N w 0 = -9 from rfl]; omega
  | i + 1, h => by
    have ih := wi_b hS N w i (by omega)
    obtain ⟨-, -, -, -, q4⟩ := hS.2.2.2.2.2.1 i (by omega)
    rw [wiF_s, woF_s]
    constructor
    · split
      · split <;> omega
      · omega
    · split
      · split
        · omega
        · split
          · omega
          · split <;> omega
      · omega
theorem with_L {b : Nat} {S : Sc} {N : Nt} {M : Mem} (hS : okS S) (hN : okN N) (hR : RC b S M) (hb : M.2.2 0 5 = b) (hr : RNc 4 N M) : ∀ (d n i : Nat), i + d = cI S → d < n → fX4_lastWithHat_5L M n (i32 (wiF S N i)) (i32 i) = some (i32 (wiF S N (cI S))) := by
  have h10 := hS.2.2.2.1
  intro d
  induction d with
  | zero =>
    intro n i hd hn
    obtain ⟨n, rfl⟩ : ∃ m, n = m + 1 := ⟨n - 1, by omega⟩
    show fX4_lastWithHat_5B _ _ (i32 i) M = _
    unfold fX4_lastWithHat_5B
    rw [hb, hR.2.2.2.1, if_pos ((i32_le (by omega)).mpr (by omega)), show i = cI S by omega]
  | succ d ih =>
    intro n i hd hn
    obtain ⟨n, rfl⟩ : ∃ m, n = m + 1 := ⟨n - 1, by omega⟩
    have hi : i < cI S := by omega
    have E4 := ofPicture_C hS hR hi (show 4 < 5 by decide)
    rw [show ((4 : Nat) : Int) = 4 from rfl] at E4
    obtain ⟨-, -, -, -, q4⟩ := hS.2.2.2.2.2.1 i hi
    have fb := (wi_b hS N 0 i (by omega)).1
    have hh := hN.2.2.2.2 i (by omega)
    have ihp := ih n (i + 1) (by omega) (by omega)
    rw [← ihp, wiF_s]
    show fX4_lastWithHat_5B (fX4_lastWithHat_5L M n) _ (i32 i) M = _
    unfold fX4_lastWithHat_5B
    rw [hb, hR.2.2.2.1, if_neg (fun q => absurd ((i32_le (by omega)).mp q) (by omega)), show (4 : Int32) = i32 4 from rfl, E4, rI_ok (by omega), show ((i : Int)).toNat = i by omega, hr.2.2.2.2 i (by omega)]
    unfold fX4_lastWithHat_43
    simp only [L0, L1, L2, L3, L4, L5, L6, L7, L8, L9, L10, L11, L12, L13, L15, L16, L20, L24, L31, L32, L40, L41, L48, L50, L57, L59, L63, L80, L81, L96, L97, L99, L100, L122, L144, L199, L255, L400, L1681, L68921, L1000000, i32_add, i32_sub, i32_mul, i32_neg, Option.bind_some, Option.bind_none]
    rw [imax_ok (by omega), show (i : Int) + 1 = ((i + 1 : Nat) : Int) by omega]
    by_cases c : nH N i = 1
    · rw [if_pos c, if_pos (by rw [c])]
    · rw [if_neg c, if_neg (fun q => c ((i32_inj (by omega)).mp q))]
theorem with_C {b : Nat} {S : Sc} {N : Nt} {M : Mem} (hS : okS S) (hN : okN N) (hR : RC b S M) (hb : M.2.2 0 5 = b) (hr : RNc 4 N M) : fX4_lastWithHat M = some (i32 (wiF S N (cI S))) :=
  with_L hS hN hR hb hr (cI S) FU 0 (by omega) (by have := hS.2.2.2.1; unfold FU; omega)
theorem without_L {b : Nat} {S : Sc} {N : Nt} {M : Mem} (hS : okS S) (hN : okN N) (hR : RC b S M) (hb : M.2.2 0 5 = b) (hr : RNc 4 N M) {w : Int} (hw : -9 ≤ w ∧ w ≤ 99) : ∀ (d n i : Nat), i + d = cI S → d < n → fX4_firstWithoutHat_10L M n (i32 w) (i32 (woF S N w i)) (i32 i) = some (i32 (woF S N w (cI S))) := by
  have h10 := hS.2.2.2.1
  intro d
  induction d with
  | zero =>
    intro n i hd hn
    obtain ⟨n, rfl⟩ : ∃ m, n = m + 1 := ⟨n - 1, by omega⟩
    show fX4_firstWithoutHat_10B _ _ _ (i32 i) M = _
    unfold fX4_firstWithoutHat_10B
    rw [hb, hR.2.2.2.1, if_pos ((i32_le (by omega)).mpr (by omega)), show i = cI S by omega]
  | succ d ih =>
    intro n i hd hn
    obtain ⟨n, rfl⟩ : ∃ m, n = m + 1 := ⟨n - 1, by omega⟩
    have hi : i < cI S := by omega
    have E4 := ofPicture_C hS hR hi (show 4 < 5 by decide)
    rw [show ((4 : Nat) : Int) = 4 from rfl] at E4
    obtain ⟨-, -, -, -, q4⟩ := hS.2.2.2.2.2.1 i hi
    have fb := (wi_b hS N w i (by omega)).2
    have hh := hN.2.2.2.2 i (by omega)
    have ihp := ih n (i + 1) (by omega) (by omega)
    rw [← ihp, woF_s]
    show fX4_firstWithoutHat_10B (fX4_firstWithoutHat_10L M n) _ _ (i32 i) M = _
    unfold fX4_firstWithoutHat_10B
    rw [hb, hR.2.2.2.1, if_neg (fun q => absurd ((i32_le (by omega)).mp q) (by omega)), show (4 : Int32) = i32 4 from rfl, E4, rI_ok (by omega), show ((i : Int)).toNat = i by omega, hr.2.2.2.2 i (by omega)]
    unfold fX4_firstWithoutHat_62 fX4_firstWithoutHat_65
    simp only [L0, L1, L2, L3, L4, L5, L6, L7, L8, L9, L10, L11, L12, L13, L15, L16, L20, L24, L31, L32, L40, L41, L48, L50, L57, L59, L63, L80, L81, L96, L97, L99, L100, L122, L144, L199, L255, L400, L1681, L68921, L1000000, i32_add, i32_sub, i32_mul, i32_neg, Option.bind_some, Option.bind_none]
    rw [show (i : Int) + 1 = ((i + 1 : Nat) : Int) by omega]
    by_cases c : nH N i = 0
    · rw [if_pos c, if_pos (by rw [c])]
      by_cases c2 : cQd S i 4 ≤ w
      · rw [if_pos c2, if_pos ((i32_le (by omega)).mpr c2)]
      · rw [if_neg c2, if_neg (fun q => c2 ((i32_le (by omega)).mp q))]
        by_cases c3 : woF S N w i = -9
        · rw [if_pos c3, if_pos (by rw [c3])]
        · rw [if_neg c3, if_neg (fun q => c3 ((i32_inj (by omega)).mp q))]
          by_cases c4 : woF S N w i ≤ cQd S i 4
          · rw [if_pos c4, if_pos ((i32_le (by omega)).mpr c4)]
          · rw [if_neg c4, if_neg (fun q => c4 ((i32_le (by omega)).mp q))]
    · rw [if_neg c, if_neg (fun q => c ((i32_inj (by omega)).mp q))]
theorem without_C {b : Nat} {S : Sc} {N : Nt} {M : Mem} (hS : okS S) (hN : okN N) (hR : RC b S M) (hb : M.2.2 0 5 = b) (hr : RNc 4 N M) : fX4_firstWithoutHat M = some (i32 (woF S N (wiF S N (cI S)) (cI S))) := by
  unfold fX4_firstWithoutHat
  rw [with_C hS hN hR hb hr]
  simp only [Option.bind_some, Option.bind_none]
  have := (wi_b hS N 0 (cI S) (Nat.le_refl _)).1
  rw [show (-9 : Int32) = i32 (woF S N (wiF S N (cI S)) 0) from rfl, show (0 : Int32) = i32 ((0 : Nat) : Int) from rfl]
  exact without_L hS hN hR hb hr (by omega) (cI S) FU 0 (by omega) (by have := hS.2.2.2.1; unfold FU; omega)
theorem withM_L {S : Sc} {N : Nt} {M : Mem} (hS : okS S) (hN : okN N) (hR : RM S M) (hr : RNm 0 N M) : ∀ (d n i : Nat), i + d = cI S → d < n → fX5_withNow_5L M n (i32 (wiF S N i)) (i32 i) = some (i32 (wiF S N (cI S))) := by
  have h10 := hS.2.2.2.1
  intro d
  induction d with
  | zero =>
    intro n i hd hn
    obtain ⟨n, rfl⟩ : ∃ m, n = m + 1 := ⟨n - 1, by omega⟩
    show fX5_withNow_5B _ _ (i32 i) M = _
    unfold fX5_withNow_5B
    simp only [L0, L1, L2, L3, L4, L5, L6, L7, L8, L9, L10, L11, L12, L13, L15, L16, L20, L24, L31, L32, L40, L41, L48, L50, L57, L59, L63, L80, L81, L96, L97, L99, L100, L122, L144, L199, L255, L400, L1681, L68921, L1000000, i32_add, i32_sub, i32_mul, i32_neg, Option.bind_some, Option.bind_none]
    rw [rI_ok (by omega), show ((0 : Int)).toNat = 0 from rfl, hR.2.2.2.1]
    simp only [L0, L1, L2, L3, L4, L5, L6, L7, L8, L9, L10, L11, L12, L13, L15, L16, L20, L24, L31, L32, L40, L41, L48, L50, L57, L59, L63, L80, L81, L96, L97, L99, L100, L122, L144, L199, L255, L400, L1681, L68921, L1000000, i32_add, i32_sub, i32_mul, i32_neg, Option.bind_some, Option.bind_none]
    rw [if_pos ((i32_le (by omega)).mpr (by omega)), show i = cI S by omega]
  | succ d ih =>
    intro n i hd hn
    obtain ⟨n, rfl⟩ : ∃ m, n = m + 1 := ⟨n - 1, by omega⟩
    have hi : i < cI S := by omega
    have E4 := qd_M hS hR hi 4 (by decide)
    rw [show ((4 : Nat) : Int) = 4 from rfl] at E4
    obtain ⟨-, -, -, -, q4⟩ := hS.2.2.2.2.2.1 i hi
    have fb := (wi_b hS N 0 i (by omega)).1
    have hh := hN.2.2.2.2 i (by omega)
    have hrow : M.1 61 i = i32 (nH N i) := by have := hr.2.2.2.2 i (by omega); rw [Nat.mul_zero, Nat.zero_add] at this; exact this
    have ihp := ih n (i + 1) (by omega) (by omega)
    rw [← ihp, wiF_s]
    show fX5_withNow_5B (fX5_withNow_5L M n) _ (i32 i) M = _
    unfold fX5_withNow_5B
    simp only [L0, L1, L2, L3, L4, L5, L6, L7, L8, L9, L10, L11, L12, L13, L15, L16, L20, L24, L31, L32, L40, L41, L48, L50, L57, L59, L63, L80, L81, L96, L97, L99, L100, L122, L144, L199, L255, L400, L1681, L68921, L1000000, i32_add, i32_sub, i32_mul, i32_neg, Option.bind_some, Option.bind_none]
    rw [rI_ok (by omega), show ((0 : Int)).toNat = 0 from rfl, hR.2.2.2.1]
    simp only [L0, L1, L2, L3, L4, L5, L6, L7, L8, L9, L10, L11, L12, L13, L15, L16, L20, L24, L31, L32, L40, L41, L48, L50, L57, L59, L63, L80, L81, L96, L97, L99, L100, L122, L144, L199, L255, L400, L1681, L68921, L1000000, i32_add, i32_sub, i32_mul, i32_neg, Option.bind_some, Option.bind_none]
    rw [if_neg (fun q => absurd ((i32_le (by omega)).mp q) (by omega)), rI_ok (by omega), show ((i : Int)).toNat = i by omega, hrow, E4]
    unfold fX5_withNow_52 fX5_withNow_53
    simp only [L0, L1, L2, L3, L4, L5, L6, L7, L8, L9, L10, L11, L12, L13, L15, L16, L20, L24, L31, L32, L40, L41, L48, L50, L57, L59, L63, L80, L81, L96, L97, L99, L100, L122, L144, L199, L255, L400, L1681, L68921, L1000000, i32_add, i32_sub, i32_mul, i32_neg, Option.bind_some, Option.bind_none]
    rw [show (i : Int) + 1 = ((i + 1 : Nat) : Int) by omega]
    by_cases c : nH N i = 1
    · rw [if_pos c, if_pos (by rw [c])]
      by_cases c2 : wiF S N i < cQd S i 4
      · rw [if_pos c2, if_neg (fun q => absurd ((i32_le (by omega)).mp q) (by omega))]
      · rw [if_neg c2, if_pos ((i32_le (by omega)).mpr (by omega))]
    · rw [if_neg c, if_neg (fun q => c ((i32_inj (by omega)).mp q))]
theorem with_M {S : Sc} {N : Nt} {M : Mem} (hS : okS S) (hN : okN N) (hR : RM S M) (hr : RNm 0 N M) : fX5_withNow M = some (i32 (wiF S N (cI S))) :=
  withM_L hS hN hR hr (cI S) FU 0 (by omega) (by have := hS.2.2.2.1; unfold FU; omega)
theorem withoutM_L {S : Sc} {N : Nt} {M : Mem} (hS : okS S) (hN : okN N) (hR : RM S M) (hr : RNm 0 N M) {w : Int} (hw : -9 ≤ w ∧ w ≤ 99) : ∀ (d n i : Nat), i + d = cI S → d < n → fX5_withoutNow_10L M n (i32 w) (i32 (woF S N w i)) (i32 i) = some (i32 (woF S N w (cI S))) := by
  have h10 := hS.2.2.2.1
  intro d
  induction d with
  | zero =>
    intro n i hd hn
    obtain ⟨n, rfl⟩ : ∃ m, n = m + 1 := ⟨n - 1, by omega⟩
    show fX5_withoutNow_10B _ _ _ (i32 i) M = _
    unfold fX5_withoutNow_10B
    simp only [L0, L1, L2, L3, L4, L5, L6, L7, L8, L9, L10, L11, L12, L13, L15, L16, L20, L24, L31, L32, L40, L41, L48, L50, L57, L59, L63, L80, L81, L96, L97, L99, L100, L122, L144, L199, L255, L400, L1681, L68921, L1000000, i32_add, i32_sub, i32_mul, i32_neg, Option.bind_some, Option.bind_none]
    rw [rI_ok (by omega), show ((0 : Int)).toNat = 0 from rfl, hR.2.2.2.1]
    simp only [L0, L1, L2, L3, L4, L5, L6, L7, L8, L9, L10, L11, L12, L13, L15, L16, L20, L24, L31, L32, L40, L41, L48, L50, L57, L59, L63, L80, L81, L96, L97, L99, L100, L122, L144, L199, L255, L400, L1681, L68921, L1000000, i32_add, i32_sub, i32_mul, i32_neg, Option.bind_some, Option.bind_none]
    rw [if_pos ((i32_le (by omega)).mpr (by omega)), show i = cI S by omega]
  | succ d ih =>
    intro n i hd hn
    obtain ⟨n, rfl⟩ : ∃ m, n = m + 1 := ⟨n - 1, by omega⟩
    have hi : i < cI S := by omega
    have E4 := qd_M hS hR hi 4 (by decide)
    rw [show ((4 : Nat) : Int) = 4 from rfl] at E4
    obtain ⟨-, -, -, -, q4⟩ := hS.2.2.2.2.2.1 i hi
    have fb := (wi_b hS N w i (by omega)).2
    have hh := hN.2.2.2.2 i (by omega)
    have hrow : M.1 61 i = i32 (nH N i) := by have := hr.2.2.2.2 i (by omega); rw [Nat.mul_zero, Nat.zero_add] at this; exact this
    have ihp := ih n (i + 1) (by omega) (by omega)
    rw [← ihp, woF_s]
    show fX5_withoutNow_10B (fX5_withoutNow_10L M n) _ _ (i32 i) M = _
    unfold fX5_withoutNow_10B
    simp only [L0, L1, L2, L3, L4, L5, L6, L7, L8, L9, L10, L11, L12, L13, L15, L16, L20, L24, L31, L32, L40, L41, L48, L50, L57, L59, L63, L80, L81, L96, L97, L99, L100, L122, L144, L199, L255, L400, L1681, L68921, L1000000, i32_add, i32_sub, i32_mul, i32_neg, Option.bind_some, Option.bind_none]
    rw [rI_ok (by omega), show ((0 : Int)).toNat = 0 from rfl, hR.2.2.2.1]
    simp only [L0, L1, L2, L3, L4, L5, L6, L7, L8, L9, L10, L11, L12, L13, L15, L16, L20, L24, L31, L32, L40, L41, L48, L50, L57, L59, L63, L80, L81, L96, L97, L99, L100, L122, L144, L199, L255, L400, L1681, L68921, L1000000, i32_add, i32_sub, i32_mul, i32_neg, Option.bind_some, Option.bind_none]
    rw [if_neg (fun q => absurd ((i32_le (by omega)).mp q) (by omega)), E4, rI_ok (by omega), show ((i : Int)).toNat = i by omega, hrow]
    unfold fX5_withoutNow_59 fX5_withoutNow_64 fX5_withoutNow_65
    simp only [L0, L1, L2, L3, L4, L5, L6, L7, L8, L9, L10, L11, L12, L13, L15, L16, L20, L24, L31, L32, L40, L41, L48, L50, L57, L59, L63, L80, L81, L96, L97, L99, L100, L122, L144, L199, L255, L400, L1681, L68921, L1000000, i32_add, i32_sub, i32_mul, i32_neg, Option.bind_some, Option.bind_none]
    rw [show (i : Int) + 1 = ((i + 1 : Nat) : Int) by omega]
    by_cases c : nH N i = 0
    · rw [if_pos c, if_pos (by rw [c])]
      by_cases c2 : cQd S i 4 ≤ w
      · rw [if_pos c2, if_pos ((i32_le (by omega)).mpr c2)]
      · rw [if_neg c2, if_neg (fun q => c2 ((i32_le (by omega)).mp q))]
        by_cases c3 : woF S N w i = -9
        · rw [if_pos c3, if_pos (by rw [c3])]
        · rw [if_neg c3, if_neg (fun q => c3 ((i32_inj (by omega)).mp q))]
          by_cases c4 : woF S N w i ≤ cQd S i 4
          · rw [if_pos c4, if_pos ((i32_le (by omega)).mpr c4)]
          · rw [if_neg c4, if_neg (fun q => c4 ((i32_le (by omega)).mp q))]
    · rw [if_neg c, if_neg (fun q => c ((i32_inj (by omega)).mp q))]
theorem without_M {S : Sc} {N : Nt} {M : Mem} (hS : okS S) (hN : okN N) (hR : RM S M) (hr : RNm 0 N M) : fX5_withoutNow M = some (i32 (woF S N (wiF S N (cI S)) (cI S))) := by
  have wb := (wi_b hS N 0 (cI S) (Nat.le_refl _)).1
  have h10 := hS.2.2.2.1
  have hFU : cI S < FU := by unfold FU; omega
  have h2 := withoutM_L hS hN hR hr (w := wiF S N (cI S)) (by omega) (cI S) FU 0 (by omega) hFU
  have h1 := with_M hS hN hR hr
  have e1 : i32 (woF S N (wiF S N (cI S)) 0) = -9 := rfl
  have e2 : i32 ((0 : Nat) : Int) = 0 := rfl
  rw [e1, e2] at h2
  unfold fX5_withoutNow
  rw [h1, Option.bind_some]
  exact h2
/-! near -/
def nrB (S : Sc) (x y r t : Int) (p : Nat) : Bool := there S p t && decide ((px S p t - x ≤ r ∧ x - px S p t ≤ r) ∧ (py S p t - y ≤ r ∧ y - py S p t ≤ r))
def nrS (S : Sc) (x y r t : Int) : Int32 := acc (nrB S x y r t) (cP S)
def mx0 (z : Int) : Int := if 0 < z then z else 0
theorem nearI_L {b : Nat} {S : Sc} (hS : okS S) {x y r t : Int} (hx : 0 ≤ x ∧ x < 12) (hr : 0 ≤ r ∧ r ≤ 11) (ht : 0 ≤ t ∧ t ≤ 1000) {row : Int} (hrow : 0 ≤ row ∧ row < cH S) (k12 : Int32 → Int32 → Int32 → Int32 → Int32 → Int32 → Mem → Option (Int32 × Mem)) : ∀ (d n : Nat) (c : Int) (z : Int32) (M : Mem), RC b S M → Cached b S M → 0 ≤ c → c + d = mn (cW S - 1) (x + r) + 1 → d < n → ∃ M', fX2_peopleNear_38L k12 b n (i32 x) (i32 y) (i32 r) (i32 t) z (i32 row) (i32 c) M = k12 (i32 x) (i32 y) (i32 r) (i32 t) (z ||| orL (fun c => onS S c row t) d c) (i32 (row + 1)) M' ∧ Cached b S M' ∧ Sm b M M' ∧ RC b S M' := by
  have w1 := hS.1
  have w2 := hS.2.1
  have hm : mn (cW S - 1) (x + r) ≤ cW S - 1 ∧ mn (cW S - 1) (x + r) ≤ x + r := by unfold mn; split <;> omega
  intro d
  induction d with
  | zero =>
    intro n c z M hR hC hc hd hn
    obtain ⟨n, rfl⟩ : ∃ m, n = m + 1 := ⟨n - 1, by omega⟩
    refine ⟨M, ?_, hC, Sm.rf, hR⟩
    show fX2_peopleNear_38B k12 _ b _ _ _ _ z _ (i32 c) M = _
    unfold fX2_peopleNear_38B
    rw [hR.1]
    simp only [L0, L1, L2, L3, L4, L5, L6, L7, L8, L9, L10, L11, L12, L13, L15, L16, L20, L24, L31, L32, L40, L41, L48, L50, L57, L59, L63, L80, L81, L96, L97, L99, L100, L122, L144, L199, L255, L400, L1681, L68921, L1000000, i32_add, i32_sub, i32_mul, i32_neg, Option.bind_some, Option.bind_none]
    rw [imin_ok (by omega), if_pos ((i32_lt (by omega)).mpr (by omega)), orL, or_0]
  | succ d ih =>
    intro n c z M hR hC hc hd hn
    obtain ⟨n, rfl⟩ : ∃ m, n = m + 1 := ⟨n - 1, by omega⟩
    obtain ⟨M1, g1, g2, g3, g4⟩ := peopleOn_C hS hR hC (t := t) (x := c) (y := row) ht (sCell_iff.mpr (by omega))
    obtain ⟨M', k1, k2, k3, k4⟩ := ih n (c + 1) (z ||| onS S c row t) M1 g4 (g2.cached ht) (by omega) (by omega) (by omega)
    refine ⟨M', ?_, k2, g3.tr k3, k4⟩
    show fX2_peopleNear_38B k12 (fX2_peopleNear_38L k12 b n) b _ _ _ _ z _ (i32 c) M = _
    unfold fX2_peopleNear_38B
    rw [hR.1]
    simp only [L0, L1, L2, L3, L4, L5, L6, L7, L8, L9, L10, L11, L12, L13, L15, L16, L20, L24, L31, L32, L40, L41, L48, L50, L57, L59, L63, L80, L81, L96, L97, L99, L100, L122, L144, L199, L255, L400, L1681, L68921, L1000000, i32_add, i32_sub, i32_mul, i32_neg, Option.bind_some, Option.bind_none]
    rw [imin_ok (by omega), if_neg (fun q => absurd ((i32_lt (by omega)).mp q) (by omega)), g1]
    simp only [L0, L1, L2, L3, L4, L5, L6, L7, L8, L9, L10, L11, L12, L13, L15, L16, L20, L24, L31, L32, L40, L41, L48, L50, L57, L59, L63, L80, L81, L96, L97, L99, L100, L122, L144, L199, L255, L400, L1681, L68921, L1000000, i32_add, i32_sub, i32_mul, i32_neg, Option.bind_some, Option.bind_none]
    rw [k1, or_asc]
    rfl
theorem nearO_L {b : Nat} {S : Sc} (hS : okS S) {x y r t : Int} (hx : 0 ≤ x ∧ x < 12) (hy : 0 ≤ y ∧ y < 12) (hr : 0 ≤ r ∧ r ≤ 11) (ht : 0 ≤ t ∧ t ≤ 1000) : ∀ (d n : Nat) (row : Int) (z : Int32) (M : Mem), RC b S M → Cached b S M → 0 ≤ row → row + d = mn (cH S - 1) (y + r) + 1 → d < n → ∃ M', fX2_peopleNear_12L b n (i32 x) (i32 y) (i32 r) (i32 t) z (i32 row) M = some (z ||| orL (fun row => orL (fun c => onS S c row t) (mn (cW S - 1) (x + r) + 1 - mx0 (x - r)).toNat (mx0 (x - r))) d row, M') ∧ Cached b S M' ∧ Sm b M M' ∧ RC b S M' := by
  have w1 := hS.1
  have w2 := hS.2.1
  have hm : mn (cW S - 1) (x + r) ≤ cW S - 1 ∧ mn (cW S - 1) (x + r) ≤ x + r ∧ (mn (cW S - 1) (x + r) = cW S - 1 ∨ mn (cW S - 1) (x + r) = x + r) := by unfold mn; split <;> omega
  have hm2 : mn (cH S - 1) (y + r) ≤ cH S - 1 ∧ mn (cH S - 1) (y + r) ≤ y + r := by unfold mn; split <;> omega
  have hm0 : (mx0 (x - r) = 0 ∨ mx0 (x - r) = x - r) ∧ 0 ≤ mx0 (x - r) := by unfold mx0; split <;> omega
  have hi0 : imax 0 (i32 x - i32 r) = i32 (mx0 (x - r)) := by
    rw [show (0 : Int32) = i32 0 from rfl, i32_sub, imax_ok (by omega)]; rfl
  intro d
  induction d with
  | zero =>
    intro n row z M hR hC hc hd hn
    obtain ⟨n, rfl⟩ : ∃ m, n = m + 1 := ⟨n - 1, by omega⟩
    refine ⟨M, ?_, hC, Sm.rf, hR⟩
    show fX2_peopleNear_12B _ b _ _ _ _ z (i32 row) M = _
    unfold fX2_peopleNear_12B
    rw [hR.2.1]
    simp only [L0, L1, L2, L3, L4, L5, L6, L7, L8, L9, L10, L11, L12, L13, L15, L16, L20, L24, L31, L32, L40, L41, L48, L50, L57, L59, L63, L80, L81, L96, L97, L99, L100, L122, L144, L199, L255, L400, L1681, L68921, L1000000, i32_add, i32_sub, i32_mul, i32_neg, Option.bind_some, Option.bind_none]
    rw [imin_ok (by omega), if_pos ((i32_lt (by omega)).mpr (by omega)), orL, or_0]
  | succ d ih =>
    intro n row z M hR hC hc hd hn
    obtain ⟨n, rfl⟩ : ∃ m, n = m + 1 := ⟨n - 1, by omega⟩
    have hB : fX2_peopleNear_12L b (n + 1) (i32 x) (i32 y) (i32 r) (i32 t) z (i32 row) M = fX2_peopleNear_38L (fX2_peopleNear_12L b n) b FU (i32 x) (i32 y) (i32 r) (i32 t) z (i32 row) (i32 (mx0 (x - r))) M := by
      show fX2_peopleNear_12B (fX2_peopleNear_12L b n) b _ _ _ _ z (i32 row) M = _
      unfold fX2_peopleNear_12B
      rw [hR.2.1, hi0]
      simp only [L0, L1, L2, L3, L4, L5, L6, L7, L8, L9, L10, L11, L12, L13, L15, L16, L20, L24, L31, L32, L40, L41, L48, L50, L57, L59, L63, L80, L81, L96, L97, L99, L100, L122, L144, L199, L255, L400, L1681, L68921, L1000000, i32_add, i32_sub, i32_mul, i32_neg, Option.bind_some, Option.bind_none]
      rw [imin_ok (by omega), if_neg (fun q => absurd ((i32_lt (by omega)).mp q) (by omega))]
    -- the row may be empty: its first place lies behind its last
    obtain ⟨M1, g1, g2, g3, g4⟩ : ∃ M', fX2_peopleNear_38L (fX2_peopleNear_12L b n) b FU (i32 x) (i32 y) (i32 r) (i32 t) z (i32 row) (i32 (mx0 (x - r))) M = fX2_peopleNear_12L b n (i32 x) (i32 y) (i32 r) (i32 t) (z ||| orL (fun c => onS S c row t) (mn (cW S - 1) (x + r) + 1 - mx0 (x - r)).toNat (mx0 (x - r))) (i32 (row + 1)) M' ∧ Cached b S M' ∧ Sm b M M' ∧ RC b S M' := by
      by_cases he : mx0 (x - r) ≤ mn (cW S - 1) (x + r) + 1
      · exact nearI_L hS hx hr ht (by omega) _ (mn (cW S - 1) (x + r) + 1 - mx0 (x - r)).toNat FU (mx0 (x - r)) z M hR hC (by omega) (by omega) (by unfold FU; omega)
      · refine ⟨M, ?_, hC, Sm.rf, hR⟩
        show fX2_peopleNear_38B _ _ b _ _ _ _ z _ (i32 (mx0 (x - r))) M = _
        unfold fX2_peopleNear_38B
        rw [hR.1]
        simp only [L0, L1, L2, L3, L4, L5, L6, L7, L8, L9, L10, L11, L12, L13, L15, L16, L20, L24, L31, L32, L40, L41, L48, L50, L57, L59, L63, L80, L81, L96, L97, L99, L100, L122, L144, L199, L255, L400, L1681, L68921, L1000000, i32_add, i32_sub, i32_mul, i32_neg, Option.bind_some, Option.bind_none]
        rw [imin_ok (by omega), if_pos ((i32_lt (by omega)).mpr (by omega)), show (mn (cW S - 1) (x + r) + 1 - mx0 (x - r)).toNat = 0 by omega, orL, or_0]
    obtain ⟨M', k1, k2, k3, k4⟩ := ih n (row + 1) _ M1 g4 g2 (by omega) (by omega) (by omega)
    refine ⟨M', ?_, k2, g3.tr k3, k4⟩
    rw [hB, g1, k1, or_asc]
    rfl
theorem near_bits {S : Sc} (hS : okS S) {x y r t : Int} : orL (fun row => orL (fun c => onS S c row t) (mn (cW S - 1) (x + r) + 1 - mx0 (x - r)).toNat (mx0 (x - r))) (mn (cH S - 1) (y + r) + 1 - mx0 (y - r)).toNat (mx0 (y - r)) = nrS S x y r t := by
  have h8 := hS.2.2.1
  have hm : mn (cW S - 1) (x + r) ≤ cW S - 1 ∧ mn (cW S - 1) (x + r) ≤ x + r ∧ (mn (cW S - 1) (x + r) = cW S - 1 ∨ mn (cW S - 1) (x + r) = x + r) := by unfold mn; split <;> omega
  have hm2 : mn (cH S - 1) (y + r) ≤ cH S - 1 ∧ mn (cH S - 1) (y + r) ≤ y + r ∧ (mn (cH S - 1) (y + r) = cH S - 1 ∨ mn (cH S - 1) (y + r) = y + r) := by unfold mn; split <;> omega
  have hm0 : (mx0 (x - r) = 0 ∨ mx0 (x - r) = x - r) ∧ 0 ≤ mx0 (x - r) ∧ x - r ≤ mx0 (x - r) := by unfold mx0; split <;> omega
  have hm1 : (mx0 (y - r) = 0 ∨ mx0 (y - r) = y - r) ∧ 0 ≤ mx0 (y - r) ∧ y - r ≤ mx0 (y - r) := by unfold mx0; split <;> omega
  apply b_ext
  intro i hi
  apply Bool.eq_iff_iff.mpr
  unfold nrS
  rw [bt_orL, bt_acc (by omega) hi, Bool.and_eq_true, decide_eq_true_iff]
  constructor
  · rintro ⟨row, a1, a2, h⟩
    rw [bt_orL] at h
    obtain ⟨c, b1, b2, h⟩ := h
    rw [bt_onS hS hi, Bool.and_eq_true, decide_eq_true_iff] at h
    obtain ⟨hp, ho⟩ := h
    unfold onB at ho
    rw [Bool.and_eq_true, decide_eq_true_iff] at ho
    obtain ⟨o1, o2, o3⟩ := ho
    refine ⟨hp, ?_⟩
    unfold nrB
    rw [o1, Bool.true_and, decide_eq_true_iff]
    omega
  · rintro ⟨hp, h⟩
    unfold nrB at h
    rw [Bool.and_eq_true, decide_eq_true_iff] at h
    obtain ⟨o1, o2⟩ := h
    have hc := sCell_iff.mp (there_cell o1)
    refine ⟨py S i t, by omega, by omega, ?_⟩
    rw [bt_orL]
    refine ⟨px S i t, by omega, by omega, ?_⟩
    rw [bt_onS hS hi, Bool.and_eq_true, decide_eq_true_iff]
    refine ⟨hp, ?_⟩
    unfold onB
    rw [o1]
    simp
theorem near1_C {b : Nat} {S : Sc} {M : Mem} (hS : okS S) (hR : RC b S M) (hC : Cached b S M) {x y r t : Int} (hc : sCell S x y = true) (hr : 0 ≤ r ∧ r ≤ 11) (ht : 0 ≤ t ∧ t ≤ 1000) : ∃ M', fX2_peopleNear b (i32 x) (i32 y) (i32 r) (i32 t) M = some (nrS S x y r t, M') ∧ Cached b S M' ∧ Sm b M M' ∧ RC b S M' := by
  have w1 := hS.1
  have w2 := hS.2.1
  obtain ⟨cx, cy⟩ := sCell_iff.mp hc
  have hm1 : (mx0 (y - r) = 0 ∨ mx0 (y - r) = y - r) ∧ 0 ≤ mx0 (y - r) := by unfold mx0; split <;> omega
  have hm2 : mn (cH S - 1) (y + r) ≤ cH S - 1 ∧ mn (cH S - 1) (y + r) ≤ y + r ∧ (mn (cH S - 1) (y + r) = cH S - 1 ∨ mn (cH S - 1) (y + r) = y + r) := by unfold mn; split <;> omega
  obtain ⟨M', g1, g2, g3, g4⟩ := nearO_L hS (x := x) (y := y) (by omega) (by omega) hr ht (mn (cH S - 1) (y + r) + 1 - mx0 (y - r)).toNat FU (mx0 (y - r)) 0 M hR hC (by omega) (by omega) (by unfold FU; omega)
  refine ⟨M', ?_, g2, g3, g4⟩
  unfold fX2_peopleNear
  rw [show imax 0 (i32 y - i32 r) = i32 (mx0 (y - r)) by rw [show (0 : Int32) = i32 0 from rfl, i32_sub, imax_ok (by omega)]; rfl, g1, or_z, near_bits hS]
theorem nearT_L {b : Nat} {S : Sc} (hS : okS S) {x y r e : Int} (hc : sCell S x y = true) (hr : 0 ≤ r ∧ r ≤ 11) (he : e ≤ 99) : ∀ (d n : Nat) (t : Int) (z : Int32) (M : Mem), RC b S M → Cached b S M → M.2.2 0 5 = b → 0 ≤ t → t + d = e + 1 → d < n → ∃ M', fX4_near_60L n (i32 x) (i32 y) (i32 r) (i32 e) z (i32 t) M = some (z ||| orL (nrS S x y r) d t, M') ∧ Cached b S M' ∧ Sm b M M' := by
  intro d
  induction d with
  | zero =>
    intro n t z M hR hC hb ht hd hn
    obtain ⟨n, rfl⟩ : ∃ m, n = m + 1 := ⟨n - 1, by omega⟩
    refine ⟨M, ?_, hC, Sm.rf⟩
    show fX4_near_60B _ _ _ _ _ z (i32 t) M = _
    unfold fX4_near_60B
    rw [if_pos ((i32_lt (by omega)).mpr (by omega)), orL, or_0]
  | succ d ih =>
    intro n t z M hR hC hb ht hd hn
    obtain ⟨n, rfl⟩ : ∃ m, n = m + 1 := ⟨n - 1, by omega⟩
    obtain ⟨M1, g1, g2, g3, g4⟩ := near1_C hS hR hC hc hr (t := t) (by omega)
    obtain ⟨M', k1, k2, k3⟩ := ih n (t + 1) (z ||| nrS S x y r t) M1 g4 g2 (by rw [g3.1]; exact hb) (by omega) (by omega) (by omega)
    refine ⟨M', ?_, k2, g3.tr k3⟩
    show fX4_near_60B (fX4_near_60L n) _ _ _ _ z (i32 t) M = _
    unfold fX4_near_60B
    rw [if_neg (fun q => absurd ((i32_lt (by omega)).mp q) (by omega)), hb, g1]
    simp only [L0, L1, L2, L3, L4, L5, L6, L7, L8, L9, L10, L11, L12, L13, L15, L16, L20, L24, L31, L32, L40, L41, L48, L50, L57, L59, L63, L80, L81, L96, L97, L99, L100, L122, L144, L199, L255, L400, L1681, L68921, L1000000, i32_add, i32_sub, i32_mul, i32_neg, Option.bind_some, Option.bind_none]
    rw [k1, or_asc]
    rfl
theorem size_M {z : Int} (h : -2147483647 ≤ z ∧ z ≤ 2147483647) : fX5_size (i32 z) = some (i32 (aI z)) := by
  unfold fX5_size aI
  simp only [L0, L1, L2, L3, L4, L5, L6, L7, L8, L9, L10, L11, L12, L13, L15, L16, L20, L24, L31, L32, L40, L41, L48, L50, L57, L59, L63, L80, L81, L96, L97, L99, L100, L122, L144, L199, L255, L400, L1681, L68921, L1000000, i32_add, i32_sub, i32_mul, i32_neg, Option.bind_some, Option.bind_none]
  by_cases q : 0 ≤ z
  · rw [if_pos q]
    first | rw [if_pos ((i32_le (by omega)).mpr q)] | rw [if_neg (fun w => absurd ((i32_lt (by omega)).mp w) (by omega))]
  · rw [if_neg q]
    first | rw [if_neg (fun w => q ((i32_le (by omega)).mp w)), show 0 - z = -z by omega] | rw [if_pos ((i32_lt (by omega)).mpr (by omega)), show 0 - z = -z by omega]
theorem nearP_L {S : Sc} {M : Mem} (hS : okS S) (hR : RM S M) {x y r e t : Int} (hc : sCell S x y = true) (hr : 0 ≤ r ∧ r ≤ 11) (ht : 0 ≤ t ∧ t ≤ 1000) (z : Int32) (k57 : Int32 → Int32 → Int32 → Int32 → Int32 → Int32 → Option Int32) : ∀ (d n p : Nat), p + d = cP S → d < n → fX5_near_67L k57 M n (i32 x) (i32 y) (i32 r) (i32 e) (z ||| acc (nrB S x y r t) p) (i32 t) (i32 p) = k57 (i32 x) (i32 y) (i32 r) (i32 e) (z ||| nrS S x y r t) (i32 (t + 1)) := by
  have h8 := hS.2.2.1
  have w1 := hS.1
  have w2 := hS.2.1
  obtain ⟨cx, cy⟩ := sCell_iff.mp hc
  intro d
  induction d with
  | zero =>
    intro n p hp hn
    obtain ⟨n, rfl⟩ : ∃ m, n = m + 1 := ⟨n - 1, by omega⟩
    show fX5_near_67B k57 _ _ _ _ _ _ (i32 t) (i32 p) M = _
    unfold fX5_near_67B
    simp only [L0, L1, L2, L3, L4, L5, L6, L7, L8, L9, L10, L11, L12, L13, L15, L16, L20, L24, L31, L32, L40, L41, L48, L50, L57, L59, L63, L80, L81, L96, L97, L99, L100, L122, L144, L199, L255, L400, L1681, L68921, L1000000, i32_add, i32_sub, i32_mul, i32_neg, Option.bind_some, Option.bind_none]
    rw [rI_ok (by omega), show ((0 : Int)).toNat = 0 from rfl, hR.2.2.1]
    simp only [L0, L1, L2, L3, L4, L5, L6, L7, L8, L9, L10, L11, L12, L13, L15, L16, L20, L24, L31, L32, L40, L41, L48, L50, L57, L59, L63, L80, L81, L96, L97, L99, L100, L122, L144, L199, L255, L400, L1681, L68921, L1000000, i32_add, i32_sub, i32_mul, i32_neg, Option.bind_some, Option.bind_none]
    rw [if_pos ((i32_le (by omega)).mpr (by omega)), show p = cP S by omega]
    rfl
  | succ d ih =>
    intro n p hp hn
    obtain ⟨n, rfl⟩ : ∃ m, n = m + 1 := ⟨n - 1, by omega⟩
    have ihp := ih n (p + 1) (by omega) (by omega)
    rw [← ihp, acc_s, ← or_asc]
    show fX5_near_67B k57 (fX5_near_67L k57 M n) _ _ _ _ _ (i32 t) (i32 p) M = _
    unfold fX5_near_67B
    simp only [L0, L1, L2, L3, L4, L5, L6, L7, L8, L9, L10, L11, L12, L13, L15, L16, L20, L24, L31, L32, L40, L41, L48, L50, L57, L59, L63, L80, L81, L96, L97, L99, L100, L122, L144, L199, L255, L400, L1681, L68921, L1000000, i32_add, i32_sub, i32_mul, i32_neg, Option.bind_some, Option.bind_none]
    rw [rI_ok (by omega), show ((0 : Int)).toNat = 0 from rfl, hR.2.2.1]
    simp only [L0, L1, L2, L3, L4, L5, L6, L7, L8, L9, L10, L11, L12, L13, L15, L16, L20, L24, L31, L32, L40, L41, L48, L50, L57, L59, L63, L80, L81, L96, L97, L99, L100, L122, L144, L199, L255, L400, L1681, L68921, L1000000, i32_add, i32_sub, i32_mul, i32_neg, Option.bind_some, Option.bind_none]
    rw [if_neg (fun q => absurd ((i32_le (by omega)).mp q) (by omega)), cellOf_M hS hR (by omega) (by omega), rI_ok (by omega), show ((0 : Int)).toNat = 0 from rfl, hR.1]
    unfold fX5_near_140 fX5_near_141
    simp only [L0, L1, L2, L3, L4, L5, L6, L7, L8, L9, L10, L11, L12, L13, L15, L16, L20, L24, L31, L32, L40, L41, L48, L50, L57, L59, L63, L80, L81, L96, L97, L99, L100, L122, L144, L199, L255, L400, L1681, L68921, L1000000, i32_add, i32_sub, i32_mul, i32_neg, Option.bind_some, Option.bind_none]
    rw [show (p : Int) + 1 = ((p + 1 : Nat) : Int) by omega]
    cases hth : there S p t with
    | false =>
      rw [cellN_f hth, if_pos rfl, if_neg (by unfold nrB; rw [hth]; simp)]
    | true =>
      have hcell := there_cell hth
      have hcb := cell_b hS hcell
      obtain ⟨px1, py1⟩ := sCell_iff.mp hcell
      rw [cellN_t hth, if_neg (fun q => absurd ((i32_inj (by omega)).mp q) (by omega)), oR_ok (by omega), oD_ok (by omega), tdiv_cell (by omega) px1 py1.1]
      simp only [L0, L1, L2, L3, L4, L5, L6, L7, L8, L9, L10, L11, L12, L13, L15, L16, L20, L24, L31, L32, L40, L41, L48, L50, L57, L59, L63, L80, L81, L96, L97, L99, L100, L122, L144, L199, L255, L400, L1681, L68921, L1000000, i32_add, i32_sub, i32_mul, i32_neg, Option.bind_some, Option.bind_none]
      rw [show cW S * py S p t + px S p t - py S p t * cW S = px S p t by rw [Int.mul_comm (py S p t)]; omega, size_M (by omega), size_M (by omega)]
      simp only [Option.bind_some, Option.bind_none]
      have a1 : (aI (px S p t - x) = px S p t - x ∨ aI (px S p t - x) = x - px S p t) ∧ 0 ≤ aI (px S p t - x) := by unfold aI; split <;> omega
      have a2 : (aI (py S p t - y) = py S p t - y ∨ aI (py S p t - y) = y - py S p t) ∧ 0 ≤ aI (py S p t - y) := by unfold aI; split <;> omega
      unfold nrB
      rw [hth, Bool.true_and]
      by_cases c1 : r < aI (px S p t - x)
      · rw [if_pos ((i32_lt (by omega)).mpr c1), decide_eq_false (by omega)]
        rfl
      · rw [if_neg (fun q => c1 ((i32_lt (by omega)).mp q))]
        by_cases c2 : r < aI (py S p t - y)
        · rw [if_pos ((i32_lt (by omega)).mpr c2), decide_eq_false (by omega)]
          rfl
        · rw [if_neg (fun q => c2 ((i32_lt (by omega)).mp q)), decide_eq_true (by omega)]
          rfl
theorem nearM_L {S : Sc} {M : Mem} (hS : okS S) (hR : RM S M) {x y r e : Int} (hc : sCell S x y = true) (hr : 0 ≤ r ∧ r ≤ 11) (he : e ≤ 99) : ∀ (d n : Nat) (t : Int) (z : Int32), 0 ≤ t → t + d = e + 1 → d < n → fX5_near_57L M n (i32 x) (i32 y) (i32 r) (i32 e) z (i32 t) = some (z ||| orL (nrS S x y r) d t) := by
  intro d
  induction d with
  | zero =>
    intro n t z ht hd hn
    obtain ⟨n, rfl⟩ : ∃ m, n = m + 1 := ⟨n - 1, by omega⟩
    show fX5_near_57B _ _ _ _ _ z (i32 t) M = _
    unfold fX5_near_57B
    rw [if_pos ((i32_lt (by omega)).mpr (by omega)), orL, or_0]
  | succ d ih =>
    intro n t z ht hd hn
    obtain ⟨n, rfl⟩ : ∃ m, n = m + 1 := ⟨n - 1, by omega⟩
    show fX5_near_57B (fX5_near_57L M n) _ _ _ _ z (i32 t) M = _
    unfold fX5_near_57B
    rw [if_neg (fun q => absurd ((i32_lt (by omega)).mp q) (by omega))]
    have := nearP_L hS hR (e := e) (t := t) hc hr (by omega) z (fX5_near_57L M n) (cP S) FU 0 (by omega) (by have := hS.2.2.1; unfold FU; omega)
    rw [show acc (nrB S x y r t) 0 = 0 from rfl, or_0] at this
    rw [show (0 : Int32) = i32 ((0 : Nat) : Int) from rfl, this, ih n (t + 1) _ (by omega) (by omega) (by omega), or_asc]
    rfl
theorem hat_op {b : Nat} {S : Sc} {N : Nt} {M : Mem} (hI : IC b S M) (hb : M.2.2 0 5 = b) (hN : okN N) (hr : RNc 4 N M) (x : Int32) : ∃ v, fX4_hat x M = some v ∧ ∀ M2, RM S M2 → RNm 0 N M2 → fX5_hat x M2 = some v := by
  obtain ⟨hS, -, hR, hC, -⟩ := hI
  obtain ⟨x, hx, rfl⟩ := i32_ex x
  unfold fX4_hat
  rw [show (0 : Int32) = i32 0 from rfl, show (1 : Int32) = i32 1 from rfl, isBetween_C (by omega), with_C hS hN hR hb hr, without_C hS hN hR hb hr]
  simp only [Option.bind_some, Option.bind_none, ite_bI]
  have hM0 : ∀ M2, RM S M2 → RNm 0 N M2 → fX5_hat (i32 x) M2 = if x = 0 then some (i32 (wiF S N (cI S))) else if x = 1 then some (i32 (woF S N (wiF S N (cI S)) (cI S))) else some (i32 (-1)) := by
    intro M2 hM hrm
    unfold fX5_hat
    rw [with_M hS hN hM hrm, without_M hS hN hM hrm]
    simp only [L0, L1, L2, L3, L4, L5, L6, L7, L8, L9, L10, L11, L12, L13, L15, L16, L20, L24, L31, L32, L40, L41, L48, L50, L57, L59, L63, L80, L81, L96, L97, L99, L100, L122, L144, L199, L255, L400, L1681, L68921, L1000000, i32_add, i32_sub, i32_mul, i32_neg, Option.bind_some, Option.bind_none]
    by_cases c0 : x = 0
    · rw [if_pos c0, if_pos (by rw [c0])]
    · rw [if_neg c0, if_neg (fun q => c0 ((i32_inj (by omega)).mp q))]
      by_cases c1 : x = 1
      · rw [if_pos c1, if_pos (by rw [c1])]
      · rw [if_neg c1, if_neg (fun q => c1 ((i32_inj (by omega)).mp q))]
  cases h1 : btw x 0 1 with
  | false =>
    refine ⟨i32 (-1), rfl, fun M2 hM hrm => ?_⟩
    have : ¬ (0 ≤ x ∧ x ≤ 1) := of_decide_eq_false h1
    rw [hM0 M2 hM hrm, if_neg (by omega), if_neg (by omega)]
  | true =>
    have := btw_t h1
    rw [if_pos rfl]
    by_cases c0 : x = 0
    · exact ⟨_, by rw [if_pos (by rw [c0])], fun M2 hM hrm => by rw [hM0 M2 hM hrm, if_pos c0]⟩
    · exact ⟨_, by rw [if_neg (fun q => c0 ((i32_inj (by omega)).mp q))], fun M2 hM hrm => by rw [hM0 M2 hM hrm, if_neg c0, if_pos (by omega)]⟩
theorem near_op {b : Nat} {S : Sc} {N : Nt} {M : Mem} (hI : IC b S M) (hb : M.2.2 0 5 = b) (hN : okN N) (hr : RNc 4 N M) (x y r : Int32) : ∃ v M1, fX4_near x y r M = some (v, M1) ∧ QC b M M1 ∧ Cached b S M1 ∧ ∀ M2, RM S M2 → RNm 0 N M2 → fX5_near x y r M2 = some v := by
  obtain ⟨hS, -, hR, hC, -⟩ := hI
  obtain ⟨x, hx, rfl⟩ := i32_ex x
  obtain ⟨y, hy, rfl⟩ := i32_ex y
  obtain ⟨r, hr2, rfl⟩ := i32_ex r
  have wb := (wi_b hS N 0 (cI S) (Nat.le_refl _)).1
  have ob := (wi_b hS N (wiF S N (cI S)) (cI S) (Nat.le_refl _)).2
  have hM0 : ∀ M2, RM S M2 → RNm 0 N M2 → fX5_near (i32 x) (i32 y) (i32 r) M2 = (if sCell S x y = true then (if btw r 0 11 = true then (if i32 (wiF S N (cI S)) = i32 (-9) then some (i32 (-2)) else if i32 (woF S N (wiF S N (cI S)) (cI S)) = i32 (-9) then some (i32 (-2)) else fX5_near_57L M2 FU (i32 x) (i32 y) (i32 r) (i32 (woF S N (wiF S N (cI S)) (cI S))) (i32 0) (i32 (wiF S N (cI S)))) else some (i32 (-1))) else some (i32 (-1))) := by
    intro M2 hM hrm
    unfold fX5_near
    rw [isOn_M hS hM ⟨hx, hy⟩, with_M hS hN hM hrm, without_M hS hN hM hrm]
    simp only [L0, L1, L2, L3, L4, L5, L6, L7, L8, L9, L10, L11, L12, L13, L15, L16, L20, L24, L31, L32, L40, L41, L48, L50, L57, L59, L63, L80, L81, L96, L97, L99, L100, L122, L144, L199, L255, L400, L1681, L68921, L1000000, i32_add, i32_sub, i32_mul, i32_neg, Option.bind_some, Option.bind_none]
    rw [in_M (by omega)]
    simp only [L0, L1, L2, L3, L4, L5, L6, L7, L8, L9, L10, L11, L12, L13, L15, L16, L20, L24, L31, L32, L40, L41, L48, L50, L57, L59, L63, L80, L81, L96, L97, L99, L100, L122, L144, L199, L255, L400, L1681, L68921, L1000000, i32_add, i32_sub, i32_mul, i32_neg, Option.bind_some, Option.bind_none, ite_bI]
  have hC0 : fX4_near (i32 x) (i32 y) (i32 r) M = (if sCell S x y = true then (if btw r 0 11 = true then (if i32 (wiF S N (cI S)) = i32 (-9) then some (i32 (-2), M) else if i32 (woF S N (wiF S N (cI S)) (cI S)) = i32 (-9) then some (i32 (-2), M) else fX4_near_60L FU (i32 x) (i32 y) (i32 r) (i32 (woF S N (wiF S N (cI S)) (cI S))) (i32 0) (i32 (wiF S N (cI S))) M) else some (i32 (-1), M)) else some (i32 (-1), M)) := by
    unfold fX4_near
    rw [with_C hS hN hR hb hr, without_C hS hN hR hb hr, hb, isCell_C hS hR ⟨hx, hy⟩]
    simp only [L0, L1, L2, L3, L4, L5, L6, L7, L8, L9, L10, L11, L12, L13, L15, L16, L20, L24, L31, L32, L40, L41, L48, L50, L57, L59, L63, L80, L81, L96, L97, L99, L100, L122, L144, L199, L255, L400, L1681, L68921, L1000000, i32_add, i32_sub, i32_mul, i32_neg, Option.bind_some, Option.bind_none]
    rw [isBetween_C (by omega)]
    simp only [L0, L1, L2, L3, L4, L5, L6, L7, L8, L9, L10, L11, L12, L13, L15, L16, L20, L24, L31, L32, L40, L41, L48, L50, L57, L59, L63, L80, L81, L96, L97, L99, L100, L122, L144, L199, L255, L400, L1681, L68921, L1000000, i32_add, i32_sub, i32_mul, i32_neg, Option.bind_some, Option.bind_none, ite_bI]
  rw [hC0]
  cases h1 : sCell S x y with
  | false => exact ⟨_, _, rfl, QC.rf, hC, fun M2 hM hrm => by rw [hM0 M2 hM hrm, h1]; rfl⟩
  | true =>
  cases h2 : btw r 0 11 with
  | false => exact ⟨_, _, rfl, QC.rf, hC, fun M2 hM hrm => by rw [hM0 M2 hM hrm, h1, h2]; rfl⟩
  | true =>
    have b2 := btw_t h2
    by_cases c1 : wiF S N (cI S) = -9
    · exact ⟨_, _, by rw [if_pos rfl, if_pos rfl, if_pos (by rw [c1])], QC.rf, hC, fun M2 hM hrm => by rw [hM0 M2 hM hrm, h1, h2, if_pos rfl, if_pos rfl, if_pos (by rw [c1])]⟩
    by_cases c2 : woF S N (wiF S N (cI S)) (cI S) = -9
    · exact ⟨_, _, by rw [if_pos rfl, if_pos rfl, if_neg (fun q => c1 ((i32_inj (by omega)).mp q)), if_pos (by rw [c2])], QC.rf, hC, fun M2 hM hrm => by rw [hM0 M2 hM hrm, h1, h2, if_pos rfl, if_pos rfl, if_neg (fun q => c1 ((i32_inj (by omega)).mp q)), if_pos (by rw [c2])]⟩
    have n1 : ¬ i32 (wiF S N (cI S)) = i32 (-9) := fun q => c1 ((i32_inj (by omega)).mp q)
    have n2 : ¬ i32 (woF S N (wiF S N (cI S)) (cI S)) = i32 (-9) := fun q => c2 ((i32_inj (by omega)).mp q)
    rw [if_pos rfl, if_pos rfl, if_neg n1, if_neg n2]
    by_cases hle : wiF S N (cI S) ≤ woF S N (wiF S N (cI S)) (cI S) + 1
    · obtain ⟨M1, g1, g2, g3⟩ := nearT_L hS h1 b2 (e := woF S N (wiF S N (cI S)) (cI S)) (by omega) (woF S N (wiF S N (cI S)) (cI S) + 1 - wiF S N (cI S)).toNat FU (wiF S N (cI S)) (i32 0) M hR hC hb (by omega) (by omega) (by unfold FU; omega)
      refine ⟨_, M1, g1, g3.q, g2, fun M2 hM hrm => ?_⟩
      rw [hM0 M2 hM hrm, h1, h2, if_pos rfl, if_pos rfl, if_neg n1, if_neg n2]
      exact nearM_L hS hM h1 b2 (by omega) (woF S N (wiF S N (cI S)) (cI S) + 1 - wiF S N (cI S)).toNat FU (wiF S N (cI S)) (i32 0) (by omega) (by omega) (by unfold FU; omega)
    · refine ⟨i32 0, M, ?_, QC.rf, hC, fun M2 hM hrm => ?_⟩
      · show fX4_near_60B _ _ _ _ _ (i32 0) (i32 (wiF S N (cI S))) M = _
        unfold fX4_near_60B
        rw [if_pos ((i32_lt (by omega)).mpr (by omega))]
      · rw [hM0 M2 hM hrm, h1, h2, if_pos rfl, if_pos rfl, if_neg n1, if_neg n2]
        show fX5_near_57B _ _ _ _ _ (i32 0) (i32 (wiF S N (cI S))) M2 = _
        unfold fX5_near_57B
        rw [if_pos ((i32_lt (by omega)).mpr (by omega))]

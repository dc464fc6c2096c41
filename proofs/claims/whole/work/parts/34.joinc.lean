/-! joined: the class. -/
def one (N : Nt) (i j : Nat) : Bool := decide (nSd N i 3 = nSd N j 3) && !decide (aI (nSd N i 2 - nSd N j 2) < aI (nSd N i 0 - nSd N j 0) + aI (nSd N i 1 - nSd N j 1))
theorem aI_c (z : Int) : (0 ≤ z ∧ aI z = z) ∨ (z < 0 ∧ aI z = -z) := by
  unfold aI
  by_cases h : 0 ≤ z
  · rw [if_pos h]; exact Or.inl ⟨h, rfl⟩
  · rw [if_neg h]; exact Or.inr ⟨by omega, by omega⟩
theorem one_sym (N : Nt) (i j : Nat) : one N i j = one N j i := by
  have h0 := aI_c (nSd N i 0 - nSd N j 0)
  have h1 := aI_c (nSd N i 1 - nSd N j 1)
  have h2 := aI_c (nSd N i 2 - nSd N j 2)
  have g0 := aI_c (nSd N j 0 - nSd N i 0)
  have g1 := aI_c (nSd N j 1 - nSd N i 1)
  have g2 := aI_c (nSd N j 2 - nSd N i 2)
  unfold one
  rw [show aI (nSd N j 2 - nSd N i 2) = aI (nSd N i 2 - nSd N j 2) by omega, show aI (nSd N j 1 - nSd N i 1) = aI (nSd N i 1 - nSd N j 1) by omega, show aI (nSd N j 0 - nSd N i 0) = aI (nSd N i 0 - nSd N j 0) by omega]
  congr 1
  exact decide_eq_decide.mpr ⟨Eq.symm, Eq.symm⟩
def bf (N : Nt) (i j : Nat) : Prop := nSd N i 2 < nSd N j 2 ∨ (nSd N i 2 = nSd N j 2 ∧ i < j)
def lj (N : Nt) (i j : Nat) : Prop := one N i j = true ∧ bf N i j
theorem one_iff (N : Nt) (i j : Nat) : one N i j = true ↔ nSd N i 3 = nSd N j 3 ∧ aI (nSd N i 0 - nSd N j 0) + aI (nSd N i 1 - nSd N j 1) ≤ aI (nSd N i 2 - nSd N j 2) := by
  unfold one
  rw [Bool.and_eq_true, decide_eq_true_iff, Bool.not_eq_true', decide_eq_false_iff_not]
  constructor
  · rintro ⟨h1, h2⟩; exact ⟨h1, by omega⟩
  · rintro ⟨h1, h2⟩; exact ⟨h1, by omega⟩
theorem lj_irr (N : Nt) : ∀ x, ¬ lj N x x := fun x h => by
  rcases h.2 with q | q <;> omega
theorem lj_tr (N : Nt) : ∀ x y z, lj N x y → lj N y z → lj N x z := by
  intro x y z ⟨h1, h2⟩ ⟨g1, g2⟩
  rw [one_iff] at h1 g1
  unfold bf at h2 g2
  have a0 := aI_c (nSd N x 0 - nSd N y 0)
  have a1 := aI_c (nSd N x 1 - nSd N y 1)
  have a2 := aI_c (nSd N x 2 - nSd N y 2)
  have b0 := aI_c (nSd N y 0 - nSd N z 0)
  have b1 := aI_c (nSd N y 1 - nSd N z 1)
  have b2 := aI_c (nSd N y 2 - nSd N z 2)
  have c0 := aI_c (nSd N x 0 - nSd N z 0)
  have c1 := aI_c (nSd N x 1 - nSd N z 1)
  have c2 := aI_c (nSd N x 2 - nSd N z 2)
  refine ⟨(one_iff N x z).mpr ⟨h1.1.trans g1.1, ?_⟩, ?_⟩
  · have e0 : aI (nSd N x 0 - nSd N z 0) ≤ aI (nSd N x 0 - nSd N y 0) + aI (nSd N y 0 - nSd N z 0) := by omega
    have e1 : aI (nSd N x 1 - nSd N z 1) ≤ aI (nSd N x 1 - nSd N y 1) + aI (nSd N y 1 - nSd N z 1) := by omega
    have e2 : aI (nSd N x 2 - nSd N z 2) = aI (nSd N x 2 - nSd N y 2) + aI (nSd N y 2 - nSd N z 2) := by omega
    have f1 := h1.2
    have f2 := g1.2
    omega
  · unfold bf; omega
theorem bf_tot (N : Nt) {i j : Nat} (h : i ≠ j) : bf N i j ∨ bf N j i := by unfold bf; omega
theorem lj_of (N : Nt) {i j : Nat} (h : i ≠ j) (ho : one N i j = true) : lj N i j ∨ lj N j i := by
  rcases bf_tot N h with q | q
  · exact Or.inl ⟨ho, q⟩
  · exact Or.inr ⟨by rw [one_sym]; exact ho, q⟩
theorem ofSeen_C {N : Nt} {M : Mem} (hN : okN N) (hr : RNc 4 N M) {i j : Nat} (hi : i < nS N) (hj : j < 4) : fX1_ofSeen 4 (i32 i) (i32 j) M = some (i32 (nSd N i j)) := by
  have := hN.2.2.1
  unfold fX1_ofSeen
  simp only [L0, L1, L2, L3, L4, L5, L6, L7, L8, L9, L10, L11, L12, L13, L15, L16, L20, L24, L31, L32, L40, L41, L48, L50, L57, L59, L63, L80, L81, L96, L97, L99, L100, L122, L144, L199, L255, L400, L1681, L68921, L1000000, i32_add, i32_sub, i32_mul, i32_neg, Option.bind_some, Option.bind_none]
  rw [rI_ok (by omega), show (4 * (i : Int) + j).toNat = 4 * i + j by omega, hr.2.2.2.1 i j hi hj]
  rfl
theorem canBe_C {N : Nt} {M : Mem} (hN : okN N) (hr : RNc 4 N M) {i j : Nat} (hi : i < nS N) (hj : j < nS N) : fX1_canBeOne 4 (i32 i) (i32 j) M = some (i32 (bI (one N i j))) := by
  have E : ∀ a k, a < nS N → k < 4 → fX1_ofSeen 4 (i32 a) (i32 (k : Nat)) M = some (i32 (nSd N a k)) := fun a k h1 h2 => ofSeen_C hN hr h1 h2
  obtain ⟨x1, x2, x3, x4⟩ := hN.2.2.2.1 i hi
  obtain ⟨y1, y2, y3, y4⟩ := hN.2.2.2.1 j hj
  unfold fX1_canBeOne
  rw [show (0 : Int32) = i32 ((0 : Nat) : Int) from rfl, show (1 : Int32) = i32 ((1 : Nat) : Int) from rfl, show (2 : Int32) = i32 ((2 : Nat) : Int) from rfl, show (3 : Int32) = i32 ((3 : Nat) : Int) from rfl]
  rw [E i 0 hi (by decide), E i 1 hi (by decide), E i 2 hi (by decide), E i 3 hi (by decide), E j 0 hj (by decide), E j 1 hj (by decide), E j 2 hj (by decide), E j 3 hj (by decide)]
  simp only [Option.bind_some, Option.bind_none, i32_sub]
  have a0 := aI_c (nSd N i 0 - nSd N j 0)
  have a1 := aI_c (nSd N i 1 - nSd N j 1)
  have a2 := aI_c (nSd N i 2 - nSd N j 2)
  rw [iabs_ok (by omega), iabs_ok (by omega), iabs_ok (by omega), i32_add]
  unfold one
  by_cases q : nSd N i 3 = nSd N j 3
  · rw [if_pos (by rw [q]), decide_eq_true q]
    by_cases r : aI (nSd N i 2 - nSd N j 2) < aI (nSd N i 0 - nSd N j 0) + aI (nSd N i 1 - nSd N j 1)
    · rw [if_pos ((i32_lt (by omega)).mpr r), decide_eq_true r]; rfl
    · rw [if_neg (fun z => r ((i32_lt (by omega)).mp z)), decide_eq_false r]; rfl
  · rw [if_neg (fun z => q ((i32_inj (by omega)).mp z)), decide_eq_false q]; rfl
/-- the row of those who can be one with this -/
def jn (N : Nt) (i : Nat) (n : Nat) : Int32 := acc (fun j => decide (j ≠ i) && one N i j) n
def O8 (M M' : Mem) : Prop := M'.2 = M.2 ∧ ∀ a, a ≠ 8 → M'.1 a = M.1 a
theorem RNc.o8 {N : Nt} {M M' : Mem} (h : RNc 4 N M) (k : O8 M M') : RNc 4 N M' := h.mv (by rw [k.2 4 (by decide)]) (by rw [k.2 4 (by decide)]) (k.2 5 (by decide)) (k.2 6 (by decide)) (k.2 7 (by decide))
theorem fj19_L {N : Nt} (hN : okN N) {k2 : Int32 → Mem → Option Mem} {i : Nat} (hi : i < nS N) : ∀ (d n j : Nat) (M : Mem), j + d = nS N → d < n → RNc 4 N M → M.1 8 i = jn N i j → ∃ M', fX1_findJoinable_19L k2 4 n (i32 i) (i32 j) M = k2 (i32 ((i + 1 : Nat) : Int)) M' ∧ O8 M M' ∧ M'.1 8 i = jn N i (nS N) ∧ ∀ r, r ≠ i → M'.1 8 r = M.1 8 r := by
  have h8 := hN.2.2.1
  intro d
  induction d with
  | zero =>
    intro n j M h1 h2 h3 h4
    obtain ⟨n, rfl⟩ : ∃ m, n = m + 1 := ⟨n - 1, by omega⟩
    obtain rfl : j = nS N := by omega
    refine ⟨M, ?_, ⟨rfl, fun _ _ => rfl⟩, h4, fun _ _ => rfl⟩
    show fX1_findJoinable_19B k2 (fX1_findJoinable_19L k2 4 n) 4 _ _ _ = _
    unfold fX1_findJoinable_19B
    rw [h3.2.1, if_pos ((i32_le (by omega)).mpr (by omega))]
    rw [show (1 : Int32) = i32 1 from rfl, i32_add]; rfl
  | succ d ih =>
    intro n j M h1 h2 h3 h4
    obtain ⟨n, rfl⟩ : ∃ m, n = m + 1 := ⟨n - 1, by omega⟩
    have step : ∀ M1, O8 M M1 → (M1.1 8 i = jn N i (j + 1)) → (∀ r, r ≠ i → M1.1 8 r = M.1 8 r) → fX1_findJoinable_19L k2 4 (n + 1) (i32 i) (i32 j) M = fX1_findJoinable_19L k2 4 n (i32 i) (i32 ((j + 1 : Nat) : Int)) M1 → ∃ M', fX1_findJoinable_19L k2 4 (n + 1) (i32 i) (i32 j) M = k2 (i32 ((i + 1 : Nat) : Int)) M' ∧ O8 M M' ∧ M'.1 8 i = jn N i (nS N) ∧ ∀ r, r ≠ i → M'.1 8 r = M.1 8 r := by
      intro M1 o1 o2 o3 o4
      obtain ⟨M', g1, g2, g3, g4⟩ := ih n (j + 1) M1 (by omega) (by omega) (h3.o8 o1) o2
      exact ⟨M', o4.trans g1, ⟨g2.1.trans o1.1, fun a ha => (g2.2 a ha).trans (o1.2 a ha)⟩, g3, fun r hr => (g4 r hr).trans (o3 r hr)⟩
    have hj : j < nS N := by omega
    have e0 : fX1_findJoinable_19L k2 4 (n + 1) (i32 i) (i32 j) M = fX1_findJoinable_19B k2 (fX1_findJoinable_19L k2 4 n) 4 (i32 i) (i32 j) M := rfl
    have e1 : ∀ Mx, fX1_findJoinable_53 k2 (fX1_findJoinable_19L k2 4 n) 4 (i32 i) (i32 j) Mx = fX1_findJoinable_19L k2 4 n (i32 i) (i32 ((j + 1 : Nat) : Int)) Mx := fun Mx => by
      unfold fX1_findJoinable_53
      rw [show (1 : Int32) = i32 1 from rfl, i32_add]; rfl
    by_cases q : j = i
    · subst q
      refine step M ⟨rfl, fun _ _ => rfl⟩ ?_ (fun _ _ => rfl) ?_
      · rw [h4]; unfold jn; rw [acc_s, decide_eq_false (by simp), Bool.false_and, if_neg (by decide), or_0]
      · rw [e0]; unfold fX1_findJoinable_19B
        rw [h3.2.1, if_neg (fun z => absurd ((i32_le (by omega)).mp z) (by omega)), if_pos rfl, e1]
    · cases ho : one N i j with
      | false =>
        refine step M ⟨rfl, fun _ _ => rfl⟩ ?_ (fun _ _ => rfl) ?_
        · rw [h4]; unfold jn; rw [acc_s, ho, Bool.and_false, if_neg (by decide), or_0]
        · rw [e0]; unfold fX1_findJoinable_19B
          rw [h3.2.1, if_neg (fun z => absurd ((i32_le (by omega)).mp z) (by omega)), if_neg (fun z => q (by have := (i32_inj (by omega)).mp z; omega)), canBe_C hN h3 hi hj, ho]
          simp only [Option.bind_some, Option.bind_none]
          rw [if_pos (by decide), e1]
      | true =>
        refine step (sI M 8 i (jn N i j ||| bit1 j)) ⟨rfl, fun a ha => sI_ne ha⟩ ?_ (fun r hr => sI_nj hr) ?_
        · rw [sI_at]; unfold jn; rw [acc_s, ho, decide_eq_true q, Bool.true_and, if_pos rfl]
        · rw [e0]; unfold fX1_findJoinable_19B
          rw [h3.2.1, if_neg (fun z => absurd ((i32_le (by omega)).mp z) (by omega)), if_neg (fun z => q (by have := (i32_inj (by omega)).mp z; omega)), canBe_C hN h3 hi hj, ho]
          simp only [Option.bind_some, Option.bind_none]
          rw [if_neg (by decide), rI_ok (by omega), show ((i : Int)).toNat = i by omega]
          simp only [Option.bind_some, Option.bind_none]
          rw [wI_ok (by omega), show ((i : Int)).toNat = i by omega, h4]
          simp only [Option.bind_some, Option.bind_none]
          rw [e1]; rfl
theorem fj2_L {N : Nt} (hN : okN N) : ∀ (d n i : Nat) (M : Mem), i + d = nS N → d < n → RNc 4 N M → (∀ r, r < i → M.1 8 r = jn N r (nS N)) → ∃ M', fX1_findJoinable_2L 4 n (i32 i) M = some M' ∧ O8 M M' ∧ ∀ r, r < nS N → M'.1 8 r = jn N r (nS N) := by
  have h8 := hN.2.2.1
  intro d
  induction d with
  | zero =>
    intro n i M h1 h2 h3 h4
    obtain ⟨n, rfl⟩ : ∃ m, n = m + 1 := ⟨n - 1, by omega⟩
    obtain rfl : i = nS N := by omega
    refine ⟨M, ?_, ⟨rfl, fun _ _ => rfl⟩, h4⟩
    show fX1_findJoinable_2B (fX1_findJoinable_2L 4 n) 4 _ _ = _
    unfold fX1_findJoinable_2B
    rw [h3.2.1, if_pos ((i32_le (by omega)).mpr (by omega))]
  | succ d ih =>
    intro n i M h1 h2 h3 h4
    obtain ⟨n, rfl⟩ : ∃ m, n = m + 1 := ⟨n - 1, by omega⟩
    have o1 : O8 M (sI M 8 i 0) := ⟨rfl, fun a ha => sI_ne ha⟩
    obtain ⟨M1, g1, g2, g3, g4⟩ := fj19_L hN (k2 := fX1_findJoinable_2L 4 n) (i := i) (by omega) (nS N) FU 0 (sI M 8 i 0) (by omega) (by unfold FU; omega) (h3.o8 o1) (by rw [sI_at]; rfl)
    have o2 : O8 M M1 := ⟨g2.1.trans o1.1, fun a ha => (g2.2 a ha).trans (o1.2 a ha)⟩
    obtain ⟨M', k1, k2, k3⟩ := ih n (i + 1) M1 (by omega) (by omega) (h3.o8 o2) (fun r hr => by
      by_cases z : r = i
      · rw [z]; exact g3
      · rw [g4 r z, sI_nj z]; exact h4 r (by omega))
    refine ⟨M', ?_, ⟨k2.1.trans o2.1, fun a ha => (k2.2 a ha).trans (o2.2 a ha)⟩, k3⟩
    show fX1_findJoinable_2B (fX1_findJoinable_2L 4 n) 4 _ _ = _
    unfold fX1_findJoinable_2B
    rw [h3.2.1, if_neg (fun z => absurd ((i32_le (by omega)).mp z) (by omega)), wI_ok (by omega), show ((i : Int)).toNat = i by omega]
    simp only [Option.bind_some, Option.bind_none]
    exact g1.trans k1
/-- a set of which no two can be one -/
def ul (N : Nt) (x : Int32) (n : Nat) : Bool := decide (∀ i, i < n → bt x i = true → (jn N i (nS N) &&& x) = 0)
theorem unl_L {N : Nt} (hN : okN N) {M : Mem} (h3 : RNc 4 N M) (h4 : ∀ r, r < nS N → M.1 8 r = jn N r (nS N)) (x : Int32) : ∀ (d n i : Nat), i + d = nS N → d < n → ul N x i = true → fX1_areAllUnlike_2L 4 M n x (i32 i) = some (i32 (bI (ul N x (nS N)))) := by
  have h8 := hN.2.2.1
  intro d
  induction d with
  | zero =>
    intro n i h1 h2 h5
    obtain ⟨n, rfl⟩ : ∃ m, n = m + 1 := ⟨n - 1, by omega⟩
    obtain rfl : i = nS N := by omega
    show fX1_areAllUnlike_2B (fX1_areAllUnlike_2L 4 M n) 4 _ _ _ = _
    unfold fX1_areAllUnlike_2B
    rw [h3.2.1, if_pos ((i32_le (by omega)).mpr (by omega)), h5]; rfl
  | succ d ih =>
    intro n i h1 h2 h5
    obtain ⟨n, rfl⟩ : ∃ m, n = m + 1 := ⟨n - 1, by omega⟩
    have h5' := of_decide_eq_true h5
    have e1 : fX1_areAllUnlike_31 (fX1_areAllUnlike_2L 4 M n) 4 x (i32 i) M = fX1_areAllUnlike_2L 4 M n x (i32 ((i + 1 : Nat) : Int)) := by
      unfold fX1_areAllUnlike_31
      rw [show (1 : Int32) = i32 1 from rfl, i32_add]; rfl
    show fX1_areAllUnlike_2B (fX1_areAllUnlike_2L 4 M n) 4 _ _ _ = _
    unfold fX1_areAllUnlike_2B
    rw [h3.2.1, if_neg (fun z => absurd ((i32_le (by omega)).mp z) (by omega)), i32_nI, bit_of (by omega), ← i32_nI, show (0 : Int32) = i32 0 from rfl, ite_bI, e1, rI_ok (by omega), show ((i : Int)).toNat = i by omega, h4 i (by omega)]
    simp only [Option.bind_some, Option.bind_none]
    cases hb : bt x i with
    | false =>
      rw [if_neg (by decide)]
      refine ih n (i + 1) (by omega) (by omega) (decide_eq_true fun j hj hx => ?_)
      by_cases z : j = i
      · rw [z, hb] at hx; exact absurd hx (by decide)
      · exact h5' j (by omega) hx
    | true =>
      rw [if_pos rfl]
      by_cases w : (jn N i (nS N) &&& x) = 0
      · rw [if_pos (show (jn N i (nS N) &&& x) = i32 0 from w)]
        refine ih n (i + 1) (by omega) (by omega) (decide_eq_true fun j hj hx => ?_)
        by_cases z : j = i
        · rw [z]; exact w
        · exact h5' j (by omega) hx
      · rw [if_neg (show ¬ (jn N i (nS N) &&& x) = i32 0 from w)]
        rw [show ul N x (nS N) = false from decide_eq_false (fun z => w (z i (by omega) hb))]; rfl
theorem ul_iff {N : Nt} (hN : okN N) (x : Int32) : ul N x (nS N) = true ↔ ∀ i j, i < nS N → j < nS N → i ≠ j → bt x i = true → bt x j = true → one N i j = false := by
  have h8 := hN.2.2.1
  constructor
  · intro h i j hi hj hij hbi hbj
    have := of_decide_eq_true h i hi hbi
    have hb : bt (jn N i (nS N) &&& x) j = false := by rw [this]; exact b_0 j
    rw [b_and, hbj, Bool.and_true] at hb
    unfold jn at hb
    rw [bt_acc (by omega) (by omega), decide_eq_true hj, decide_eq_true (Ne.symm hij), Bool.true_and, Bool.true_and] at hb
    exact hb
  · intro h
    refine decide_eq_true fun i hi hbi => b_ext fun j hj => ?_
    rw [b_0, b_and]
    unfold jn
    rw [bt_acc (by omega) hj]
    cases hbj : bt x j with
    | false => rw [Bool.and_false]
    | true =>
      by_cases q : j < nS N
      · by_cases r : j = i
        · rw [decide_eq_false (show ¬ j ≠ i by omega), Bool.false_and, Bool.and_false, Bool.false_and]
        · rw [h i j hi q (Ne.symm r) hbi hbj, Bool.and_false, Bool.and_false, Bool.false_and]
      · rw [decide_eq_false q, Bool.false_and, Bool.false_and]
theorem pow8 : ∀ n : Nat, n ≤ 8 → ((1 : Int32) <<< (i32 (n : Int) &&& 31)) = i32 ((2 ^ n : Nat) : Int) ∧ 2 ^ n ≤ 256 := by decide +kernel
theorem few_L {N : Nt} (hN : okN N) {M : Mem} (h3 : RNc 4 N M) (h4 : ∀ r, r < nS N → M.1 8 r = jn N r (nS N)) {k : Nat} (hk : k ≤ 10) (hw : ∀ y, y < 2 ^ nS N → ul N (nI y) (nS N) = true → pcI (nI y) ≤ k) : ∀ (d n y b : Nat), y + d = 2 ^ nS N → d < n → b ≤ k → (∀ z, z < y → ul N (nI z) (nS N) = true → pcI (nI z) ≤ b) → ∃ b' : Nat, fX1_fewestPeople_8L 4 n (i32 b) (i32 y) M = some (i32 b', M) ∧ b' ≤ k ∧ ∀ z, z < 2 ^ nS N → ul N (nI z) (nS N) = true → pcI (nI z) ≤ b' := by
  have h8 := hN.2.2.1
  obtain ⟨p1, p2⟩ := pow8 (nS N) h8
  intro d
  induction d with
  | zero =>
    intro n y b h1 h2 h5 h6
    obtain ⟨n, rfl⟩ : ∃ m, n = m + 1 := ⟨n - 1, by omega⟩
    refine ⟨b, ?_, h5, fun z hz => h6 z (by omega)⟩
    show fX1_fewestPeople_8B (fX1_fewestPeople_8L 4 n) 4 _ _ _ = _
    unfold fX1_fewestPeople_8B
    rw [h3.2.1, p1, if_pos ((i32_le (by omega)).mpr (by omega))]
  | succ d ih =>
    intro n y b h1 h2 h5 h6
    obtain ⟨n, rfl⟩ : ∃ m, n = m + 1 := ⟨n - 1, by omega⟩
    have hs : s10 (i32 (y : Int)) := fun i h1 h2 => s10_set y (by omega) i h2 h1
    have e1 : ∀ c : Int32, fX1_fewestPeople_39 (fX1_fewestPeople_8L 4 n) 4 c (i32 y) M = fX1_fewestPeople_8L 4 n c (i32 ((y + 1 : Nat) : Int)) M := fun c => by
      unfold fX1_fewestPeople_39
      rw [show (1 : Int32) = i32 1 from rfl, i32_add]; rfl
    have hpc := pc_le (i32 (y : Int))
    have hu : fX1_areAllUnlike 4 (i32 y) M = some (i32 (bI (ul N (nI y) (nS N)))) := unl_L hN h3 h4 (i32 y) (nS N) FU 0 (by omega) (by unfold FU; omega) (decide_eq_true fun i hi => absurd hi (by omega))
    show ∃ b' : Nat, fX1_fewestPeople_8B (fX1_fewestPeople_8L 4 n) 4 _ _ _ = _ ∧ _
    unfold fX1_fewestPeople_8B
    rw [h3.2.1, p1, if_neg (fun z => absurd ((i32_le (by omega)).mp z) (by omega)), bitCount_C hs]
    simp only [Option.bind_some, Option.bind_none]
    rw [hu, e1, e1]
    simp only [Option.bind_some, Option.bind_none]
    by_cases q : pcI (i32 (y : Int)) ≤ b
    · rw [if_pos ((i32_le (by omega)).mpr (by omega))]
      refine ih n (y + 1) b (by omega) (by omega) h5 (fun z hz hu => ?_)
      by_cases w : z = y
      · rw [w]; exact q
      · exact h6 z (by omega) hu
    · rw [if_neg (fun z => absurd ((i32_le (by omega)).mp z) (by omega))]
      cases hul : ul N (nI y) (nS N) with
      | false =>
        rw [if_pos (by decide)]
        refine ih n (y + 1) b (by omega) (by omega) h5 (fun z hz hu => ?_)
        by_cases w : z = y
        · rw [w, hul] at hu; exact absurd hu (by decide)
        · exact h6 z (by omega) hu
      | true =>
        rw [if_neg (by decide)]
        refine ih n (y + 1) (pcI (i32 (y : Int))) (by omega) (by omega) (hw y (by omega) hul) (fun z hz hu => ?_)
        by_cases w : z = y
        · rw [w]; exact Nat.le_refl _
        · exact Nat.le_trans (h6 z (by omega) hu) (by omega)

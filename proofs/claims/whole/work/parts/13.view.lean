/-! Sets of bits, rows of the memory. -/
theorem i32_nI (n : Nat) : i32 (n : Int) = nI n := rfl
def orN (f : Nat → Int32) : Nat → Int32
  | 0 => 0
  | n + 1 => orN f n ||| f n
theorem bt_orN (f : Nat → Int32) (i : Nat) : ∀ n, bt (orN f n) i = true ↔ ∃ j, j < n ∧ bt (f j) i = true
  | 0 => ⟨fun h => (by rw [orN, b_0] at h; cases h), fun ⟨j, h, _⟩ => absurd h (Nat.not_lt_zero j)⟩
  | n + 1 => by
    rw [orN, b_or, Bool.or_eq_true, bt_orN f i n]
    constructor
    · rintro (⟨j, h1, h2⟩ | h)
      · exact ⟨j, by omega, h2⟩
      · exact ⟨n, by omega, h⟩
    · rintro ⟨j, h1, h2⟩
      by_cases hj : j = n
      · subst hj; exact Or.inr h2
      · exact Or.inl ⟨j, by omega, h2⟩
def bit1 (p : Nat) : Int32 := 1 <<< (nI p &&& 31)
theorem bt_bit1 {p : Nat} (hp : p < 32) {i : Nat} (hi : i < 32) : bt (bit1 p) i = decide (i = p) := by
  unfold bit1
  rw [b_shl p hp 1 hi]
  have h1 : ∀ i, i < 32 → bt 1 i = decide (i = 0) := by decide +kernel
  rw [h1 (i - p) (by omega)]
  by_cases h : i = p
  · subst h; simp
  · rw [decide_eq_false h]
    by_cases h2 : p ≤ i
    · rw [decide_eq_false (show ¬ (i - p = 0) by omega), Bool.and_false]
    · rw [decide_eq_false h2, Bool.false_and]
def acc (c : Nat → Bool) (n : Nat) : Int32 := orN (fun p => if c p = true then bit1 p else 0) n
theorem acc_s (c : Nat → Bool) (n : Nat) : acc c (n + 1) = acc c n ||| (if c n = true then bit1 n else 0) := rfl
theorem bt_acc {c : Nat → Bool} {n : Nat} (hn : n ≤ 32) {i : Nat} (hi : i < 32) : bt (acc c n) i = (decide (i < n) && c i) := by
  apply Bool.eq_iff_iff.mpr
  unfold acc
  rw [bt_orN, Bool.and_eq_true, decide_eq_true_iff]
  constructor
  · rintro ⟨j, h1, h2⟩
    by_cases hc : c j = true
    · rw [if_pos hc, bt_bit1 (by omega) hi, decide_eq_true_iff] at h2
      subst h2; exact ⟨h1, hc⟩
    · rw [if_neg hc, b_0] at h2; cases h2
  · rintro ⟨h1, h2⟩
    exact ⟨i, h1, by rw [if_pos h2, bt_bit1 hi hi, decide_eq_true_iff]⟩
theorem acc_cong {c d : Nat → Bool} : ∀ {n : Nat}, (∀ i, i < n → c i = d i) → acc c n = acc d n
  | 0, _ => rfl
  | n + 1, h => by rw [acc_s, acc_s, acc_cong (fun i hi => h i (by omega)), h n (by omega)]
theorem or_0 (x : Int32) : x ||| 0 = x := b_ext (fun i _ => by rw [b_or, b_0, Bool.or_false])
theorem or_asc (x y z : Int32) : (x ||| y) ||| z = x ||| (y ||| z) := b_ext (fun i _ => by rw [b_or, b_or, b_or, b_or, Bool.or_assoc])
theorem or_z (x : Int32) : (0 : Int32) ||| x = x := b_ext (fun i _ => by rw [b_or, b_0, Bool.false_or])
/-- one bit out of a set -/
theorem bit_of {x : Int32} {p : Nat} (hp : p < 32) : (x >>> (nI p &&& 31)) &&& 1 = i32 (bI (bt x p)) := by
  apply b_ext
  intro i hi
  rw [b_and, b_sshr p hp x hi]
  have h1 : ∀ i, i < 32 → bt 1 i = decide (i = 0) := by decide +kernel
  rw [h1 i hi]
  cases h : bt x p with
  | true =>
    show _ = bt 1 i
    rw [h1 i hi]
    by_cases hz : i = 0
    · subst hz; simp [h]; omega
    · rw [decide_eq_false hz, Bool.and_false]
  | false =>
    show _ = bt 0 i
    rw [b_0]
    by_cases hz : i = 0
    · subst hz; simp [h]; omega
    · rw [decide_eq_false hz, Bool.and_false]
theorem sI_ne {M : Mem} {a j a' : Nat} {x : Int32} (h : a' ≠ a) : (sI M a j x).1 a' = M.1 a' := if_neg h
theorem sI_at (M : Mem) (a j : Nat) (x : Int32) : (sI M a j x).1 a j = x := by rw [sI_k]; exact if_pos rfl
theorem sI_nj {M : Mem} {a j j' : Nat} {x : Int32} (h : j' ≠ j) : (sI M a j x).1 a j' = M.1 a j' := by rw [sI_k]; exact if_neg h
/-- what reading calls on a scene may change: the row of cells, the crowd, which second it is, two rows for use -/
def Sm (b : Nat) (M M' : Mem) : Prop := M'.2.2 = M.2.2 ∧ M'.2.1 = M.2.1 ∧ (∀ a, a ≠ b → a ≠ b + 4 → a ≠ b + 5 → M'.1 a = M.1 a) ∧ (∀ j, j ≠ 10 → M'.1 b j = M.1 b j)
theorem Sm.rf {b : Nat} {M : Mem} : Sm b M M := ⟨rfl, rfl, fun _ _ _ _ => rfl, fun _ _ => rfl⟩
theorem Sm.tr {b : Nat} {M M1 M2 : Mem} (h : Sm b M M1) (k : Sm b M1 M2) : Sm b M M2 := ⟨k.1.trans h.1, k.2.1.trans h.2.1, fun a q1 q2 q3 => (k.2.2.1 a q1 q2 q3).trans (h.2.2.1 a q1 q2 q3), fun j q => (k.2.2.2 j q).trans (h.2.2.2 j q)⟩
theorem Sm.w {b : Nat} {M : Mem} {a j : Nat} {x : Int32} (h : a = b + 4 ∨ a = b + 5) : Sm b M (sI M a j x) := by
  refine ⟨rfl, rfl, fun a' q1 q2 q3 => sI_ne (by omega), fun j' _ => ?_⟩
  rw [sI_ne (by omega)]
theorem Sm.f {b : Nat} {M : Mem} {x : Int32} : Sm b M (sI M b 10 x) := ⟨rfl, rfl, fun a' q1 q2 q3 => sI_ne q1, fun j' q => sI_nj q⟩
theorem RC.sm {b : Nat} {S : Sc} {M M' : Mem} (h : RC b S M) (k : Sm b M M') : RC b S M' := by
  obtain ⟨h1, h2, h3, h4, h5, h6, h7⟩ := h
  obtain ⟨-, -, k1, k2⟩ := k
  refine ⟨by rw [k2 3 (by decide)]; exact h1, by rw [k2 4 (by decide)]; exact h2, by rw [k2 6 (by decide)]; exact h3, by rw [k2 7 (by decide)]; exact h4, ?_, ?_, ?_⟩
  · intro x y a1 a2 a3 a4
    rw [k1 (b + 1) (by omega) (by omega) (by omega)]; exact h5 x y a1 a2 a3 a4
  · intro p j a1 a2
    rw [k1 (b + 2) (by omega) (by omega) (by omega)]; exact h6 p j a1 a2
  · intro p j a1 a2
    rw [k1 (b + 3) (by omega) (by omega) (by omega)]; exact h7 p j a1 a2
/-! Arrays.fill -/
theorem fill_L {a n0 : Nat} (hn0 : n0 < 2147483648) {v : Int32} : ∀ (d n k : Nat) (M : Mem), k + d = n0 → d < n → fJ7_fill_53178_5L a n0 n v (i32 k) (i32 n0) M = some (sW M a (fun j => if k ≤ j ∧ j < n0 then v else M.1 a j)) := by
  intro d
  induction d with
  | zero =>
    intro n k M hk hn
    obtain ⟨n, rfl⟩ : ∃ m, n = m + 1 := ⟨n - 1, by omega⟩
    show fJ7_fill_53178_5B _ a n0 v (i32 k) (i32 n0) M = _
    unfold fJ7_fill_53178_5B
    rw [if_pos ((i32_le (by omega)).mpr (by omega))]
    congr 1
    unfold sW
    refine Prod.ext ?_ rfl
    funext a'
    by_cases h : a' = a
    · subst h
      show M.1 a' = if a' = a' then _ else _
      rw [if_pos rfl]
      funext j
      rw [if_neg (by omega)]
    · show M.1 a' = if a' = a then _ else _
      rw [if_neg h]
  | succ d ih =>
    intro n k M hk hn
    obtain ⟨n, rfl⟩ : ∃ m, n = m + 1 := ⟨n - 1, by omega⟩
    show fJ7_fill_53178_5B (fJ7_fill_53178_5L a n0 n) a n0 v (i32 k) (i32 n0) M = _
    unfold fJ7_fill_53178_5B
    rw [if_neg (fun q => absurd ((i32_le (by omega)).mp q) (by omega)), wI_ok (by omega)]
    simp only [L0, L1, L2, L3, L4, L5, L6, L7, L8, L9, L10, L11, L12, L13, L15, L16, L20, L24, L31, L32, L40, L41, L48, L50, L57, L59, L63, L80, L81, L96, L97, L99, L100, L122, L144, L199, L255, L400, L1681, L68921, L1000000, i32_add, i32_sub, i32_mul, i32_neg, Option.bind_some, Option.bind_none]
    have e : (k : Int) + 1 = ((k + 1 : Nat) : Int) := by omega
    rw [e, ih n (k + 1) _ (by omega) (by omega)]
    congr 1
    unfold sW
    refine Prod.ext ?_ rfl
    funext a'
    by_cases h : a' = a
    · subst h
      show (if a' = a' then _ else _) = if a' = a' then _ else _
      rw [if_pos rfl, if_pos rfl]
      funext j
      by_cases hj : j = k
      · subst hj
        rw [if_neg (by omega), if_pos (by omega), show ((j : Int)).toNat = j by omega, sI_at]
      · rw [show ((k : Int)).toNat = k by omega, sI_nj hj]
        by_cases h1 : k ≤ j ∧ j < n0
        · rw [if_pos (by omega), if_pos h1]
        · rw [if_neg (by omega), if_neg h1]
    · show (if a' = a then _ else _) = if a' = a then _ else _
      rw [if_neg h, if_neg h, sI_ne h]
theorem fill_C {a n0 : Nat} (hn0 : n0 < 1000) {v : Int32} {M : Mem} : fJ7_fill_53178 a n0 v M = some (sW M a (fun j => if j < n0 then v else M.1 a j)) := by
  unfold fJ7_fill_53178
  have := fill_L (a := a) (n0 := n0) (by omega) (v := v) n0 FU 0 M (by omega) (by unfold FU; omega)
  rw [show (0 : Int32) = i32 ((0 : Nat) : Int) from rfl, show Int32.ofNat n0 = i32 (n0 : Int) from rfl, this]
  congr 2
  funext j
  simp

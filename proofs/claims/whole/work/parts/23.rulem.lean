/-! The model's rule. -/
theorem stF_mn {S : Sc} (hS : okS S) {i : Nat} (hi : i < cI S) {d : Int} (hd : 0 ≤ d ∧ d ≤ 9) {p : Nat} : stF S (cQd S i 0) (cQd S i 1) (cQd S i 2) (mn d (cQd S i 3)) (cQd S i 4) p = 1 ↔ inV S (cQd S i 0) (cQd S i 1) (cQd S i 2) (cQd S i 3) (cQd S i 4) p = true ∧ sA S (cQd S i 0) (cQd S i 1) (cQd S i 2) p (cQd S i 4) ≤ d ∧ hides S (cQd S i 0) (cQd S i 1) (cQd S i 2) (cQd S i 4) (sA S (cQd S i 0) (cQd S i 1) (cQd S i 2) p (cQd S i 4)) (sS S (cQd S i 0) (cQd S i 1) (cQd S i 2) p (cQd S i 4)) = 1 := by
  obtain ⟨q0, q1, q2, q3, q4⟩ := hS.2.2.2.2.2.1 i hi
  have hm : mn d (cQd S i 3) ≤ 9 ∧ (mn d (cQd S i 3) ≤ d ∧ mn d (cQd S i 3) ≤ cQd S i 3) ∧ (mn d (cQd S i 3) = d ∨ mn d (cQd S i 3) = cQd S i 3) := by unfold mn; split <;> omega
  unfold stF
  constructor
  · intro h
    by_cases hin : inV S (cQd S i 0) (cQd S i 1) (cQd S i 2) (mn d (cQd S i 3)) (cQd S i 4) p = true
    · rw [if_pos hin] at h
      obtain ⟨z1, z2, z3, z4, z5⟩ := (inV_iff hm.1).mp hin
      exact ⟨(inV_iff (by omega)).mpr ⟨z1, z2, by omega, z4, z5⟩, by omega, h⟩
    · rw [if_neg hin] at h; omega
  · rintro ⟨h1, h2, h3⟩
    obtain ⟨z1, z2, z3, z4, z5⟩ := (inV_iff (by omega)).mp h1
    rw [if_pos ((inV_iff hm.1).mpr ⟨z1, z2, by omega, z4, z5⟩)]
    exact h3
theorem bt_shD {S : Sc} (hS : okS S) {d : Int} {i p : Nat} (hp : p < cP S) : bt (shD S d i) p = decide (stF S (cQd S i 0) (cQd S i 1) (cQd S i 2) (mn d (cQd S i 3)) (cQd S i 4) p = 1) := by
  have := hS.2.2.1
  unfold shD shS
  rw [bt_acc (by omega) (by omega), decide_eq_true hp, Bool.true_and]
theorem many_L {S : Sc} (hS : okS S) {d : Int} (hd : 0 ≤ d ∧ d ≤ 9) {p : Nat} (hp : p < cP S) : ∀ (e n i : Nat) (M : Mem), RM S M → i + e = cI S → e < n → ∃ M', fX5_manyTo_5L n (i32 p) (i32 d) (i32 (fb_ct (fun i => bt (shD S d i) p) i)) (i32 i) M = some (i32 (mp S d p), M') ∧ Vm M M' ∧ RM S M' := by
  have h10 := hS.2.2.2.1
  intro e
  induction e with
  | zero =>
    intro n i M hR he hn
    obtain ⟨n, rfl⟩ : ∃ m, n = m + 1 := ⟨n - 1, by omega⟩
    refine ⟨M, ?_, Vm.rf, hR⟩
    show fX5_manyTo_5B _ (i32 p) (i32 d) _ (i32 i) M = _
    unfold fX5_manyTo_5B
    simp only [L0, L1, L2, L3, L4, L5, L6, L7, L8, L9, L10, L11, L12, L13, L15, L16, L20, L24, L31, L32, L40, L41, L48, L50, L57, L59, L63, L80, L81, L96, L97, L99, L100, L122, L144, L199, L255, L400, L1681, L68921, L1000000, i32_add, i32_sub, i32_mul, i32_neg, Option.bind_some, Option.bind_none]
    rw [rI_ok (by omega), show ((0 : Int)).toNat = 0 from rfl, hR.2.2.2.1]
    simp only [L0, L1, L2, L3, L4, L5, L6, L7, L8, L9, L10, L11, L12, L13, L15, L16, L20, L24, L31, L32, L40, L41, L48, L50, L57, L59, L63, L80, L81, L96, L97, L99, L100, L122, L144, L199, L255, L400, L1681, L68921, L1000000, i32_add, i32_sub, i32_mul, i32_neg, Option.bind_some, Option.bind_none]
    rw [if_pos ((i32_le (by omega)).mpr (by omega)), show i = cI S by omega]
    rfl
  | succ e ih =>
    intro n i M hR he hn
    obtain ⟨n, rfl⟩ : ∃ m, n = m + 1 := ⟨n - 1, by omega⟩
    have hi : i < cI S := by omega
    obtain ⟨q0, q1, q2, q3, q4⟩ := hS.2.2.2.2.2.1 i hi
    obtain ⟨M1, k1, k2, k3, k4⟩ := lookAs_M hS hR hi (cQd S i 4)
    obtain ⟨M2, l1, l2, l3, l4, l5⟩ := aheadOf_M hS k4 k2 (vw_q hS hi) (by omega) (r := cQd S i 3) (by omega) hp
    have E3 := qd_M hS k4 hi 3 (by decide)
    have E4 := qd_M hS hR hi 4 (by decide)
    rw [show ((3 : Nat) : Int) = 3 from rfl] at E3
    rw [show ((4 : Nat) : Int) = 4 from rfl] at E4
    obtain ⟨M', j1, j2, j3⟩ := ih n (i + 1) M2 l3 (by omega) (by omega)
    refine ⟨M', ?_, (k3.tr l2).tr j2, j3⟩
    have hB : fX5_manyTo_5L (n + 1) (i32 p) (i32 d) (i32 (fb_ct (fun i => bt (shD S d i) p) i)) (i32 i) M = (if inV S (cQd S i 0) (cQd S i 1) (cQd S i 2) (cQd S i 3) (cQd S i 4) p = true ∧ sA S (cQd S i 0) (cQd S i 1) (cQd S i 2) p (cQd S i 4) ≤ d ∧ hides S (cQd S i 0) (cQd S i 1) (cQd S i 2) (cQd S i 4) (sA S (cQd S i 0) (cQd S i 1) (cQd S i 2) p (cQd S i 4)) (sS S (cQd S i 0) (cQd S i 1) (cQd S i 2) p (cQd S i 4)) = 1 then fX5_manyTo_5L n (i32 p) (i32 d) (i32 ((fb_ct (fun i => bt (shD S d i) p) i : Int) + 1)) (i32 ((i + 1 : Nat) : Int)) M2 else fX5_manyTo_5L n (i32 p) (i32 d) (i32 (fb_ct (fun i => bt (shD S d i) p) i)) (i32 ((i + 1 : Nat) : Int)) M2) := by
      show fX5_manyTo_5B (fX5_manyTo_5L n) (i32 p) (i32 d) _ (i32 i) M = _
      unfold fX5_manyTo_5B
      simp only [L0, L1, L2, L3, L4, L5, L6, L7, L8, L9, L10, L11, L12, L13, L15, L16, L20, L24, L31, L32, L40, L41, L48, L50, L57, L59, L63, L80, L81, L96, L97, L99, L100, L122, L144, L199, L255, L400, L1681, L68921, L1000000, i32_add, i32_sub, i32_mul, i32_neg, Option.bind_some, Option.bind_none]
      rw [rI_ok (by omega), show ((0 : Int)).toNat = 0 from rfl, hR.2.2.2.1]
      simp only [L0, L1, L2, L3, L4, L5, L6, L7, L8, L9, L10, L11, L12, L13, L15, L16, L20, L24, L31, L32, L40, L41, L48, L50, L57, L59, L63, L80, L81, L96, L97, L99, L100, L122, L144, L199, L255, L400, L1681, L68921, L1000000, i32_add, i32_sub, i32_mul, i32_neg, Option.bind_some, Option.bind_none]
      rw [if_neg (fun q => absurd ((i32_le (by omega)).mp q) (by omega)), E4]
      simp only [Option.bind_some, Option.bind_none]
      rw [k1]
      simp only [Option.bind_some, Option.bind_none]
      rw [E3]
      simp only [Option.bind_some, Option.bind_none]
      rw [l1]
      unfold fX5_manyTo_81 fX5_manyTo_82
      simp only [L0, L1, L2, L3, L4, L5, L6, L7, L8, L9, L10, L11, L12, L13, L15, L16, L20, L24, L31, L32, L40, L41, L48, L50, L57, L59, L63, L80, L81, L96, L97, L99, L100, L122, L144, L199, L255, L400, L1681, L68921, L1000000, i32_add, i32_sub, i32_mul, i32_neg, Option.bind_some, Option.bind_none]
      rw [show (i : Int) + 1 = ((i + 1 : Nat) : Int) by omega, Int.add_zero]
      by_cases hin : inV S (cQd S i 0) (cQd S i 1) (cQd S i 2) (cQd S i 3) (cQd S i 4) p = true
      · obtain ⟨z1, z2, z3, z4, z5⟩ := (inV_iff (by omega)).mp hin
        rw [if_pos hin, if_neg (fun q => absurd ((i32_le (by omega)).mp q) (by omega))]
        by_cases hsd : sA S (cQd S i 0) (cQd S i 1) (cQd S i 2) p (cQd S i 4) ≤ d
        · rw [if_neg (fun q => absurd ((i32_lt (by omega)).mp q) (by omega)), l5 hin, hides_M hS l3 l4 (vw_q hS hi) (by omega) (by omega) (by omega)]
          simp only [Option.bind_some, Option.bind_none]
          have h3 := hides_3 S (cQd S i 0) (cQd S i 1) (cQd S i 2) (cQd S i 4) (sA S (cQd S i 0) (cQd S i 1) (cQd S i 2) p (cQd S i 4)) (sS S (cQd S i 0) (cQd S i 1) (cQd S i 2) p (cQd S i 4)) ((sA S (cQd S i 0) (cQd S i 1) (cQd S i 2) p (cQd S i 4)) - 1).toNat 1
          by_cases hh : hides S (cQd S i 0) (cQd S i 1) (cQd S i 2) (cQd S i 4) (sA S (cQd S i 0) (cQd S i 1) (cQd S i 2) p (cQd S i 4)) (sS S (cQd S i 0) (cQd S i 1) (cQd S i 2) p (cQd S i 4)) = 1
          · rw [if_pos (by rw [hh]), if_pos ⟨hin, hsd, hh⟩]
          · rw [if_neg (fun q => hh ((i32_inj (by unfold hides; omega)).mp q)), if_neg (fun q => hh q.2.2)]
        · rw [if_pos ((i32_lt (by omega)).mpr (by omega)), if_neg (fun q => hsd q.2.1)]
      · rw [if_neg hin, if_pos (by decide), if_neg (fun q => hin q.1)]
    rw [hB, ← j1, fb_ct_succ, bt_shD hS hp]
    by_cases hq : stF S (cQd S i 0) (cQd S i 1) (cQd S i 2) (mn d (cQd S i 3)) (cQd S i 4) p = 1
    · rw [if_pos ((stF_mn hS hi hd).mp hq), if_pos (decide_eq_true hq)]
      rfl
    · rw [if_neg (fun q => hq ((stF_mn hS hi hd).mpr q)), if_neg (by rw [decide_eq_false hq]; decide)]
      rfl
theorem many_M {S : Sc} {M : Mem} (hS : okS S) (hR : RM S M) {d : Int} (hd : 0 ≤ d ∧ d ≤ 9) {p : Nat} (hp : p < cP S) : ∃ M', fX5_manyTo (i32 p) (i32 d) M = some (i32 (mp S d p), M') ∧ Vm M M' ∧ RM S M' :=
  many_L hS hd hp (cI S) FU 0 M hR (by omega) (by have := hS.2.2.2.1; unfold FU; omega)
/-- everybody from p on -/
def gd (S : Sc) (d : Int) (k p : Nat) : Prop := ∀ q, p ≤ q → q < cP S → mp S d q ≤ k
theorem ruleI_L {S : Sc} (hS : okS S) {k : Nat} (hk : k ≤ 10) {d : Int} (hd : 1 ≤ d ∧ d ≤ 9) (f : Int32) (k16 : Int32 → Int32 → Int32 → Mem → Option (Int32 × Mem)) : ∀ (e n p : Nat) (M : Mem), RM S M → p + e = cP S → e < n → ∃ M', Vm M M' ∧ RM S M' ∧ ((gd S d k p → fX5_rule_39L k16 n (i32 k) f (i32 d) (i32 1) (i32 p) M = k16 (i32 k) (i32 d) (i32 (d + 1)) M') ∧ (¬ gd S d k p → fX5_rule_39L k16 n (i32 k) f (i32 d) (i32 1) (i32 p) M = k16 (i32 k) f (i32 (d + 1)) M')) := by
  have h8 := hS.2.2.1
  have hz : ∀ (n p : Nat) (M : Mem), RM S M → p ≤ cP S → fX5_rule_39L k16 (n + 1) (i32 k) f (i32 d) (i32 0) (i32 p) M = k16 (i32 k) f (i32 (d + 1)) M := by
    intro n p M hR hp
    show fX5_rule_39B k16 _ (i32 k) f (i32 d) (i32 0) (i32 p) M = _
    unfold fX5_rule_39B fX5_rule_79 fX5_rule_89
    simp only [L0, L1, L2, L3, L4, L5, L6, L7, L8, L9, L10, L11, L12, L13, L15, L16, L20, L24, L31, L32, L40, L41, L48, L50, L57, L59, L63, L80, L81, L96, L97, L99, L100, L122, L144, L199, L255, L400, L1681, L68921, L1000000, i32_add, i32_sub, i32_mul, i32_neg, Option.bind_some, Option.bind_none]
    rw [rI_ok (by omega), show ((0 : Int)).toNat = 0 from rfl, hR.2.2.1]
    simp only [L0, L1, L2, L3, L4, L5, L6, L7, L8, L9, L10, L11, L12, L13, L15, L16, L20, L24, L31, L32, L40, L41, L48, L50, L57, L59, L63, L80, L81, L96, L97, L99, L100, L122, L144, L199, L255, L400, L1681, L68921, L1000000, i32_add, i32_sub, i32_mul, i32_neg, Option.bind_some, Option.bind_none]
    simp only [if_true, ite_self]
  intro e
  induction e with
  | zero =>
    intro n p M hR he hn
    obtain ⟨n, rfl⟩ : ∃ m, n = m + 1 := ⟨n - 1, by omega⟩
    refine ⟨M, Vm.rf, hR, fun _ => ?_, fun q => absurd (fun r h1 h2 => by omega) q⟩
    show fX5_rule_39B k16 _ (i32 k) f (i32 d) (i32 1) (i32 p) M = _
    unfold fX5_rule_39B fX5_rule_79 fX5_rule_89
    simp only [L0, L1, L2, L3, L4, L5, L6, L7, L8, L9, L10, L11, L12, L13, L15, L16, L20, L24, L31, L32, L40, L41, L48, L50, L57, L59, L63, L80, L81, L96, L97, L99, L100, L122, L144, L199, L255, L400, L1681, L68921, L1000000, i32_add, i32_sub, i32_mul, i32_neg, Option.bind_some, Option.bind_none]
    rw [rI_ok (by omega), show ((0 : Int)).toNat = 0 from rfl, hR.2.2.1]
    simp only [L0, L1, L2, L3, L4, L5, L6, L7, L8, L9, L10, L11, L12, L13, L15, L16, L20, L24, L31, L32, L40, L41, L48, L50, L57, L59, L63, L80, L81, L96, L97, L99, L100, L122, L144, L199, L255, L400, L1681, L68921, L1000000, i32_add, i32_sub, i32_mul, i32_neg, Option.bind_some, Option.bind_none]
    rw [if_pos ((i32_le (by omega)).mpr (by omega)), if_neg (by decide)]
  | succ e ih =>
    intro n p M hR he hn
    obtain ⟨n, rfl⟩ : ∃ m, n = m + 1 := ⟨n - 1, by omega⟩
    obtain ⟨M1, g1, g2, g3⟩ := many_M hS hR (d := d) (by omega) (show p < cP S by omega)
    have hmp := mp_le hS d p
    have hstep : fX5_rule_39L k16 (n + 1) (i32 k) f (i32 d) (i32 1) (i32 p) M = if k < mp S d p then fX5_rule_39L k16 n (i32 k) f (i32 d) (i32 0) (i32 ((p + 1 : Nat) : Int)) M1 else fX5_rule_39L k16 n (i32 k) f (i32 d) (i32 1) (i32 ((p + 1 : Nat) : Int)) M1 := by
      show fX5_rule_39B k16 (fX5_rule_39L k16 n) (i32 k) f (i32 d) (i32 1) (i32 p) M = _
      unfold fX5_rule_39B
      simp only [L0, L1, L2, L3, L4, L5, L6, L7, L8, L9, L10, L11, L12, L13, L15, L16, L20, L24, L31, L32, L40, L41, L48, L50, L57, L59, L63, L80, L81, L96, L97, L99, L100, L122, L144, L199, L255, L400, L1681, L68921, L1000000, i32_add, i32_sub, i32_mul, i32_neg, Option.bind_some, Option.bind_none]
      rw [rI_ok (by omega), show ((0 : Int)).toNat = 0 from rfl, hR.2.2.1]
      simp only [L0, L1, L2, L3, L4, L5, L6, L7, L8, L9, L10, L11, L12, L13, L15, L16, L20, L24, L31, L32, L40, L41, L48, L50, L57, L59, L63, L80, L81, L96, L97, L99, L100, L122, L144, L199, L255, L400, L1681, L68921, L1000000, i32_add, i32_sub, i32_mul, i32_neg, Option.bind_some, Option.bind_none]
      rw [if_neg (fun q => absurd ((i32_le (by omega)).mp q) (by omega)), if_neg (by decide), g1]
      unfold fX5_rule_71
      simp only [L0, L1, L2, L3, L4, L5, L6, L7, L8, L9, L10, L11, L12, L13, L15, L16, L20, L24, L31, L32, L40, L41, L48, L50, L57, L59, L63, L80, L81, L96, L97, L99, L100, L122, L144, L199, L255, L400, L1681, L68921, L1000000, i32_add, i32_sub, i32_mul, i32_neg, Option.bind_some, Option.bind_none]
      rw [show (p : Int) + 1 = ((p + 1 : Nat) : Int) by omega]
      by_cases hq : k < mp S d p
      · rw [if_pos hq, if_pos ((i32_lt (by omega)).mpr (by omega))]
      · rw [if_neg hq, if_neg (fun q => hq (by have := (i32_lt (by omega)).mp q; omega))]
    rw [hstep]
    by_cases hq : k < mp S d p
    · rw [if_pos hq]
      refine ⟨M1, g2, g3, fun q => absurd (q p (Nat.le_refl _) (by omega)) (by omega), fun _ => ?_⟩
      obtain ⟨n, rfl⟩ : ∃ m, n = m + 1 := ⟨n - 1, by omega⟩
      exact hz n (p + 1) M1 g3 (by omega)
    · rw [if_neg hq]
      obtain ⟨M', v1, v2, v3, v4⟩ := ih n (p + 1) M1 g3 (by omega) (by omega)
      refine ⟨M', g2.tr v1, v2, fun q => v3 (fun r h1 h2 => q r (by omega) h2), fun q => v4 (fun z => q (fun r h1 h2 => ?_))⟩
      by_cases hr : r = p
      · subst hr; omega
      · exact z r (by omega) h2
def rM (S : Sc) (k : Nat) : Nat → Nat
  | 0 => 0
  | d + 1 => if rM S k d = d ∧ mxF S ((d + 1 : Nat) : Int) (cP S) ≤ k then d + 1 else rM S k d
theorem rM_le (S : Sc) (k : Nat) : ∀ d, rM S k d ≤ d
  | 0 => Nat.le_refl _
  | d + 1 => by
    have := rM_le S k d
    rw [show rM S k (d + 1) = if rM S k d = d ∧ mxF S ((d + 1 : Nat) : Int) (cP S) ≤ k then d + 1 else rM S k d from rfl]
    by_cases h : rM S k d = d ∧ mxF S ((d + 1 : Nat) : Int) (cP S) ≤ k
    · rw [if_pos h]; exact Nat.le_refl _
    · rw [if_neg h]; omega
theorem ruleM_L {S : Sc} (hS : okS S) {k : Nat} (hk : k ≤ 10) : ∀ (e n d : Nat) (M : Mem), RM S M → d + e = 9 → e < n → ∃ M', fX5_rule_16L n (i32 k) (i32 (rM S k d)) (i32 ((d : Int) + 1)) M = some (i32 (rM S k 9), M') ∧ Vm M M' := by
  have h8 := hS.2.2.1
  intro e
  induction e with
  | zero =>
    intro n d M hR he hn
    obtain ⟨n, rfl⟩ : ∃ m, n = m + 1 := ⟨n - 1, by omega⟩
    refine ⟨M, ?_, Vm.rf⟩
    show fX5_rule_16B _ (i32 k) _ (i32 ((d : Int) + 1)) M = _
    unfold fX5_rule_16B
    simp only [L0, L1, L2, L3, L4, L5, L6, L7, L8, L9, L10, L11, L12, L13, L15, L16, L20, L24, L31, L32, L40, L41, L48, L50, L57, L59, L63, L80, L81, L96, L97, L99, L100, L122, L144, L199, L255, L400, L1681, L68921, L1000000, i32_add, i32_sub, i32_mul, i32_neg, Option.bind_some, Option.bind_none]
    rw [if_pos ((i32_lt (by omega)).mpr (by omega)), show d = 9 by omega]
  | succ e ih =>
    intro n d M hR he hn
    obtain ⟨n, rfl⟩ : ∃ m, n = m + 1 := ⟨n - 1, by omega⟩
    have hle := rM_le S k d
    have hgd : gd S ((d + 1 : Nat) : Int) k 0 ↔ mxF S ((d + 1 : Nat) : Int) (cP S) ≤ k := by
      rw [mxF_iff]
      exact ⟨fun h p hp => h p (Nat.zero_le _) hp, fun h p _ hp => h p hp⟩
    obtain ⟨M1, v1, v2, v3, v4⟩ := ruleI_L hS hk (d := ((d + 1 : Nat) : Int)) (by omega) (i32 (rM S k d)) (fX5_rule_16L n) (cP S) FU 0 M hR (by omega) (by unfold FU; omega)
    have hz : fX5_rule_39L (fX5_rule_16L n) FU (i32 k) (i32 (rM S k d)) (i32 ((d + 1 : Nat) : Int)) (i32 0) (i32 0) M = fX5_rule_16L n (i32 k) (i32 (rM S k d)) (i32 (((d + 1 : Nat) : Int) + 1)) M := by
      show fX5_rule_39B (fX5_rule_16L n) _ (i32 k) _ _ (i32 0) (i32 0) M = _
      unfold fX5_rule_39B fX5_rule_79 fX5_rule_89
      simp only [L0, L1, L2, L3, L4, L5, L6, L7, L8, L9, L10, L11, L12, L13, L15, L16, L20, L24, L31, L32, L40, L41, L48, L50, L57, L59, L63, L80, L81, L96, L97, L99, L100, L122, L144, L199, L255, L400, L1681, L68921, L1000000, i32_add, i32_sub, i32_mul, i32_neg, Option.bind_some, Option.bind_none]
      rw [rI_ok (by omega), show ((0 : Int)).toNat = 0 from rfl, hR.2.2.1]
      simp only [L0, L1, L2, L3, L4, L5, L6, L7, L8, L9, L10, L11, L12, L13, L15, L16, L20, L24, L31, L32, L40, L41, L48, L50, L57, L59, L63, L80, L81, L96, L97, L99, L100, L122, L144, L199, L255, L400, L1681, L68921, L1000000, i32_add, i32_sub, i32_mul, i32_neg, Option.bind_some, Option.bind_none]
      simp only [if_true, ite_self]
    have hB : fX5_rule_16L (n + 1) (i32 k) (i32 (rM S k d)) (i32 ((d : Int) + 1)) M = if rM S k d = d then fX5_rule_39L (fX5_rule_16L n) FU (i32 k) (i32 (rM S k d)) (i32 ((d + 1 : Nat) : Int)) (i32 1) (i32 0) M else fX5_rule_39L (fX5_rule_16L n) FU (i32 k) (i32 (rM S k d)) (i32 ((d + 1 : Nat) : Int)) (i32 0) (i32 0) M := by
      show fX5_rule_16B (fX5_rule_16L n) (i32 k) _ (i32 ((d : Int) + 1)) M = _
      unfold fX5_rule_16B fX5_rule_34
      simp only [L0, L1, L2, L3, L4, L5, L6, L7, L8, L9, L10, L11, L12, L13, L15, L16, L20, L24, L31, L32, L40, L41, L48, L50, L57, L59, L63, L80, L81, L96, L97, L99, L100, L122, L144, L199, L255, L400, L1681, L68921, L1000000, i32_add, i32_sub, i32_mul, i32_neg, Option.bind_some, Option.bind_none]
      rw [if_neg (fun q => absurd ((i32_lt (by omega)).mp q) (by omega)), show (d : Int) + 1 = ((d + 1 : Nat) : Int) by omega, show ((d + 1 : Nat) : Int) - 1 = (d : Int) by omega]
      by_cases hq : rM S k d = d
      · rw [if_pos hq, if_pos (by rw [hq])]
      · rw [if_neg hq, if_neg (fun q => hq (by have := (i32_inj (by omega)).mp q; omega))]
    rw [hB]
    have hs : rM S k (d + 1) = if rM S k d = d ∧ mxF S ((d + 1 : Nat) : Int) (cP S) ≤ k then d + 1 else rM S k d := rfl
    by_cases hq : rM S k d = d
    · rw [if_pos hq]
      by_cases hg : mxF S ((d + 1 : Nat) : Int) (cP S) ≤ k
      · obtain ⟨M', k1, k2⟩ := ih n (d + 1) M1 v2 (by omega) (by omega)
        rw [hs, if_pos ⟨hq, hg⟩] at k1
        exact ⟨M', (v3 (hgd.mpr hg)).trans k1, v1.tr k2⟩
      · obtain ⟨M', k1, k2⟩ := ih n (d + 1) M1 v2 (by omega) (by omega)
        rw [hs, if_neg (fun z => hg z.2)] at k1
        exact ⟨M', (v4 (fun z => hg (hgd.mp z))).trans k1, v1.tr k2⟩
    · rw [if_neg hq, hz]
      obtain ⟨M', k1, k2⟩ := ih n (d + 1) M hR (by omega) (by omega)
      rw [hs, if_neg (fun z => hq z.1)] at k1
      exact ⟨M', k1, k2⟩
theorem mp_mono {S : Sc} (hS : okS S) {d : Int} (hd : 0 ≤ d ∧ d + 1 ≤ 9) {p : Nat} (hp : p < cP S) : mp S d p ≤ mp S (d + 1) p := by
  unfold mp
  apply fb_ct_sub
  intro i hi h
  rw [bt_shD hS hp, decide_eq_true_iff] at h ⊢
  obtain ⟨h1, h2, h3⟩ := (stF_mn hS hi (by omega)).mp h
  exact (stF_mn hS hi (by omega)).mpr ⟨h1, by omega, h3⟩
theorem rule_eq {S : Sc} (hS : okS S) (k : Nat) : ∀ d, d ≤ 9 → rM S k d = rC S k d
  | 0, _ => rfl
  | d + 1, hd => by
    have ih := rule_eq hS k d (by omega)
    have e1 : rM S k (d + 1) = if rM S k d = d ∧ mxF S ((d + 1 : Nat) : Int) (cP S) ≤ k then d + 1 else rM S k d := rfl
    have e2 : rC S k (d + 1) = if mxF S ((d + 1 : Nat) : Int) (cP S) ≤ k then d + 1 else rC S k d := rfl
    rw [e1, e2, ih]
    by_cases hg : mxF S ((d + 1 : Nat) : Int) (cP S) ≤ k
    · have : rC S k d = d := by
        cases d with
        | zero => rfl
        | succ d =>
          show (if _ then _ else _) = _
          rw [if_pos]
          rw [mxF_iff] at hg ⊢
          intro p hp
          have := mp_mono hS (d := ((d + 1 : Nat) : Int)) (by omega) hp
          have h2 := hg p hp
          rw [show ((d + 1 + 1 : Nat) : Int) = ((d + 1 : Nat) : Int) + 1 by omega] at h2
          omega
      rw [if_pos ⟨this, hg⟩, if_pos hg]
    · rw [if_neg (fun z => hg z.2), if_neg hg]
theorem rule_op {b : Nat} {S : Sc} {M : Mem} (hI : IC b S M) (hb : M.2.2 0 5 = b) (x : Int32) : ∃ v M1, fX4_rule x M = some (v, M1) ∧ QC b M M1 ∧ Cached b S M1 ∧ ∀ M2, RM S M2 → ∃ M3, fX5_rule x M2 = some (v, M3) ∧ Vm M2 M3 := by
  obtain ⟨hS, -, hR, hC, -⟩ := hI
  obtain ⟨x, hx, rfl⟩ := i32_ex x
  have hM0 : ∀ M2, RM S M2 → fX5_rule (i32 x) M2 = (if btw x 0 10 = true then fX5_rule_16L FU (i32 x) (i32 0) (i32 1) M2 else some (i32 (-1), M2)) := by
    intro M2 hM
    unfold fX5_rule
    simp only [L0, L1, L2, L3, L4, L5, L6, L7, L8, L9, L10, L11, L12, L13, L15, L16, L20, L24, L31, L32, L40, L41, L48, L50, L57, L59, L63, L80, L81, L96, L97, L99, L100, L122, L144, L199, L255, L400, L1681, L68921, L1000000, i32_add, i32_sub, i32_mul, i32_neg, Option.bind_some, Option.bind_none]
    rw [in_M (by omega)]
    simp only [L0, L1, L2, L3, L4, L5, L6, L7, L8, L9, L10, L11, L12, L13, L15, L16, L20, L24, L31, L32, L40, L41, L48, L50, L57, L59, L63, L80, L81, L96, L97, L99, L100, L122, L144, L199, L255, L400, L1681, L68921, L1000000, i32_add, i32_sub, i32_mul, i32_neg, Option.bind_some, Option.bind_none, ite_bI]
  unfold fX4_rule
  simp only [L0, L1, L2, L3, L4, L5, L6, L7, L8, L9, L10, L11, L12, L13, L15, L16, L20, L24, L31, L32, L40, L41, L48, L50, L57, L59, L63, L80, L81, L96, L97, L99, L100, L122, L144, L199, L255, L400, L1681, L68921, L1000000, i32_add, i32_sub, i32_mul, i32_neg, Option.bind_some, Option.bind_none]
  rw [isBetween_C (by omega)]
  simp only [L0, L1, L2, L3, L4, L5, L6, L7, L8, L9, L10, L11, L12, L13, L15, L16, L20, L24, L31, L32, L40, L41, L48, L50, L57, L59, L63, L80, L81, L96, L97, L99, L100, L122, L144, L199, L255, L400, L1681, L68921, L1000000, i32_add, i32_sub, i32_mul, i32_neg, Option.bind_some, Option.bind_none, ite_bI]
  cases h1 : btw x 0 10 with
  | false => exact ⟨_, _, rfl, QC.rf, hC, fun M2 hM => ⟨M2, by rw [hM0 M2 hM, h1]; rfl, Vm.rf⟩⟩
  | true =>
    obtain ⟨k, hk, rfl⟩ := nat_of (n := 11) h1
    obtain ⟨M1, g1, g2, g3⟩ := ruleC_L hS (k := k) (by omega) 9 FU M hR hC hb (by omega) (by unfold FU; omega)
    refine ⟨i32 (rC S k 9), M1, by rw [if_pos rfl]; exact g1, g3, g2, fun M2 hM => ?_⟩
    obtain ⟨M3, k1, k2⟩ := ruleM_L hS (k := k) (by omega) 9 FU 0 M2 hM (by omega) (by unfold FU; omega)
    refine ⟨M3, ?_, k2⟩
    rw [hM0 M2 hM, h1, if_pos rfl, ← rule_eq hS k 9 (by omega)]
    exact k1

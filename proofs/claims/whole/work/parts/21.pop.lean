/-! Counting bits: sets of people and of pictures; all, untrue. -/
def s10 (x : Int32) : Prop := ∀ i, 10 ≤ i → i < 32 → bt x i = false
def pcI (x : Int32) : Nat := fb_ct (fun i => bt x i) 10
set_option maxRecDepth 100000 in
theorem pop_all : ∀ n : Nat, n < 1024 → fJ6_bitCount_0f7a4 (nI n) = some (i32 (pcI (nI n))) ∧ fX5_bitsIn (nI n) = some (i32 (pcI (nI n))) := by decide +kernel
theorem s10_n {x : Int32} (h : s10 x) : ∃ n, n < 1024 ∧ x = nI n := by
  refine ⟨x.toBitVec.toNat, ?_, ?_⟩
  · show x.toBitVec.toNat < 2 ^ 10
    apply Nat.lt_pow_two_of_testBit
    intro i hi
    rcases Nat.lt_or_ge i 32 with q | q
    · exact h i hi q
    · exact Nat.testBit_lt_two_pow (Nat.lt_of_lt_of_le x.toBitVec.isLt (Nat.pow_le_pow_right (by decide) q))
  · apply Int32.toBitVec_inj.mp
    show x.toBitVec = BitVec.ofNat 32 x.toBitVec.toNat
    rw [BitVec.ofNat_toNat, BitVec.setWidth_eq]
theorem bitCount_C {x : Int32} (h : s10 x) : fJ6_bitCount_0f7a4 x = some (i32 (pcI x)) := by
  obtain ⟨n, hn, rfl⟩ := s10_n h
  exact (pop_all n hn).1
theorem bitsIn_M {x : Int32} (h : s10 x) : fX5_bitsIn x = some (i32 (pcI x)) := by
  obtain ⟨n, hn, rfl⟩ := s10_n h
  exact (pop_all n hn).2
theorem s10_acc {c : Nat → Bool} {n : Nat} (hn : n ≤ 10) : s10 (acc c n) := fun i h1 h2 => by rw [bt_acc (by omega) h2, decide_eq_false (by omega), Bool.false_and]
theorem s10_shP {S : Sc} (hS : okS S) (i : Nat) : s10 (shP S i) := s10_acc (by have := hS.2.2.1; omega)
theorem s10_and {x y : Int32} (h : s10 x) : s10 (x &&& y) := fun i h1 h2 => by rw [b_and, h i h1 h2, Bool.false_and]
theorem s10_xor {x y : Int32} (h : s10 x) (k : s10 y) : s10 (x ^^^ y) := fun i h1 h2 => by rw [b_xor, h i h1 h2, k i h1 h2]; rfl
theorem s10_set : ∀ n : Nat, n < 1024 → ∀ i, i < 32 → 10 ≤ i → bt (nI n) i = false := by
  intro n hn i hi h
  show (BitVec.ofNat 32 n).getLsbD i = false
  rw [BitVec.getLsbD_ofNat, decide_eq_true hi, Bool.true_and]
  exact Nat.testBit_lt_two_pow (Nat.lt_of_lt_of_le hn (Nat.pow_le_pow_right (show 0 < 2 by decide) h))
theorem pc_le (x : Int32) : pcI x ≤ 10 := fb_ct_le _ 10
theorem pc_8 {x : Int32} (h : ∀ i, 8 ≤ i → i < 32 → bt x i = false) : pcI x ≤ 8 := by
  have h1 : pcI x = fb_ct (fun i => bt x i) 8 := by
    unfold pcI
    rw [show (10 : Nat) = 8 + 2 from rfl, fb_ct_split, (fb_ct_zero (n := 2)).mpr, Nat.add_zero]
    intro k hk
    exact h (8 + k) (by omega) (by omega)
  rw [h1]; exact fb_ct_le _ 8
def gcdT (u v : Nat) : Bool := u == 0 || (v == 0 || (decide (fX4_greatestDivisor (nI u) (nI v) = fX5_common (nI u) (nI v)) && ((fX5_common (nI u) (nI v)).isSome && !decide ((fX5_common (nI u) (nI v)).getD 0 = 0))))
set_option maxRecDepth 100000 in
theorem gcd_T : ∀ u : Nat, u < 65 → ∀ v : Nat, v < 9 → gcdT u v = true := by decide +kernel
theorem gcd_all (u : Nat) (hu : u < 65) (v : Nat) (hv : v < 9) (h1 : 0 < u) (h2 : 0 < v) : fX4_greatestDivisor (nI u) (nI v) = fX5_common (nI u) (nI v) ∧ (fX5_common (nI u) (nI v)).isSome = true ∧ (fX5_common (nI u) (nI v)).getD 0 ≠ 0 := by
  have h := gcd_T u hu v hv
  unfold gcdT at h
  rw [Bool.or_eq_true, Bool.or_eq_true, Bool.and_eq_true, Bool.and_eq_true] at h
  rcases h with h | h | ⟨h3, h4, h5⟩
  · have := beq_iff_eq.mp h; omega
  · have := beq_iff_eq.mp h; omega
  · refine ⟨of_decide_eq_true h3, h4, ?_⟩
    intro q
    rw [decide_eq_true q] at h5
    cases h5
theorem bt_nx {x : Int32} {i : Nat} (hi : i < 32) : bt (x ^^^ (-1)) i = !bt x i := by rw [b_xor, b_m1 i hi, Bool.xor_true]
theorem hi_shP {S : Sc} (hS : okS S) (i : Nat) : ∀ j, 8 ≤ j → j < 32 → bt (shP S i) j = false := fun j h1 h2 => by
  have := hS.2.2.1
  unfold shP shS
  rw [bt_acc (by omega) h2, decide_eq_false (by omega), Bool.false_and]
theorem all_op {b : Nat} {S : Sc} {M : Mem} (hI : IC b S M) (hb : M.2.2 0 5 = b) (x y w : Int32) : ∃ v, fX4_all x y w M = some v ∧ ∀ M2, RM S M2 → ∃ M3, fX5_all x y w M2 = some (v, M3) ∧ Vm M2 M3 := by
  obtain ⟨hS, -, hR, hC, hSh⟩ := hI
  obtain ⟨x, hx, rfl⟩ := i32_ex x
  obtain ⟨y, hy, rfl⟩ := i32_ex y
  obtain ⟨w, hw, rfl⟩ := i32_ex w
  have h10 := hS.2.2.2.1
  have hM0 : ∀ M2, RM S M2 → fX5_all (i32 x) (i32 y) (i32 w) M2 = (if btw x 0 ((cI S : Int) - 1) = true then (if btw y 0 ((cI S : Int) - 1) = true then (if i32 x = i32 y then some (i32 (-1), M2) else (if btw w 0 1 = true then ((fX5_showsOf (i32 x) M2).bind fun v4 => (fX5_showsOf (i32 y) v4.2).bind fun v5 => (fX5_bitsIn (v4.1 &&& v5.1)).bind fun v6 => if v6 = i32 0 then some (i32 (-2), v5.2) else (fX5_bitsIn v4.1).bind fun v7 => (fX5_bitsIn v5.1).bind fun v8 => (fX5_common (v7 * v8) v6).bind fun v9 => if i32 w = i32 0 then (oD (v7 * v8) v9).bind fun v11 => some (v11, v5.2) else (oD v6 v9).bind fun v10 => some (v10, v5.2)) else some (i32 (-1), M2))) else some (i32 (-1), M2)) else some (i32 (-1), M2)) := by
    intro M2 hM
    unfold fX5_all
    simp only [L0, L1, L2, L3, L4, L5, L6, L7, L8, L9, L10, L11, L12, L13, L15, L16, L20, L24, L31, L32, L40, L41, L48, L50, L57, L59, L63, L80, L81, L96, L97, L99, L100, L122, L144, L199, L255, L400, L1681, L68921, L1000000, i32_add, i32_sub, i32_mul, i32_neg, Option.bind_some, Option.bind_none]
    rw [isPicture_M hS hM hx, isPicture_M hS hM hy, in_M (by omega)]
    simp only [L0, L1, L2, L3, L4, L5, L6, L7, L8, L9, L10, L11, L12, L13, L15, L16, L20, L24, L31, L32, L40, L41, L48, L50, L57, L59, L63, L80, L81, L96, L97, L99, L100, L122, L144, L199, L255, L400, L1681, L68921, L1000000, i32_add, i32_sub, i32_mul, i32_neg, Option.bind_some, Option.bind_none, ite_bI]
  have hC0 : fX4_all (i32 x) (i32 y) (i32 w) M = (if btw x 0 ((cI S : Int) - 1) = true then (if btw y 0 ((cI S : Int) - 1) = true then (if i32 x = i32 y then some (i32 (-1)) else (if btw w 0 1 = true then ((rI M (b + 6) 10 (i32 x)).bind fun v4 => (rI M (b + 6) 10 (i32 y)).bind fun v5 => (fJ6_bitCount_0f7a4 (v4 &&& v5)).bind fun v6 => if v6 = i32 0 then some (i32 (-2)) else (fJ6_bitCount_0f7a4 v4).bind fun v7 => (fJ6_bitCount_0f7a4 v5).bind fun v8 => (fX4_greatestDivisor (v7 * v8) v6).bind fun v9 => if i32 w = i32 0 then (oD (v7 * v8) v9).bind fun v11 => some v11 else (oD v6 v9).bind fun v10 => some v10) else some (i32 (-1)))) else some (i32 (-1))) else some (i32 (-1))) := by
    unfold fX4_all
    simp only [L0, L1, L2, L3, L4, L5, L6, L7, L8, L9, L10, L11, L12, L13, L15, L16, L20, L24, L31, L32, L40, L41, L48, L50, L57, L59, L63, L80, L81, L96, L97, L99, L100, L122, L144, L199, L255, L400, L1681, L68921, L1000000, i32_add, i32_sub, i32_mul, i32_neg, Option.bind_some, Option.bind_none]
    rw [hb, isPicture_C hS hR hx, isPicture_C hS hR hy, isBetween_C (by omega)]
    simp only [L0, L1, L2, L3, L4, L5, L6, L7, L8, L9, L10, L11, L12, L13, L15, L16, L20, L24, L31, L32, L40, L41, L48, L50, L57, L59, L63, L80, L81, L96, L97, L99, L100, L122, L144, L199, L255, L400, L1681, L68921, L1000000, i32_add, i32_sub, i32_mul, i32_neg, Option.bind_some, Option.bind_none, ite_bI]
  rw [hC0]
  cases h1 : btw x 0 ((cI S : Int) - 1) with
  | false => exact ⟨_, rfl, fun M2 hM => ⟨M2, by rw [hM0 M2 hM, h1]; rfl, Vm.rf⟩⟩
  | true =>
  cases h2 : btw y 0 ((cI S : Int) - 1) with
  | false => exact ⟨_, rfl, fun M2 hM => ⟨M2, by rw [hM0 M2 hM, h1, h2]; rfl, Vm.rf⟩⟩
  | true =>
  by_cases h3 : i32 x = i32 y
  · exact ⟨_, by rw [if_pos rfl, if_pos rfl, if_pos h3], fun M2 hM => ⟨M2, by rw [hM0 M2 hM, h1, h2, if_pos rfl, if_pos rfl, if_pos h3], Vm.rf⟩⟩
  cases h4 : btw w 0 1 with
  | false => exact ⟨_, by rw [if_pos rfl, if_pos rfl, if_neg h3]; rfl, fun M2 hM => ⟨M2, by rw [hM0 M2 hM, h1, h2, if_pos rfl, if_pos rfl, if_neg h3, h4]; rfl, Vm.rf⟩⟩
  | true =>
    obtain ⟨i, hi, rfl⟩ := nat_of h1
    obtain ⟨j, hj, rfl⟩ := nat_of h2
    have sI' := s10_shP hS i
    have sJ' := s10_shP hS j
    have hM1 : ∀ M2, RM S M2 → ∃ M3, Vm M2 M3 ∧ fX5_all (i32 i) (i32 j) (i32 w) M2 = (if i32 (pcI (shP S i &&& shP S j)) = i32 0 then some (i32 (-2), M3) else (fX5_common (i32 (pcI (shP S i)) * i32 (pcI (shP S j))) (i32 (pcI (shP S i &&& shP S j)))).bind fun v9 => if i32 w = i32 0 then (oD (i32 (pcI (shP S i)) * i32 (pcI (shP S j))) v9).bind fun v11 => some (v11, M3) else (oD (i32 (pcI (shP S i &&& shP S j))) v9).bind fun v10 => some (v10, M3)) := by
      intro M2 hM
      obtain ⟨M3, k1, k2, k3⟩ := showsOf_M hS hM hi
      obtain ⟨M4, l1, l2, l3⟩ := showsOf_M hS k3 hj
      refine ⟨M4, k2.tr l2, ?_⟩
      rw [hM0 M2 hM, h1, h2, if_pos rfl, if_pos rfl, if_neg h3, h4, if_pos rfl, k1]
      simp only [Option.bind_some, Option.bind_none]
      rw [l1]
      simp only [Option.bind_some, Option.bind_none]
      rw [bitsIn_M (s10_and sI'), bitsIn_M sI', bitsIn_M sJ']
      simp only [Option.bind_some, Option.bind_none]
    rw [if_pos rfl, if_pos rfl, if_neg h3, if_pos rfl, rI_ok (by omega), rI_ok (by omega), show ((i : Int)).toNat = i by omega, show ((j : Int)).toNat = j by omega, hSh i hi, hSh j hj]
    simp only [Option.bind_some, Option.bind_none]
    rw [bitCount_C (s10_and sI'), bitCount_C sI', bitCount_C sJ']
    simp only [Option.bind_some, Option.bind_none]
    have p1 := pc_8 (hi_shP hS i)
    have p2 := pc_8 (hi_shP hS j)
    have p3 : pcI (shP S i &&& shP S j) ≤ pcI (shP S i) := fb_ct_sub (fun k _ hk => by rw [b_and, Bool.and_eq_true] at hk; exact hk.1)
    have p4 : pcI (shP S i &&& shP S j) ≤ pcI (shP S j) := fb_ct_sub (fun k _ hk => by rw [b_and, Bool.and_eq_true] at hk; exact hk.2)
    by_cases hz : pcI (shP S i &&& shP S j) = 0
    · refine ⟨i32 (-2), by rw [if_pos (by rw [hz]; rfl)], fun M2 hM => ?_⟩
      obtain ⟨M3, m1, m2⟩ := hM1 M2 hM
      exact ⟨M3, by rw [m2, if_pos (by rw [hz]; rfl)], m1⟩
    · have hz' : ¬ i32 (pcI (shP S i &&& shP S j) : Int) = i32 0 := fun q => hz (by have := (i32_inj (by omega)).mp q; omega)
      have hprod : pcI (shP S i) * pcI (shP S j) ≤ 8 * 8 := Nat.mul_le_mul p1 p2
      have hpos : 0 < pcI (shP S i) * pcI (shP S j) := Nat.mul_pos (by omega) (by omega)
      obtain ⟨g1, g2, g3⟩ := gcd_all (pcI (shP S i) * pcI (shP S j)) (by omega) (pcI (shP S i &&& shP S j)) (by omega) hpos (by omega)
      have em : i32 (pcI (shP S i) : Int) * i32 (pcI (shP S j) : Int) = nI (pcI (shP S i) * pcI (shP S j)) := by rw [i32_mul, ← Int.natCast_mul]; rfl
      rw [if_neg hz', em, i32_nI, g1]
      obtain ⟨g, hg⟩ := Option.isSome_iff_exists.mp g2
      rw [hg] at g3
      have g0 : ¬ g = 0 := g3
      rw [hg]
      simp only [Option.bind_some, Option.bind_none]
      unfold oD
      rw [if_neg g0, if_neg g0]
      simp only [Option.bind_some, Option.bind_none]
      refine ⟨if i32 w = i32 0 then nI (pcI (shP S i) * pcI (shP S j)) / g else nI (pcI (shP S i &&& shP S j)) / g, by split <;> rfl, fun M2 hM => ?_⟩
      obtain ⟨M3, m1, m2⟩ := hM1 M2 hM
      refine ⟨M3, ?_, m1⟩
      rw [m2, if_neg hz', em, i32_nI, hg]
      simp only [Option.bind_some, Option.bind_none]
      unfold oD
      rw [if_neg g0, if_neg g0]
      simp only [Option.bind_some, Option.bind_none]
      split <;> rfl
theorem untrue_op {b : Nat} {S : Sc} {M : Mem} (hI : IC b S M) (hb : M.2.2 0 5 = b) (x y : Int32) : ∃ v, fX4_untrue x y M = some v ∧ ∀ M2, RM S M2 → ∃ M3, fX5_untrue x y M2 = some (v, M3) ∧ Vm M2 M3 := by
  obtain ⟨hS, -, hR, hC, hSh⟩ := hI
  obtain ⟨x, hx, rfl⟩ := i32_ex x
  obtain ⟨y, hy, rfl⟩ := i32_ex y
  have h10 := hS.2.2.2.1
  have hM0 : ∀ M2, RM S M2 → fX5_untrue (i32 x) (i32 y) M2 = (if btw x 0 ((cI S : Int) - 1) = true then (if btw y 0 ((2 : Int) ^ cP S - 1) = true then ((fX5_showsOf (i32 x) M2).bind fun v3 => (fX5_bitsIn (i32 y &&& (v3.1 ^^^ (-1)))).bind fun v4 => (fX5_bitsIn (v3.1 &&& (i32 y ^^^ (-1)))).bind fun v5 => some (v4 + v5, v3.2)) else some (-1, M2)) else some (-1, M2)) := by
    intro M2 hM
    unfold fX5_untrue
    rw [isPicture_M hS hM hx, isSet_M hS hM hy]
    simp only [Option.bind_some, Option.bind_none, show (0 : Int32) = i32 0 from L0, ite_bI]
  have hC0 : fX4_untrue (i32 x) (i32 y) M = (if btw x 0 ((cI S : Int) - 1) = true then (if btw y 0 ((2 : Int) ^ cP S - 1) = true then ((rI M (b + 6) 10 (i32 x)).bind fun v3 => (fJ6_bitCount_0f7a4 (v3 ^^^ i32 y)).bind fun v4 => some v4) else some (-1)) else some (-1)) := by
    unfold fX4_untrue
    rw [hb, isPicture_C hS hR hx, isSet_C hS hR hy]
    simp only [Option.bind_some, Option.bind_none, show (0 : Int32) = i32 0 from L0, ite_bI]
  rw [hC0]
  cases h1 : btw x 0 ((cI S : Int) - 1) with
  | false => exact ⟨_, rfl, fun M2 hM => ⟨M2, by rw [hM0 M2 hM, h1]; rfl, Vm.rf⟩⟩
  | true =>
  cases h2 : btw y 0 ((2 : Int) ^ cP S - 1) with
  | false => exact ⟨_, rfl, fun M2 hM => ⟨M2, by rw [hM0 M2 hM, h1, h2]; rfl, Vm.rf⟩⟩
  | true =>
    obtain ⟨i, hi, rfl⟩ := nat_of h1
    have b2 := btw_t h2
    have s8 := sh8 (cP S) hS.2.2.1
    have sI' := s10_shP hS i
    have sY : s10 (i32 y) := by
      have : i32 y = nI y.toNat := by rw [← i32_nI]; congr 1; omega
      rw [this]
      exact fun k h1 h2 => s10_set y.toNat (by omega) k h2 h1
    refine ⟨i32 (pcI (shP S i ^^^ i32 y)), ?_, fun M2 hM => ?_⟩
    · rw [if_pos rfl, if_pos rfl, rI_ok (by omega), show ((i : Int)).toNat = i by omega, hSh i hi]
      simp only [Option.bind_some, Option.bind_none]
      rw [bitCount_C (s10_xor sI' sY)]
      rfl
    · obtain ⟨M3, k1, k2, k3⟩ := showsOf_M hS hM hi
      refine ⟨M3, ?_, k2⟩
      rw [hM0 M2 hM, h1, h2, if_pos rfl, if_pos rfl, k1]
      simp only [Option.bind_some, Option.bind_none]
      rw [bitsIn_M (s10_and sY), bitsIn_M (s10_and sI')]
      simp only [Option.bind_some, Option.bind_none, i32_add]
      congr 3
      have : pcI (shP S i ^^^ i32 y) = pcI (i32 y &&& (shP S i ^^^ -1)) + pcI (shP S i &&& (i32 y ^^^ -1)) := by
        unfold pcI
        rw [← fb_ct_or]
        · apply fb_ct_cong
          intro k hk
          rw [b_xor, b_and, b_and, bt_nx (by omega), bt_nx (by omega)]
          cases bt (shP S i) k <;> cases bt (i32 y) k <;> rfl
        · intro k hk
          rw [b_and, b_and, bt_nx (by omega), bt_nx (by omega)]
          cases bt (shP S i) k <;> cases bt (i32 y) k <;> decide
      rw [this]
      omega

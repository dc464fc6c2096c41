/-! Bits of a long; how many there are. -/
def bl (x : Int64) (i : Nat) : Bool := x.toBitVec.getLsbD i
theorem bl_ext {x y : Int64} (h : ∀ i, i < 64 → bl x i = bl y i) : x = y := Int64.toBitVec_inj.mp (BitVec.eq_of_getLsbD_eq (fun i hi => h i hi))
theorem bl_or (x y : Int64) (i : Nat) : bl (x ||| y) i = (bl x i || bl y i) := by unfold bl; rw [Int64.toBitVec_or, BitVec.getLsbD_or]
theorem bl_and (x y : Int64) (i : Nat) : bl (x &&& y) i = (bl x i && bl y i) := by unfold bl; rw [Int64.toBitVec_and, BitVec.getLsbD_and]
theorem bl_xor (x y : Int64) (i : Nat) : bl (x ^^^ y) i = (bl x i ^^ bl y i) := by unfold bl; rw [Int64.toBitVec_xor, BitVec.getLsbD_xor]
theorem bl_0 (i : Nat) : bl 0 i = false := BitVec.getLsbD_zero
theorem bl_m1 : ∀ i, i < 64 → bl (-1) i = true := by decide +kernel
theorem bl_nx {x : Int64} {i : Nat} (hi : i < 64) : bl (x ^^^ (-1)) i = !bl x i := by rw [bl_xor, bl_m1 i hi, Bool.xor_true]
def bitL (k : Nat) : Int64 := 1 <<< ((i32 (k : Int)).toInt64 &&& 63)
theorem bl_bitL : ∀ k, k < 64 → ∀ i, i < 64 → bl (bitL k) i = decide (i = k) := by decide +kernel
/-- digits of 256 -/
def dig : List Nat → Nat
  | [] => 0
  | b :: l => b + 256 * dig l
theorem tb_dig {a b : Nat} (ha : a < 256) (i : Nat) : (a + 256 * b).testBit i = if i < 8 then a.testBit i else b.testBit (i - 8) := by
  rw [Nat.add_comm, show (256 : Nat) = 2 ^ 8 from rfl, Nat.testBit_two_pow_mul_add _ ha]
theorem and_2 {a c : Nat} (b d : Nat) (ha : a < 256) (hc : c < 256) : (a + 256 * b) &&& (c + 256 * d) = (a &&& c) + 256 * (b &&& d) := by
  apply Nat.eq_of_testBit_eq
  intro i
  have hac : a &&& c < 256 := Nat.lt_of_le_of_lt Nat.and_le_left ha
  rw [Nat.testBit_and, tb_dig ha, tb_dig hc, tb_dig hac, Nat.testBit_and, Nat.testBit_and]
  by_cases h : i < 8
  · rw [if_pos h, if_pos h, if_pos h]
  · rw [if_neg h, if_neg h, if_neg h]
theorem shm_2 {a c s : Nat} (b d : Nat) (ha : a < 256) (hs : s ≤ 8) (hc : c < 2 ^ (8 - s)) : ((a + 256 * b) >>> s) &&& (c + 256 * d) = ((a >>> s) &&& c) + 256 * ((b >>> s) &&& d) := by
  have hc2 : c < 256 := Nat.lt_of_lt_of_le hc (Nat.pow_le_pow_right (n := 2) (by decide) (show 8 - s ≤ 8 by omega))
  apply Nat.eq_of_testBit_eq
  intro i
  have hac : (a >>> s) &&& c < 256 := Nat.lt_of_le_of_lt Nat.and_le_right hc2
  rw [Nat.testBit_and, tb_dig hc2, tb_dig hac, Nat.testBit_and, Nat.testBit_and, Nat.testBit_shiftRight, Nat.testBit_shiftRight, Nat.testBit_shiftRight, tb_dig ha]
  by_cases h : i < 8
  · rw [if_pos h, if_pos h]
    by_cases q : s + i < 8
    · rw [if_pos q]
    · have : c.testBit i = false := Nat.testBit_lt_two_pow (Nat.lt_of_lt_of_le hc (Nat.pow_le_pow_right (by decide) (by omega)))
      rw [this, Bool.and_false, Bool.and_false]
  · rw [if_neg h, if_neg h, if_neg (by omega), show s + i - 8 = s + (i - 8) by omega]
theorem and_dig {c : Nat} (hc : c < 256) : ∀ l : List Nat, (∀ b ∈ l, b < 256) → dig l &&& dig (l.map fun _ => c) = dig (l.map fun b => b &&& c)
  | [], _ => by show 0 &&& 0 = 0; rfl
  | b :: l, h => by
    show (b + 256 * dig l) &&& (c + 256 * dig (l.map fun _ => c)) = _
    rw [and_2 _ _ (h b (List.mem_cons_self ..)) hc, and_dig hc l (fun x hx => h x (List.mem_cons_of_mem _ hx))]
    rfl
theorem shm_dig {c s : Nat} (hs : s ≤ 8) (hc : c < 2 ^ (8 - s)) : ∀ l : List Nat, (∀ b ∈ l, b < 256) → (dig l >>> s) &&& dig (l.map fun _ => c) = dig (l.map fun b => (b >>> s) &&& c)
  | [], _ => by show (0 >>> s) &&& 0 = 0; rw [Nat.and_zero]
  | b :: l, h => by
    show ((b + 256 * dig l) >>> s) &&& (c + 256 * dig (l.map fun _ => c)) = _
    rw [shm_2 _ _ (h b (List.mem_cons_self ..)) hs hc, shm_dig hs hc l (fun x hx => h x (List.mem_cons_of_mem _ hx))]
    rfl
theorem dig_add (g h : Nat → Nat) : ∀ l : List Nat, dig (l.map g) + dig (l.map h) = dig (l.map fun b => g b + h b)
  | [] => rfl
  | b :: l => by
    have := dig_add g h l
    show (g b + 256 * dig (l.map g)) + (h b + 256 * dig (l.map h)) = (g b + h b) + 256 * dig (l.map fun b => g b + h b)
    omega
theorem dig_cong {g h : Nat → Nat} : ∀ l : List Nat, (∀ b ∈ l, g b = h b) → dig (l.map g) = dig (l.map h)
  | [], _ => rfl
  | b :: l, e => by
    show g b + 256 * dig (l.map g) = h b + 256 * dig (l.map h)
    rw [e b (List.mem_cons_self ..), dig_cong l (fun x hx => e x (List.mem_cons_of_mem _ hx))]
theorem dig_16 : ∀ l : List Nat, (∀ d ∈ l, d % 16 ≤ 4 ∧ d / 16 ≤ 4) → (dig l + dig l / 16) &&& dig (l.map fun _ => 15) = dig (l.map fun d => (d + d / 16) % 16) ∧ dig l % 16 ≤ 4
  | [], _ => ⟨by show (0 + 0 / 16) &&& 0 = 0; rfl, by decide⟩
  | d :: l, h => by
    obtain ⟨h1, h2⟩ := h d (List.mem_cons_self ..)
    obtain ⟨i1, i2⟩ := dig_16 l (fun x hx => h x (List.mem_cons_of_mem _ hx))
    refine ⟨?_, ?_⟩
    · have e : dig (d :: l) + dig (d :: l) / 16 = (d + d / 16 + 16 * (dig l % 16)) + 256 * (dig l + dig l / 16) := by
        show (d + 256 * dig l) + (d + 256 * dig l) / 16 = _
        omega
      rw [e]
      show (d + d / 16 + 16 * (dig l % 16)) + 256 * (dig l + dig l / 16) &&& (15 + 256 * dig (l.map fun _ => 15)) = (d + d / 16) % 16 + 256 * dig (l.map fun d => (d + d / 16) % 16)
      rw [and_2 _ _ (by omega) (by decide), i1, show (15 : Nat) = 2 ^ 4 - 1 from rfl, Nat.and_two_pow_sub_one_eq_mod]
      omega
    · show (d + 256 * dig l) % 16 ≤ 4
      omega
def kc1 (b : Nat) : Nat := b - ((b >>> 1) &&& 85)
def kc2 (b : Nat) : Nat := (kc1 b &&& 51) + ((kc1 b >>> 2) &&& 51)
def kc3 (b : Nat) : Nat := (kc2 b + kc2 b / 16) % 16
theorem c_all : ∀ b, b < 256 → ((b >>> 1) &&& 85 ≤ b ∧ kc1 b < 256) ∧ (kc2 b % 16 ≤ 4 ∧ kc2 b / 16 ≤ 4) ∧ kc3 b = fb_ct (fun i => b.testBit i) 8 := by decide +kernel
def sumL : List Nat → Nat
  | [] => 0
  | b :: l => b + sumL l
theorem ct_dig : ∀ l : List Nat, (∀ b ∈ l, b < 256) → fb_ct (fun i => (dig l).testBit i) (8 * l.length) = sumL (l.map kc3)
  | [], _ => rfl
  | b :: l, h => by
    have hb := h b (List.mem_cons_self ..)
    have ih := ct_dig l (fun x hx => h x (List.mem_cons_of_mem _ hx))
    show fb_ct (fun i => (b + 256 * dig l).testBit i) (8 * (l.length + 1)) = kc3 b + sumL (l.map kc3)
    rw [show 8 * (l.length + 1) = 8 + 8 * l.length by omega, fb_ct_split, ← ih, (c_all b hb).2.2]
    congr 1
    · refine fb_ct_cong fun k hk => ?_
      rw [tb_dig hb, if_pos hk]
    · refine fb_ct_cong fun k hk => ?_
      rw [tb_dig hb, if_neg (by omega), show 8 + k - 8 = k by omega]
/-- the word's way, in whole numbers -/
def w1 (n : Nat) : Nat := n - ((n >>> 1) &&& 6148914691236517205)
def w2 (n : Nat) : Nat := (w1 n &&& 3689348814741910323) + ((w1 n >>> 2) &&& 3689348814741910323)
def w3 (n : Nat) : Nat := (w2 n + w2 n >>> 4) &&& 1085102592571150095
theorem w3_dig {l : List Nat} (hl : l.length = 8) (h : ∀ b ∈ l, b < 256) : w3 (dig l) = dig (l.map kc3) ∧ w1 (dig l) ≤ dig l ∧ (dig l >>> 1) &&& 6148914691236517205 ≤ dig l := by
  have r : ∀ c, dig (l.map fun _ => c) = dig [c, c, c, c, c, c, c, c] := fun c => by
    match l, hl with
    | [_, _, _, _, _, _, _, _], _ => rfl
  have m85 : (6148914691236517205 : Nat) = dig (l.map fun _ => 85) := by rw [r]; rfl
  have m51 : (3689348814741910323 : Nat) = dig (l.map fun _ => 51) := by rw [r]; rfl
  have m15 : (1085102592571150095 : Nat) = dig (l.map fun _ => 15) := by rw [r]; rfl
  have e0 : dig (l.map fun b => (b >>> 1) &&& 85) + dig (l.map kc1) = dig l := by
    rw [dig_add]
    have := dig_cong (g := fun b => ((b >>> 1) &&& 85) + kc1 b) (h := fun b => b) l (fun b hb => by
      have := (c_all b (h b hb)).1.1
      unfold kc1
      omega)
    rw [this, List.map_id' ]
  have e1 : (dig l >>> 1) &&& 6148914691236517205 = dig (l.map fun b => (b >>> 1) &&& 85) := by
    rw [m85, shm_dig (by decide) (by decide) l h]
  have e2 : w1 (dig l) = dig (l.map kc1) := by
    unfold w1
    rw [e1]
    omega
  have h1 : ∀ b ∈ l.map kc1, b < 256 := fun b hb => by
    obtain ⟨a, ha, rfl⟩ := List.mem_map.mp hb
    exact (c_all a (h a ha)).1.2
  have mm : ∀ c, dig (l.map fun _ => c) = dig ((l.map kc1).map fun _ => c) := fun c => by rw [List.map_map]; rfl
  have e3 : w2 (dig l) = dig (l.map kc2) := by
    unfold w2
    rw [e2, m51, mm, and_dig (by decide) _ h1, shm_dig (by decide) (by decide) _ h1, dig_add, List.map_map]
    rfl
  have h2 : ∀ d ∈ l.map kc2, d % 16 ≤ 4 ∧ d / 16 ≤ 4 := fun b hb => by
    obtain ⟨a, ha, rfl⟩ := List.mem_map.mp hb
    exact (c_all a (h a ha)).2.1
  have mm2 : dig (l.map fun _ => 15) = dig ((l.map kc2).map fun _ => 15) := by rw [List.map_map]; rfl
  refine ⟨?_, by rw [e2]; omega, by rw [e1]; omega⟩
  unfold w3
  rw [e3, m15, mm2, show dig (l.map kc2) >>> 4 = dig (l.map kc2) / 16 from Nat.shiftRight_eq_div_pow _ 4, (dig_16 _ h2).1, List.map_map]
  rfl
theorem c3_le {b : Nat} (h : b < 256) : kc3 b ≤ 8 := by rw [(c_all b h).2.2]; exact fb_ct_le _ 8
def w4 (n : Nat) : Nat := w3 n + w3 n >>> 8
def w5 (n : Nat) : Nat := w4 n + w4 n >>> 16
def w6 (n : Nat) : Nat := w5 n + w5 n >>> 32
theorem w6_dig {l : List Nat} (hl : l.length = 8) (h : ∀ b ∈ l, b < 256) : w6 (dig l) % 128 = sumL (l.map kc3) ∧ w6 (dig l) < 2 ^ 64 ∧ w5 (dig l) < 2 ^ 64 ∧ w4 (dig l) < 2 ^ 64 ∧ w3 (dig l) < 2 ^ 60 := by
  have e := (w3_dig hl h).1
  match l, hl with
  | [b0, b1, b2, b3, b4, b5, b6, b7], _ =>
    have g0 := c3_le (h b0 (by simp))
    have g1 := c3_le (h b1 (by simp))
    have g2 := c3_le (h b2 (by simp))
    have g3 := c3_le (h b3 (by simp))
    have g4 := c3_le (h b4 (by simp))
    have g5 := c3_le (h b5 (by simp))
    have g6 := c3_le (h b6 (by simp))
    have g7 := c3_le (h b7 (by simp))
    have e' : w3 (dig [b0, b1, b2, b3, b4, b5, b6, b7]) = kc3 b0 + 256 * (kc3 b1 + 256 * (kc3 b2 + 256 * (kc3 b3 + 256 * (kc3 b4 + 256 * (kc3 b5 + 256 * (kc3 b6 + 256 * (kc3 b7 + 256 * 0))))))) := e
    have s : sumL ([b0, b1, b2, b3, b4, b5, b6, b7].map kc3) = kc3 b0 + (kc3 b1 + (kc3 b2 + (kc3 b3 + (kc3 b4 + (kc3 b5 + (kc3 b6 + (kc3 b7 + 0))))))) := rfl
    have d4 : w4 (dig [b0, b1, b2, b3, b4, b5, b6, b7]) = w3 (dig [b0, b1, b2, b3, b4, b5, b6, b7]) + w3 (dig [b0, b1, b2, b3, b4, b5, b6, b7]) / 256 := by unfold w4; rw [Nat.shiftRight_eq_div_pow]
    have d5 : w5 (dig [b0, b1, b2, b3, b4, b5, b6, b7]) = w4 (dig [b0, b1, b2, b3, b4, b5, b6, b7]) + w4 (dig [b0, b1, b2, b3, b4, b5, b6, b7]) / 65536 := by unfold w5; rw [Nat.shiftRight_eq_div_pow]
    have d6 : w6 (dig [b0, b1, b2, b3, b4, b5, b6, b7]) = w5 (dig [b0, b1, b2, b3, b4, b5, b6, b7]) + w5 (dig [b0, b1, b2, b3, b4, b5, b6, b7]) / 4294967296 := by unfold w6; rw [Nat.shiftRight_eq_div_pow]
    rw [s]
    generalize w3 (dig [b0, b1, b2, b3, b4, b5, b6, b7]) = z3 at *
    generalize w4 (dig [b0, b1, b2, b3, b4, b5, b6, b7]) = z4 at *
    generalize w5 (dig [b0, b1, b2, b3, b4, b5, b6, b7]) = z5 at *
    generalize w6 (dig [b0, b1, b2, b3, b4, b5, b6, b7]) = z6 at *
    generalize kc3 b0 = y0 at *
    generalize kc3 b1 = y1 at *
    generalize kc3 b2 = y2 at *
    generalize kc3 b3 = y3 at *
    generalize kc3 b4 = y4 at *
    generalize kc3 b5 = y5 at *
    generalize kc3 b6 = y6 at *
    generalize kc3 b7 = y7 at *
    have k4 : z4 = (y0 + y1) + 256 * ((y1 + y2) + 256 * ((y2 + y3) + 256 * ((y3 + y4) + 256 * ((y4 + y5) + 256 * ((y5 + y6) + 256 * ((y6 + y7) + 256 * y7)))))) := by omega
    have k5 : z5 = (y0 + y1 + y2 + y3) + 256 * ((y1 + y2 + y3 + y4) + 256 * ((y2 + y3 + y4 + y5) + 256 * ((y3 + y4 + y5 + y6) + 256 * ((y4 + y5 + y6 + y7) + 256 * ((y5 + y6 + y7) + 256 * ((y6 + y7) + 256 * y7)))))) := by omega
    have k6 : z6 = (y0 + y1 + y2 + y3 + y4 + y5 + y6 + y7) + 256 * ((y1 + y2 + y3 + y4 + y5 + y6 + y7) + 256 * ((y2 + y3 + y4 + y5 + y6 + y7) + 256 * ((y3 + y4 + y5 + y6 + y7) + 256 * ((y4 + y5 + y6 + y7) + 256 * ((y5 + y6 + y7) + 256 * ((y6 + y7) + 256 * y7)))))) := by omega
    refine ⟨?_, ?_, ?_, ?_, ?_⟩ <;> omega

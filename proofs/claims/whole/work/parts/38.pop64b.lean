theorem lN_tn {a : Nat} (h : a < 2 ^ 64) : (lN a).toBitVec.toNat = a := by
  show (BitVec.ofNat 64 a).toNat = a
  rw [BitVec.toNat_ofNat]; exact Nat.mod_eq_of_lt h
theorem lN_of (x : Int64) : x = lN x.toBitVec.toNat := by
  apply Int64.toBitVec_inj.mp
  show x.toBitVec = BitVec.ofNat 64 x.toBitVec.toNat
  rw [BitVec.ofNat_toNat, BitVec.setWidth_eq]
theorem lN_subN {a b : Nat} (h : b ≤ a) (ha : a < 2 ^ 64) : lN a - lN b = lN (a - b) := by
  apply Int64.toBitVec_inj.mp
  rw [Int64.toBitVec_sub]
  apply BitVec.eq_of_toNat_eq
  rw [BitVec.toNat_sub, lN_tn ha, lN_tn (by omega), lN_tn (by omega)]
  omega
theorem lN_addN (a b : Nat) : lN a + lN b = lN (a + b) := by
  apply Int64.toBitVec_inj.mp
  rw [Int64.toBitVec_add]
  show BitVec.ofNat 64 a + BitVec.ofNat 64 b = BitVec.ofNat 64 (a + b)
  rw [BitVec.ofNat_add]
theorem lN_shr {a : Nat} (ha : a < 2 ^ 64) (k : UInt64) : ((lN a).toUInt64 >>> k).toInt64 = lN (a >>> (k.toNat % 64)) := by
  apply Int64.toBitVec_inj.mp
  apply BitVec.eq_of_toNat_eq
  have h1 : a >>> (k.toNat % 64) < 2 ^ 64 := Nat.lt_of_le_of_lt (Nat.shiftRight_le _ _) ha
  rw [lN_tn h1]
  show ((lN a).toUInt64 >>> k).toNat = _
  rw [UInt64.toNat_shiftRight]
  show (lN a).toBitVec.toNat >>> _ = _
  rw [lN_tn ha]
theorem bt_lN {z : Nat} {i : Nat} (hi : i < 32) : bt ((lN z).toInt32) i = z.testBit i := by
  unfold bt
  show ((BitVec.ofNat 64 z).signExtend 32).getLsbD i = _
  rw [BitVec.getLsbD_signExtend, if_pos (by omega), BitVec.getLsbD_ofNat, decide_eq_true (show i < 64 by omega), decide_eq_true hi, Bool.true_and, Bool.true_and]
theorem lN_127 (z : Nat) : (lN z).toInt32 &&& 127 = i32 ((z % 128 : Nat) : Int) := by
  apply b_ext
  intro i hi
  rw [b_and, bt_lN hi, i32_nI, bt_nI hi, show (128 : Nat) = 2 ^ 7 from rfl, Nat.testBit_mod_two_pow, show (127 : Int32) = nI 127 from rfl, bt_nI hi, show (127 : Nat) = 2 ^ 7 - 1 from rfl, Nat.testBit_two_pow_sub_one, Bool.and_comm]
def ush (x : Int64) (k : Int32) : Int64 := (x.toUInt64 >>> (k.toInt64.toUInt64 &&& Int64.toUInt64 63)).toInt64
def v1 (x : Int64) : Int64 := x - (ush x 1 &&& 6148914691236517205)
def v2 (x : Int64) : Int64 := (v1 x &&& 3689348814741910323) + (ush (v1 x) 2 &&& 3689348814741910323)
def v3 (x : Int64) : Int64 := (v2 x + ush (v2 x) 4) &&& 1085102592571150095
def v4 (x : Int64) : Int64 := v3 x + ush (v3 x) 8
def v5 (x : Int64) : Int64 := v4 x + ush (v4 x) 16
def v6 (x : Int64) : Int64 := v5 x + ush (v5 x) 32
theorem bcL_eq (x : Int64) : fJ13_bitCount_95d88 x = some ((v6 x).toInt32 &&& 127) := by
  unfold fJ13_bitCount_95d88
  simp only [v6, v5, v4, v3, v2, v1, ush]
theorem bytes (n : Nat) (h : n < 2 ^ 64) : ∃ l : List Nat, l.length = 8 ∧ (∀ b ∈ l, b < 256) ∧ dig l = n := by
  refine ⟨[n % 256, n / 256 % 256, n / 65536 % 256, n / 16777216 % 256, n / 4294967296 % 256, n / 1099511627776 % 256, n / 281474976710656 % 256, n / 72057594037927936 % 256], rfl, ?_, ?_⟩
  · intro b hb
    simp only [List.mem_cons, List.not_mem_nil, or_false] at hb
    rcases hb with rfl | rfl | rfl | rfl | rfl | rfl | rfl | rfl <;> exact Nat.mod_lt _ (by decide)
  · simp only [dig]
    omega
theorem bitCountL (x : Int64) : fJ13_bitCount_95d88 x = some (i32 (fb_ct (fun i => bl x i) 64)) := by
  have hn : x.toBitVec.toNat < 2 ^ 64 := x.toBitVec.isLt
  obtain ⟨l, l1, l2, l3⟩ := bytes _ hn
  obtain ⟨e1, e2, e3⟩ := w3_dig l1 l2
  obtain ⟨g1, g2, g3, g4, g5⟩ := w6_dig l1 l2
  have hct := ct_dig l l2
  rw [l1, l3] at hct
  rw [l3] at e1 e2 e3 g1 g2 g3 g4 g5
  have hx := lN_of x
  have sh : ∀ {a : Nat} (_ : a < 2 ^ 64) (k : Int32) (s : Nat), (k.toInt64.toUInt64 &&& Int64.toUInt64 63).toNat % 64 = s → ush (lN a) k = lN (a >>> s) := fun ha k s hs => by
    unfold ush
    rw [lN_shr ha, hs]
  rw [bcL_eq, hx]
  generalize hN : x.toBitVec.toNat = n at *
  have hw1 : w1 n < 2 ^ 64 := by omega
  have hw2 : w2 n < 2 ^ 64 := by
    unfold w2
    have a1 : w1 n &&& 3689348814741910323 ≤ 3689348814741910323 := Nat.and_le_right
    have a2 : (w1 n >>> 2) &&& 3689348814741910323 ≤ 3689348814741910323 := Nat.and_le_right
    omega
  have k1 : v1 (lN n) = lN (w1 n) := by
    unfold v1
    rw [sh hn 1 1 (by decide), show (6148914691236517205 : Int64) = lN 6148914691236517205 from rfl, fb_andL, lN_subN e3 hn]; rfl
  have k2 : v2 (lN n) = lN (w2 n) := by
    unfold v2
    rw [k1, sh hw1 2 2 (by decide), show (3689348814741910323 : Int64) = lN 3689348814741910323 from rfl, fb_andL, fb_andL, lN_addN]; rfl
  have k3 : v3 (lN n) = lN (w3 n) := by
    unfold v3
    rw [k2, sh hw2 4 4 (by decide), show (1085102592571150095 : Int64) = lN 1085102592571150095 from rfl, lN_addN, fb_andL]; rfl
  have k4 : v4 (lN n) = lN (w4 n) := by
    unfold v4
    rw [k3, sh (by omega) 8 8 (by decide), lN_addN]; rfl
  have k5 : v5 (lN n) = lN (w5 n) := by
    unfold v5
    rw [k4, sh g4 16 16 (by decide), lN_addN]; rfl
  have k6 : v6 (lN n) = lN (w6 n) := by
    unfold v6
    rw [k5, sh g3 32 32 (by decide), lN_addN]; rfl
  rw [k6, lN_127, g1, ← hct]
  congr 3
  refine fb_ct_cong fun i hi => ?_
  show n.testBit i = (BitVec.ofNat 64 n).getLsbD i
  rw [BitVec.getLsbD_ofNat, decide_eq_true (show i < 64 by omega), Bool.true_and]
def accL (c : Nat → Bool) : Nat → Int64
  | 0 => 0
  | n + 1 => accL c n ||| (if c n = true then bitL n else 0)
theorem bl_accL {c : Nat → Bool} : ∀ {n : Nat} (_ : n ≤ 64) {i : Nat} (_ : i < 64), bl (accL c n) i = (decide (i < n) && c i) := by
  intro n
  induction n with
  | zero => intro _ i _; rw [show accL c 0 = 0 from rfl, bl_0]; rfl
  | succ n ih =>
    intro hn i hi
    show bl (accL c n ||| (if c n = true then bitL n else 0)) i = _
    rw [bl_or, ih (by omega) hi]
    by_cases q : i = n
    · subst q
      rw [decide_eq_false (by omega), decide_eq_true (by omega), Bool.false_and, Bool.false_or, Bool.true_and]
      cases hc : c i with
      | true => rw [if_pos rfl, bl_bitL i hi i hi, decide_eq_true rfl]
      | false => rw [if_neg (by decide), bl_0]
    · have : bl (if c n = true then bitL n else 0) i = false := by
        by_cases z : c n = true
        · rw [if_pos z, bl_bitL n (by omega) i hi, decide_eq_false q]
        · rw [if_neg z, bl_0]
      rw [this, Bool.or_false]
      congr 1
      exact decide_eq_decide.mpr ⟨fun h => by omega, fun h => by omega⟩

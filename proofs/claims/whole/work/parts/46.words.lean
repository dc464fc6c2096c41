/-! square: words. -/
def mB (l : Nat → Int) : List Nat → Nat → Bool
  | [], n => decide (n = 0)
  | _ :: _, 0 => false
  | c :: r, n + 1 => decide (l n = (c : Int)) && mB l r n
def wSq : List Nat := [101, 114, 97, 117, 113, 115]
def wWa : List Nat := [108, 108, 97, 119]
def wPe : List Nat := [110, 111, 115, 114, 101, 112]
def wPi : List Nat := [101, 114, 117, 116, 99, 105, 112]
def wk (l : Nat → Int) (n : Nat) : Int := if mB l wSq n = true then 0 else if mB l wWa n = true then 1 else if mB l wPe n = true then 2 else if mB l wPi n = true then 3 else 13
theorem mB_len {l : Nat → Int} : ∀ {r : List Nat} {n : Nat}, mB l r n = true → n = r.length
  | [], n, h => of_decide_eq_true h
  | _ :: _, 0, h => Bool.noConfusion (show false = true from h)
  | c :: r, n + 1, h => by
    have := mB_len ((Bool.and_eq_true _ _).mp h).2
    show n + 1 = r.length + 1
    omega
/-- the letters, as the class packs them -/
def wN (l : Nat → Int) : Nat → Nat
  | 0 => 0
  | n + 1 => (wN l n * 256 + (l n).toNat) % 18446744073709551616
def ltr (l : Nat → Int) (n : Nat) : Prop := ∀ i, i < n → 97 ≤ l i ∧ l i ≤ 122
theorem wN_iff {l : Nat → Int} : ∀ (r : List Nat) (n j : Nat), ltr l n → (∀ c ∈ r, 97 ≤ c ∧ c ≤ 122) → r.length < j → j ≤ 8 → (wN l n % 256 ^ j = dig r ↔ mB l r n = true)
  | [], n, j, hl, _, h1, h2 => by
    have h1' : 0 < j := h1
    obtain ⟨j, rfl⟩ : ∃ i, j = i + 1 := ⟨j - 1, by omega⟩
    cases n with
    | zero => show 0 % 256 ^ (j + 1) = 0 ↔ _; rw [Nat.zero_mod]; exact ⟨fun _ => rfl, fun _ => rfl⟩
    | succ m =>
      refine ⟨fun h => ?_, fun h => absurd (of_decide_eq_true h) (by omega)⟩
      have hm := hl m (by omega)
      rw [Nat.pow_succ, Nat.mul_comm, Nat.mod_mul] at h
      have h' : wN l (m + 1) % 256 + 256 * (wN l (m + 1) / 256 % 256 ^ j) = 0 := h
      have e : wN l (m + 1) = (wN l m * 256 + (l m).toNat) % 18446744073709551616 := rfl
      omega
  | c :: r, n, j, hl, hc, h1, h2 => by
    have h1' : r.length + 1 < j := h1
    obtain ⟨j, rfl⟩ : ∃ i, j = i + 1 := ⟨j - 1, by omega⟩
    have hcc := hc c (List.mem_cons_self ..)
    cases n with
    | zero =>
      refine ⟨fun h => ?_, fun h => Bool.noConfusion (show false = true from h)⟩
      have h' : 0 % 256 ^ (j + 1) = c + 256 * dig r := h
      rw [Nat.zero_mod] at h'
      omega
    | succ m =>
      have hm := hl m (by omega)
      have ih := wN_iff r m j (fun i hi => hl i (by omega)) (fun x hx => hc x (List.mem_cons_of_mem _ hx)) (by omega) (by omega)
      have e : wN l (m + 1) = (wN l m * 256 + (l m).toNat) % 18446744073709551616 := rfl
      have e1 : wN l (m + 1) % 256 = (l m).toNat := by omega
      have e2 : wN l (m + 1) / 256 = wN l m % 72057594037927936 := by omega
      have e3 : wN l (m + 1) / 256 % 256 ^ j = wN l m % 256 ^ j := by
        rw [e2, show (72057594037927936 : Nat) = 256 ^ 7 from rfl]
        exact Nat.mod_mod_of_dvd _ (Nat.pow_dvd_pow 256 (by omega))
      rw [Nat.pow_succ, Nat.mul_comm, Nat.mod_mul, e1, e3]
      show (l m).toNat + 256 * (wN l m % 256 ^ j) = c + 256 * dig r ↔ (decide (l m = (c : Int)) && mB l r m) = true
      rw [Bool.and_eq_true, decide_eq_true_iff, ← ih]
      constructor
      · intro h; constructor <;> omega
      · rintro ⟨q1, q2⟩; rw [q2]; omega
theorem wN_lt (l : Nat → Int) : ∀ n, wN l n < 18446744073709551616
  | 0 => by show 0 < 18446744073709551616; decide
  | n + 1 => Nat.mod_lt _ (by decide)
theorem wN_eq {l : Nat → Int} {r : List Nat} {n : Nat} (hl : ltr l n) (hc : ∀ c ∈ r, 97 ≤ c ∧ c ≤ 122) (h : r.length < 8) : wN l n = dig r ↔ mB l r n = true := by
  rw [← wN_iff r n 8 hl hc h (by decide), show (256 : Nat) ^ 8 = 18446744073709551616 from rfl, Nat.mod_eq_of_lt (wN_lt l n)]
/-- the letters, as the model counts them -/
def cNn (l : Nat → Int) : Nat → Int
  | 0 => 0
  | n + 1 => 27 * cNn l n + (l n - 96)
def d27 : List Nat → Int
  | [] => 0
  | c :: r => ((c : Int) - 96) + 27 * d27 r
theorem cNn_iff {l : Nat → Int} : ∀ (r : List Nat) (n : Nat), ltr l n → (∀ c ∈ r, 97 ≤ c ∧ c ≤ 122) → (cNn l n = d27 r ↔ mB l r n = true)
  | [], 0, _, _ => ⟨fun _ => rfl, fun _ => rfl⟩
  | [], m + 1, hl, _ => by
    have hm := hl m (by omega)
    refine ⟨fun h => ?_, fun h => absurd (of_decide_eq_true h) (by omega)⟩
    have h' : 27 * cNn l m + (l m - 96) = 0 := h
    omega
  | c :: r, 0, _, hc => by
    have hcc := hc c (List.mem_cons_self ..)
    refine ⟨fun h => ?_, fun h => Bool.noConfusion (show false = true from h)⟩
    have h' : 0 = ((c : Int) - 96) + 27 * d27 r := h
    omega
  | c :: r, m + 1, hl, hc => by
    have hm := hl m (by omega)
    have hcc := hc c (List.mem_cons_self ..)
    have ih := cNn_iff r m (fun i hi => hl i (by omega)) (fun x hx => hc x (List.mem_cons_of_mem _ hx))
    show 27 * cNn l m + (l m - 96) = ((c : Int) - 96) + 27 * d27 r ↔ (decide (l m = (c : Int)) && mB l r m) = true
    rw [Bool.and_eq_true, decide_eq_true_iff, ← ih]
    constructor
    · intro h; constructor <;> omega
    · rintro ⟨q1, q2⟩; omega
theorem cNn_b {l : Nat → Int} : ∀ n, ltr l n → 0 ≤ cNn l n ∧ cNn l n < 27 ^ n
  | 0, _ => by rw [show cNn l 0 = 0 from rfl]; decide
  | n + 1, h => by
    have ih := cNn_b n (fun i hi => h i (by omega))
    have hm := h n (by omega)
    have e : cNn l (n + 1) = 27 * cNn l n + (l n - 96) := rfl
    have e2 : (27 : Int) ^ (n + 1) = 27 ^ n * 27 := rfl
    omega
def cd (l : Nat → Int) : Nat → Int
  | 0 => 0
  | n + 1 => if 6 ≤ n then cd l n else 27 * cd l n + l n - 96
def sv (l : Nat → Int) : Nat → Int
  | 0 => 0
  | n + 1 => if n = 6 then l n - 96 else if n ≤ 6 then sv l n else 99
theorem cd_6 {l : Nat → Int} : ∀ n, n ≤ 6 → cd l n = cNn l n
  | 0, _ => rfl
  | n + 1, h => by
    show (if 6 ≤ n then cd l n else 27 * cd l n + l n - 96) = 27 * cNn l n + (l n - 96)
    rw [if_neg (by omega), cd_6 n (by omega)]
    omega
theorem cd_more {l : Nat → Int} : ∀ k, cd l (6 + k) = cNn l 6
  | 0 => cd_6 6 (Nat.le_refl _)
  | k + 1 => by
    show (if 6 ≤ 6 + k then cd l (6 + k) else _) = _
    rw [if_pos (by omega), cd_more k]
theorem sv_6 {l : Nat → Int} : ∀ n, n ≤ 6 → sv l n = 0
  | 0, _ => rfl
  | n + 1, h => by
    show (if n = 6 then l n - 96 else if n ≤ 6 then sv l n else 99) = 0
    rw [if_neg (by omega), if_pos (by omega), sv_6 n (by omega)]
theorem sv_8 {l : Nat → Int} (k : Nat) : sv l (8 + k) = 99 := by
  rw [Nat.add_comm 8 k]
  show (if k + 7 = 6 then _ else if k + 7 ≤ 6 then sv l (k + 7) else 99) = 99
  rw [if_neg (by omega), if_neg (by omega)]
def mt (k : Int) : Int := if k = 10 then 4 else if k = 12 then 5 else if k = 11 then 6 else if k = 13 then 7 else k
theorem in_wSq : ∀ c ∈ wSq, 97 ≤ c ∧ c ≤ 122 := by decide
theorem in_wWa : ∀ c ∈ wWa, 97 ≤ c ∧ c ≤ 122 := by decide
theorem in_wPe : ∀ c ∈ wPe, 97 ≤ c ∧ c ≤ 122 := by decide
theorem in_wPi : ∀ c ∈ wPi, 97 ≤ c ∧ c ≤ 122 := by decide
theorem mB_no {l : Nat → Int} {r : List Nat} {n : Nat} (h : n ≠ r.length) : mB l r n = false := Bool.eq_false_iff.mpr (fun z => h (mB_len z))
theorem meaning_M {l : Nat → Int} {n : Nat} (hl : ltr l n) : fX5_meaning (i32 (cd l n)) (i32 (sv l n)) = some (i32 (mt (wk l n))) := by
  unfold fX5_meaning
  by_cases h6 : n ≤ 6
  · have hb := cNn_b n hl
    have hp : (27 : Int) ^ n ≤ 387420489 := by
      have : ∀ n : Nat, n ≤ 6 → (27 : Int) ^ n ≤ 387420489 := by decide
      exact this n h6
    rw [sv_6 n h6, if_pos (by decide), cd_6 n h6]
    have w0 := cNn_iff wSq n hl in_wSq
    have w1 := cNn_iff wWa n hl in_wWa
    have w2 := cNn_iff wPe n hl in_wPe
    rw [show d27 wSq = 282078293 from rfl] at w0
    rw [show d27 wWa = 453774 from rfl] at w1
    rw [show d27 wPe = 232608281 from rfl] at w2
    have w3 : mB l wPi n = false := mB_no (by show n ≠ 7; omega)
    have i1 : i32 (cNn l n) = 453774 ↔ cNn l n = 453774 := i32_inj (b := 453774) (by omega)
    have i2 : i32 (cNn l n) = 232608281 ↔ cNn l n = 232608281 := i32_inj (b := 232608281) (by omega)
    have i0 : i32 (cNn l n) = 282078293 ↔ cNn l n = 282078293 := i32_inj (b := 282078293) (by omega)
    unfold wk
    rw [w3]
    by_cases q1 : cNn l n = 453774
    · have z0 : ¬ mB l wSq n = true := fun z => by have := w0.mpr z; omega
      rw [if_pos (i1.mpr q1), if_neg z0, if_pos (w1.mp q1)]; rfl
    · rw [if_neg (fun z => q1 (i1.mp z))]
      have z1 : ¬ mB l wWa n = true := fun z => q1 (w1.mpr z)
      by_cases q2 : cNn l n = 232608281
      · have z0 : ¬ mB l wSq n = true := fun z => by have := w0.mpr z; omega
        rw [if_pos (i2.mpr q2), if_neg z0, if_neg z1, if_pos (w2.mp q2)]; rfl
      · rw [if_neg (fun z => q2 (i2.mp z))]
        have z2 : ¬ mB l wPe n = true := fun z => q2 (w2.mpr z)
        by_cases q0 : cNn l n = 282078293
        · rw [if_pos (i0.mpr q0), if_pos (w0.mp q0)]; rfl
        · rw [if_neg (fun z => q0 (i0.mp z)), if_neg (fun z => q0 (w0.mpr z)), if_neg z1, if_neg z2]; rfl
  · have z0 : mB l wSq n = false := mB_no (by show n ≠ 6; omega)
    have z1 : mB l wWa n = false := mB_no (by show n ≠ 4; omega)
    have z2 : mB l wPe n = false := mB_no (by show n ≠ 6; omega)
    have hb := cNn_b 6 (fun i hi => hl i (by omega))
    have hp : (27 : Int) ^ 6 = 387420489 := rfl
    have hcd : cd l n = cNn l 6 := by
      obtain ⟨k, rfl⟩ : ∃ k, n = 6 + k := ⟨n - 6, by omega⟩
      exact cd_more k
    have i3 : i32 (cNn l 6) = 234439695 ↔ cNn l 6 = 234439695 := i32_inj (b := 234439695) (by omega)
    have w3 := cNn_iff [114, 117, 116, 99, 105, 112] 6 (fun i hi => hl i (by omega)) (by decide)
    rw [show d27 [114, 117, 116, 99, 105, 112] = 234439695 from rfl] at w3
    unfold wk
    rw [z0, z1, z2, hcd]
    by_cases h7 : n = 7
    · subst h7
      have hm := hl 6 (by omega)
      have hsv : sv l 7 = l 6 - 96 := rfl
      have e : mB l wPi 7 = (decide (l 6 = ((101 : Nat) : Int)) && mB l [114, 117, 116, 99, 105, 112] 6) := rfl
      have i5 : i32 (l 6 - 96) = 5 ↔ l 6 - 96 = 5 := i32_inj (b := 5) (by omega)
      rw [hsv, show (0 : Int32) = i32 0 from rfl, if_neg (fun z => absurd ((i32_le (by omega)).mp z) (by omega)), e]
      by_cases q : cNn l 6 = 234439695
      · rw [if_pos (i3.mpr q), w3.mp q, Bool.and_true]
        by_cases q5 : l 6 - 96 = 5
        · rw [if_pos (i5.mpr q5), decide_eq_true (by omega)]; rfl
        · rw [if_neg (fun z => q5 (i5.mp z)), decide_eq_false (by omega)]; rfl
      · rw [if_neg (fun z => q (i3.mp z)), Bool.eq_false_iff.mpr (fun z => q (w3.mpr z)), Bool.and_false]; rfl
    · have hsv : sv l n = 99 := by
        obtain ⟨k, rfl⟩ : ∃ k, n = 8 + k := ⟨n - 8, by omega⟩
        exact sv_8 k
      have z3 : mB l wPi n = false := mB_no h7
      rw [hsv, if_neg (by decide), z3]
      by_cases q : cNn l 6 = 234439695
      · rw [if_pos (i3.mpr q), if_neg (by decide)]; rfl
      · rw [if_neg (fun z => q (i3.mp z))]; rfl
/-- the class's word -/
theorem bl_shl8 (x : Int64) {i : Nat} (hi : i < 64) : bl (x <<< ((8 : Int32).toInt64 &&& 63)) i = (decide (8 ≤ i) && bl x (i - 8)) := by
  unfold bl
  rw [Int64.toBitVec_shiftLeft, show ((8 : Int32).toInt64 &&& 63).toBitVec.smod 64 = 8#64 from by decide]
  show (x.toBitVec <<< (8#64).toNat).getLsbD i = _
  rw [BitVec.getLsbD_shiftLeft, show (8#64).toNat = 8 from rfl, decide_eq_true hi, Bool.true_and]
  by_cases q : i < 8
  · rw [decide_eq_true q, decide_eq_false (by omega)]; rfl
  · rw [decide_eq_false q, decide_eq_true (by omega)]; rfl
theorem bl_lN {a i : Nat} (hi : i < 64) : bl (lN a) i = a.testBit i := by
  show (BitVec.ofNat 64 a).getLsbD i = _
  rw [BitVec.getLsbD_ofNat, decide_eq_true hi, Bool.true_and]
theorem to64 : ∀ z : Nat, z < 128 → (i32 (z : Int)).toInt64 = lN z := by decide +kernel
theorem word_s {a z : Nat} (hz : z < 128) : (lN a <<< ((8 : Int32).toInt64 &&& 63)) ||| (i32 (z : Int)).toInt64 = lN ((a * 256 + z) % 18446744073709551616) := by
  apply bl_ext
  intro i hi
  rw [bl_or, bl_shl8 _ hi, to64 z hz, bl_lN hi, bl_lN hi, show (18446744073709551616 : Nat) = 2 ^ 64 from rfl, Nat.testBit_mod_two_pow, decide_eq_true hi, Bool.true_and, show a * 256 + z = z + 256 * a by omega, tb_dig (by omega)]
  by_cases q : i < 8
  · rw [if_pos q, decide_eq_false (by omega), Bool.false_and, Bool.false_or]
  · rw [if_neg q, decide_eq_true (by omega), Bool.true_and, bl_lN (by omega), Nat.testBit_lt_two_pow (i := i) (Nat.lt_of_lt_of_le hz (Nat.pow_le_pow_right (n := 2) (i := 7) (by decide) (by omega))), Bool.or_false]
theorem lN_ij {a b : Nat} (ha : a < 18446744073709551616) (hb : b < 18446744073709551616) : lN a = lN b ↔ a = b := by
  constructor
  · intro h
    have := congrArg (fun x => x.toBitVec.toNat) h
    rw [show (lN a).toBitVec.toNat = a from lN_tn ha, show (lN b).toBitVec.toNat = b from lN_tn hb] at this
    exact this
  · intro h; rw [h]
theorem lg_e (x y : Int64) : lg_cmp x y = 0 ↔ x = y := by
  unfold lg_cmp
  by_cases h : x > y
  · rw [if_pos h]
    refine ⟨fun z => absurd z (by decide), fun z => ?_⟩
    rw [z] at h
    exact (Int64.lt_irrefl h).elim
  · rw [if_neg h]
    by_cases q : x = y
    · rw [if_pos q]; exact ⟨fun _ => q, fun _ => rfl⟩
    · rw [if_neg q]; exact ⟨fun z => absurd z (by decide), fun z => absurd z q⟩
theorem word_C {l : Nat → Int} {n : Nat} (hl : ltr l n) (M : Mem) : fX3_takeWord_61 (lN (wN l n)) M = some (sI M 1 4 (i32 (wk l n))) := by
  have hlt := wN_lt l n
  have e0 : lg_cmp (lN (wN l n)) 126931137819237 = 0 ↔ mB l wSq n = true := by
    rw [lg_e, show (126931137819237 : Int64) = lN (dig wSq) from by decide, lN_ij hlt (by decide), wN_eq hl in_wSq (by decide)]
  have e1 : lg_cmp (lN (wN l n)) 2002873452 = 0 ↔ mB l wWa n = true := by
    rw [lg_e, show (2002873452 : Int64) = lN (dig wWa) from by decide, lN_ij hlt (by decide), wN_eq hl in_wWa (by decide)]
  have e2 : lg_cmp (lN (wN l n)) 123581014175598 = 0 ↔ mB l wPe n = true := by
    rw [lg_e, show (123581014175598 : Int64) = lN (dig wPe) from by decide, lN_ij hlt (by decide), wN_eq hl in_wPe (by decide)]
  have e3 : lg_cmp (lN (wN l n)) 31641073268126309 = 0 ↔ mB l wPi n = true := by
    rw [lg_e, show (31641073268126309 : Int64) = lN (dig wPi) from by decide, lN_ij hlt (by decide), wN_eq hl in_wPi (by decide)]
  unfold fX3_takeWord_61 wk wF
  simp only [Option.bind_some, Option.bind_none, e0, e1, e2, e3]
  cases mB l wSq n
  · cases mB l wWa n
    · cases mB l wPe n
      · cases mB l wPi n <;> rfl
      · rfl
    · rfl
  · rfl

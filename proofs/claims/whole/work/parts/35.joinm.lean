/-! joined: the model. -/
theorem isOne_M {N : Nt} {M : Mem} (hN : okN N) (hr : RNm 0 N M) {i j : Nat} (hi : i < nS N) (hj : j < nS N) : fX5_isOne (i32 i) (i32 j) M = some (i32 (bI (one N i j))) := by
  have h8 := hN.2.2.1
  have E : ∀ a k, a < nS N → k < 4 → rI M (57 + k) 24 (i32 a) = some (i32 (nSd N a k)) := fun a k h1 h2 => by
    have := hr.2.2.2.1 a k h1 h2
    rw [Nat.mul_zero, Nat.zero_add] at this
    rw [rI_ok (by omega), show ((a : Int)).toNat = a by omega, this]
  obtain ⟨x1, x2, x3, x4⟩ := hN.2.2.2.1 i hi
  obtain ⟨y1, y2, y3, y4⟩ := hN.2.2.2.1 j hj
  unfold fX5_isOne fX5_isOne_82
  rw [E i 0 hi (by decide), E i 1 hi (by decide), E i 2 hi (by decide), E i 3 hi (by decide), E j 0 hj (by decide), E j 1 hj (by decide), E j 2 hj (by decide), E j 3 hj (by decide)]
  simp only [Option.bind_some, Option.bind_none, i32_sub]
  have a0 := aI_c (nSd N i 0 - nSd N j 0)
  have a1 := aI_c (nSd N i 1 - nSd N j 1)
  have a2 := aI_c (nSd N i 2 - nSd N j 2)
  rw [size_M (by omega), size_M (by omega), size_M (by omega)]
  simp only [Option.bind_some, Option.bind_none, i32_add]
  unfold one
  by_cases q : nSd N i 3 = nSd N j 3
  · rw [if_pos (by rw [q]), decide_eq_true q]
    by_cases r : aI (nSd N i 2 - nSd N j 2) < aI (nSd N i 0 - nSd N j 0) + aI (nSd N i 1 - nSd N j 1)
    · rw [if_pos ((i32_lt (by omega)).mpr r), decide_eq_true r]; rfl
    · rw [if_neg (fun z => r ((i32_lt (by omega)).mp z)), decide_eq_false r]
      by_cases s : 0 < aI (nSd N i 2 - nSd N j 2)
      · rw [show (0 : Int32) = i32 0 from rfl, if_pos ((i32_lt (by omega)).mpr s)]; rfl
      · rw [show (0 : Int32) = i32 0 from rfl, if_neg (fun z => s ((i32_lt (by omega)).mp z)), if_pos (by rw [show aI (nSd N i 0 - nSd N j 0) + aI (nSd N i 1 - nSd N j 1) = 0 by omega])]; rfl
  · rw [if_neg (fun z => q ((i32_inj (by omega)).mp z)), decide_eq_false q]; rfl
theorem RNm.vm {N : Nt} {M M' : Mem} (h : RNm 0 N M) (k : Vm M M') : RNm 0 N M' := h.mv (fun a h1 h2 => k.2.1 a (by omega) (by omega) (by omega) (by omega) (by omega) (by omega))
/-- the earliest of the set -/
def ear (N : Nt) (X : Int32) (k : Nat) (x4 : Int32) : Prop := (x4 = i32 (-9) ∧ ∀ j, j < k → bt X j = false) ∨ ∃ a : Nat, x4 = i32 a ∧ a < k ∧ bt X a = true ∧ ∀ j, j < k → bt X j = true → j ≠ a → bf N a j
theorem ch16_L {N : Nt} (hN : okN N) {M : Mem} (hr : RNm 0 N M) {k5 : Int32 → Int32 → Option Int32} {X x3 : Int32} (hX : ∀ j, j < 32 → bt X j = true → j < nS N) (hX0 : ∃ j, j < 8 ∧ bt X j = true) : ∀ (d n k : Nat) (x4 : Int32), k + d = 8 → d < n → ear N X k x4 → ∃ a, bt X a = true ∧ a < nS N ∧ (∀ j, j < 8 → bt X j = true → j ≠ a → bf N a j) ∧ fX5_isChain_16L k5 M n X x3 x4 (i32 k) = (if x3 = i32 (-9) then fX5_isChain_90 k5 X (i32 a) M else (fX5_isOne x3 (i32 a) M).bind fun v1 => if v1 = i32 0 then some (i32 0) else fX5_isChain_90 k5 X (i32 a) M) := by
  have h8 := hN.2.2.1
  have E : ∀ a, a < nS N → rI M 59 24 (i32 a) = some (i32 (nSd N a 2)) := fun a h1 => by
    have := hr.2.2.2.1 a 2 h1 (by decide)
    rw [Nat.mul_zero, Nat.zero_add] at this
    rw [rI_ok (by omega), show ((a : Int)).toNat = a by omega]
    exact congrArg some this
  intro d
  induction d with
  | zero =>
    intro n k x4 h1 h2 h3
    obtain ⟨n, rfl⟩ : ∃ m, n = m + 1 := ⟨n - 1, by omega⟩
    obtain rfl : k = 8 := by omega
    rcases h3 with ⟨-, h⟩ | ⟨a, rfl, g1, g2, g3⟩
    · obtain ⟨j, j1, j2⟩ := hX0
      rw [h j j1] at j2; exact absurd j2 (by decide)
    · refine ⟨a, g2, hX a (by omega) g2, g3, ?_⟩
      show fX5_isChain_16B k5 (fX5_isChain_16L k5 M n) _ _ _ _ _ = _
      unfold fX5_isChain_16B
      rw [if_pos (by decide)]
      rfl
  | succ d ih =>
    intro n k x4 h1 h2 h3
    obtain ⟨n, rfl⟩ : ∃ m, n = m + 1 := ⟨n - 1, by omega⟩
    have e64 : ∀ s, fX5_isChain_64 k5 (fX5_isChain_16L k5 M n) X x3 (i32 k) s M = fX5_isChain_16L k5 M n X x3 s (i32 ((k + 1 : Nat) : Int)) := fun s => by
      unfold fX5_isChain_64
      rw [show (1 : Int32) = i32 1 from rfl, i32_add]; rfl
    have e0 : fX5_isChain_16L k5 M (n + 1) X x3 x4 (i32 k) = (if bt X k = true then (if x4 = i32 (-9) then fX5_isChain_16L k5 M n X x3 (i32 k) (i32 ((k + 1 : Nat) : Int)) else (rI M 59 24 (i32 k)).bind fun v2 => (rI M 59 24 x4).bind fun v3 => if v3 ≤ v2 then fX5_isChain_16L k5 M n X x3 x4 (i32 ((k + 1 : Nat) : Int)) else fX5_isChain_16L k5 M n X x3 (i32 k) (i32 ((k + 1 : Nat) : Int))) else fX5_isChain_16L k5 M n X x3 x4 (i32 ((k + 1 : Nat) : Int))) := by
      show fX5_isChain_16B k5 (fX5_isChain_16L k5 M n) _ _ _ _ _ = _
      unfold fX5_isChain_16B fX5_isChain_62 fX5_isChain_57
      simp only [e64]
      rw [show (8 : Int32) = i32 8 from rfl, if_neg (fun z => absurd ((i32_le (by omega)).mp z) (by omega)), i32_nI, bit_of (by omega), ← i32_nI]
      cases bt X k <;> rfl
    rw [e0]
    cases hb : bt X k with
    | false =>
      rw [if_neg (by decide)]
      refine ih n (k + 1) x4 (by omega) (by omega) ?_
      rcases h3 with ⟨g1, g2⟩ | ⟨a, rfl, g1, g2, g3⟩
      · refine Or.inl ⟨g1, fun j hj => ?_⟩
        by_cases z : j = k
        · rw [z]; exact hb
        · exact g2 j (by omega)
      · refine Or.inr ⟨a, rfl, by omega, g2, fun j hj hx hne => ?_⟩
        by_cases z : j = k
        · rw [z, hb] at hx; exact absurd hx (by decide)
        · exact g3 j (by omega) hx hne
    | true =>
      rw [if_pos rfl]
      have hk : k < nS N := hX k (by omega) hb
      rcases h3 with ⟨g1, g2⟩ | ⟨a, rfl, g1, g2, g3⟩
      · rw [if_pos g1]
        refine ih n (k + 1) (i32 k) (by omega) (by omega) (Or.inr ⟨k, rfl, by omega, hb, fun j hj hx hne => ?_⟩)
        rw [g2 j (by omega)] at hx; exact absurd hx (by decide)
      · have ha : a < nS N := hX a (by omega) g2
        have t1 := (hN.2.2.2.1 a ha).2.2.1
        have t2 := (hN.2.2.2.1 k hk).2.2.1
        rw [if_neg (fun z => by have := (i32_inj (by omega)).mp z; omega), E k hk, E a ha]
        simp only [Option.bind_some, Option.bind_none]
        by_cases w : nSd N a 2 ≤ nSd N k 2
        · rw [if_pos ((i32_le (by omega)).mpr w)]
          refine ih n (k + 1) (i32 a) (by omega) (by omega) (Or.inr ⟨a, rfl, by omega, g2, fun j hj hx hne => ?_⟩)
          by_cases z : j = k
          · rw [z]; unfold bf; omega
          · exact g3 j (by omega) hx hne
        · rw [if_neg (fun z => w ((i32_le (by omega)).mp z))]
          refine ih n (k + 1) (i32 k) (by omega) (by omega) (Or.inr ⟨k, rfl, by omega, hb, fun j hj hx hne => ?_⟩)
          by_cases z : j = a
          · rw [z]; unfold bf; omega
          · have := g3 j (by omega) hx z
            unfold bf at *
            omega
theorem chain_L {N : Nt} (hN : okN N) {M : Mem} (hr : RNm 0 N M) : ∀ (q n : Nat) (X x3 : Int32), fb_ct (fun i => bt X i) 8 = q → q < n → (∀ j, j < 32 → bt X j = true → j < nS N) → (x3 = i32 (-9) ∨ ∃ l : Nat, x3 = i32 l ∧ l < nS N ∧ ∀ j, bt X j = true → bf N l j) → ∃ b : Bool, fX5_isChain_5L M n X x3 = some (i32 (bI b)) ∧ (b = true ↔ (∀ i j, bt X i = true → bt X j = true → i ≠ j → one N i j = true) ∧ ∀ l : Nat, l < 8 → x3 = i32 l → ∀ j, bt X j = true → one N l j = true) := by
  have h8 := hN.2.2.1
  intro q
  induction q with
  | zero =>
    intro n X x3 h1 h2 h3 h4
    obtain ⟨n, rfl⟩ : ∃ m, n = m + 1 := ⟨n - 1, by omega⟩
    have hz : ∀ j, bt X j = false := fun j => by
      cases hb : bt X j with
      | false => rfl
      | true =>
        have hj : j < 32 := by
          by_cases z : j < 32
          · exact z
          · rw [b_big (by omega)] at hb; exact absurd hb (by decide)
        have := h3 j hj hb
        have := fb_ct_zero.mp h1 j (by omega)
        rw [hb] at this; exact absurd this (by decide)
    have hX : X = 0 := b_ext fun i _ => by rw [hz i, b_0]
    refine ⟨true, ?_, fun _ => ⟨fun i j hi => ?_, fun l _ _ j hj => ?_⟩, fun _ => rfl⟩
    · show fX5_isChain_5B (fX5_isChain_5L M n) _ _ _ = _
      unfold fX5_isChain_5B
      rw [if_pos hX]; rfl
    · rw [hz i] at hi; exact absurd hi (by decide)
    · rw [hz j] at hj; exact absurd hj (by decide)
  | succ q ih =>
    intro n X x3 h1 h2 h3 h4
    obtain ⟨n, rfl⟩ : ∃ m, n = m + 1 := ⟨n - 1, by omega⟩
    have hlt : ∀ j, bt X j = true → j < nS N := fun j hb => by
      by_cases z : j < 32
      · exact h3 j z hb
      · rw [b_big (by omega)] at hb; exact absurd hb (by decide)
    obtain ⟨j0, j1, j2⟩ := fb_ct_pos.mp (show 0 < fb_ct (fun i => bt X i) 8 by omega)
    have hX0 : ¬ X = 0 := fun z => by rw [z, b_0] at j2; exact absurd j2 (by decide)
    obtain ⟨a, a1, a2, a3, a4⟩ := ch16_L hN hr (k5 := fX5_isChain_5L M n) (x3 := x3) h3 ⟨j0, j1, j2⟩ 8 FU 0 (i32 (-9)) (by omega) (by unfold FU; omega) (Or.inl ⟨rfl, fun j hj => absurd hj (by omega)⟩)
    have e0 : fX5_isChain_5L M (n + 1) X x3 = (if x3 = i32 (-9) then fX5_isChain_90 (fX5_isChain_5L M n) X (i32 a) M else (fX5_isOne x3 (i32 a) M).bind fun v1 => if v1 = i32 0 then some (i32 0) else fX5_isChain_90 (fX5_isChain_5L M n) X (i32 a) M) := by
      show fX5_isChain_5B (fX5_isChain_5L M n) _ _ _ = _
      unfold fX5_isChain_5B
      rw [if_neg hX0]
      exact a4
    -- what is left
    have hbX : ∀ j, j < 32 → bt (X &&& (bit1 a ^^^ (-1))) j = (bt X j && !decide (j = a)) := fun j hj => by
      rw [b_and, bt_nx hj, bt_bit1 (by omega) hj]
    have hbX' : ∀ j, bt (X &&& (bit1 a ^^^ (-1))) j = true ↔ bt X j = true ∧ j ≠ a := fun j => by
      by_cases z : j < 32
      · rw [hbX j z, Bool.and_eq_true, Bool.not_eq_true', decide_eq_false_iff_not]
      · rw [b_big (by omega), b_big (by omega)]; exact ⟨fun h => absurd h (by decide), fun h => absurd h.1 (by decide)⟩
    have hct : fb_ct (fun i => bt (X &&& (bit1 a ^^^ (-1))) i) 8 = q := by
      have e1 := fb_ct_upd (fun i => bt X i) false (i := a) (n := 8) (by omega)
      rw [a1, h1] at e1
      simp only [if_true, Bool.false_eq_true, if_false] at e1
      rw [fb_ct_cong (q := fun k => if k = a then false else bt X k) (fun k hk => ?_)]
      · omega
      · rw [hbX k (by omega)]
        by_cases z : k = a
        · rw [if_pos z, decide_eq_true z, Bool.not_true, Bool.and_false]
        · rw [if_neg z, decide_eq_false z, Bool.not_false, Bool.and_true]
    have e90 : fX5_isChain_90 (fX5_isChain_5L M n) X (i32 a) M = fX5_isChain_5L M n (X &&& (bit1 a ^^^ (-1))) (i32 a) := rfl
    obtain ⟨b, b1, b2⟩ := ih n (X &&& (bit1 a ^^^ (-1))) (i32 a) hct (by omega) (fun j hj hb => hlt j ((hbX' j).mp hb).1) (Or.inr ⟨a, rfl, a2, fun j hj => a3 j (by have := hlt j ((hbX' j).mp hj).1; omega) ((hbX' j).mp hj).1 ((hbX' j).mp hj).2⟩)
    have key : b = true ↔ ∀ i j, bt X i = true → bt X j = true → i ≠ j → one N i j = true := by
      rw [b2]
      constructor
      · rintro ⟨c1, c2⟩ i j hi hj hij
        by_cases z : i = a
        · rw [z]; exact c2 a (by omega) rfl j ((hbX' j).mpr ⟨hj, fun w => hij (z.trans w.symm)⟩)
        · by_cases w : j = a
          · rw [w, one_sym]; exact c2 a (by omega) rfl i ((hbX' i).mpr ⟨hi, z⟩)
          · exact c1 i j ((hbX' i).mpr ⟨hi, z⟩) ((hbX' j).mpr ⟨hj, w⟩) hij
      · intro c
        refine ⟨fun i j hi hj hij => c i j ((hbX' i).mp hi).1 ((hbX' j).mp hj).1 hij, fun l hl he j hj => ?_⟩
        have : l = a := by have := (i32_inj (by omega)).mp he; omega
        rw [this]
        exact c a j a1 ((hbX' j).mp hj).1 (Ne.symm ((hbX' j).mp hj).2)
    rw [e0, e90]
    rcases h4 with rfl | ⟨l, rfl, l1, l2⟩
    · rw [if_pos rfl]
      refine ⟨b, b1, key.trans ⟨fun h => ⟨h, fun l hl he => ?_⟩, fun h => h.1⟩⟩
      have := (i32_inj (by omega)).mp he; omega
    · rw [if_neg (fun z => by have := (i32_inj (by omega)).mp z; omega), isOne_M hN hr l1 a2]
      simp only [Option.bind_some, Option.bind_none]
      cases ho : one N l a with
      | false =>
        rw [if_pos (by decide)]
        refine ⟨false, rfl, fun h => absurd h (by decide), fun h => ?_⟩
        rw [h.2 l (by omega) rfl a a1] at ho; exact absurd ho (by decide)
      | true =>
        rw [if_neg (by decide)]
        refine ⟨b, b1, key.trans ⟨fun h => ⟨h, fun l' hl' he j hj => ?_⟩, fun h => h.1⟩⟩
        have : l' = l := by have := (i32_inj (by omega)).mp he; omega
        rw [this]
        by_cases z : j = a
        · rw [z]; exact ho
        · exact (lj_tr N l a j ⟨ho, l2 a a1⟩ ⟨h a j a1 hj (Ne.symm z), a3 j (by have := hlt j hj; omega) hj z⟩).1
/-- chains, as sets of bits -/
def chn (N : Nt) (s : Nat) : Prop := ∀ i j, s.testBit i = true → s.testBit j = true → i ≠ j → one N i j = true
theorem bt_nI {n : Nat} {i : Nat} (hi : i < 32) : bt (nI n) i = n.testBit i := by
  show (BitVec.ofNat 32 n).getLsbD i = _
  rw [BitVec.getLsbD_ofNat, decide_eq_true hi, Bool.true_and]
theorem tb_lt {n k i : Nat} (h : n < 2 ^ k) (hb : n.testBit i = true) : i < k := by
  by_cases z : i < k
  · exact z
  · rw [Nat.testBit_lt_two_pow (Nat.lt_of_lt_of_le h (Nat.pow_le_pow_right (by decide) (by omega)))] at hb
    exact absurd hb (by decide)
theorem isChain_M {N : Nt} (hN : okN N) {M : Mem} (hr : RNm 0 N M) {s : Nat} (hs : s < 2 ^ nS N) : ∃ b : Bool, fX5_isChain (i32 s) M = some (i32 (bI b)) ∧ (b = true ↔ chn N s) := by
  have h8 := hN.2.2.1
  have hb : ∀ j, bt (i32 (s : Int)) j = true ↔ s.testBit j = true := fun j => by
    by_cases z : j < 32
    · rw [i32_nI, bt_nI z]
    · rw [b_big (by omega)]
      exact ⟨fun h => absurd h (by decide), fun h => by have := tb_lt hs h; omega⟩
  obtain ⟨b, b1, b2⟩ := chain_L hN hr (fb_ct (fun i => bt (i32 (s : Int)) i) 8) FU (i32 s) (i32 (-9)) rfl (by have := fb_ct_le (fun i => bt (i32 (s : Int)) i) 8; unfold FU; omega) (fun j hj h => tb_lt hs ((hb j).mp h)) (Or.inl rfl)
  refine ⟨b, b1, b2.trans ⟨fun h i j hi hj => h.1 i j ((hb i).mpr hi) ((hb j).mpr hj), fun h => ⟨fun i j hi hj => h i j ((hb i).mp hi) ((hb j).mp hj), fun l hl he => ?_⟩⟩⟩
  have := (i32_inj (by omega)).mp he; omega

/-! empty: which sets will do. -/
def Tn (S : Sc) (i : Nat) : Nat := off (rr S i + 1)
def Gi (S : Sc) (i : Nat) : Int64 := accL (gcP S i false) (Tn S i)
def orS (S : Sc) (set : Int32) : Nat → Int64
  | 0 => 0
  | n + 1 => orS S set n ||| (if bt set n = true then Ej S n else 0)
theorem bl_orS (S : Sc) (set : Int32) (k : Nat) : ∀ n, bl (orS S set n) k = true ↔ ∃ j, j < n ∧ bt set j = true ∧ bl (Ej S j) k = true
  | 0 => by rw [show orS S set 0 = 0 from rfl, bl_0]; exact ⟨fun h => absurd h (by decide), fun ⟨j, h, _⟩ => absurd h (by omega)⟩
  | n + 1 => by
    rw [show orS S set (n + 1) = orS S set n ||| (if bt set n = true then Ej S n else 0) from rfl, bl_or, Bool.or_eq_true, bl_orS S set k n]
    constructor
    · rintro (⟨j, h1, h2, h3⟩ | h)
      · exact ⟨j, by omega, h2, h3⟩
      · by_cases z : bt set n = true
        · rw [if_pos z] at h; exact ⟨n, by omega, z, h⟩
        · rw [if_neg z, bl_0] at h; exact absurd h (by decide)
    · rintro ⟨j, h1, h2, h3⟩
      by_cases z : j = n
      · subst z; right; rw [if_pos h2]; exact h3
      · left; exact ⟨j, by omega, h2, h3⟩
theorem eIn_L {b : Nat} {S : Sc} {M : Mem} (hS : okS S) (hR : RC b S M) {set : Int32} (hE : ∀ k, k < cI S → bt set k = true → M.2.1 (b + 8) k = Ej S k) : ∀ (d n j : Nat), j + d = cI S → d < n → fX2_emptyInSomeOf_5L b M n set (orS S set j) (i32 j) = some (orS S set (cI S)) := by
  have h10 := hS.2.2.2.1
  intro d
  induction d with
  | zero =>
    intro n j h1 h2
    obtain ⟨n, rfl⟩ : ∃ m, n = m + 1 := ⟨n - 1, by omega⟩
    obtain rfl : j = cI S := by omega
    show fX2_emptyInSomeOf_5B (fX2_emptyInSomeOf_5L b M n) b _ _ _ _ = _
    unfold fX2_emptyInSomeOf_5B
    rw [hR.2.2.2.1, if_pos ((i32_le (by omega)).mpr (by omega))]
  | succ d ih =>
    intro n j h1 h2
    obtain ⟨n, rfl⟩ : ∃ m, n = m + 1 := ⟨n - 1, by omega⟩
    have e33 : ∀ z, fX2_emptyInSomeOf_33 (fX2_emptyInSomeOf_5L b M n) b set z (i32 j) M = fX2_emptyInSomeOf_5L b M n set z (i32 ((j + 1 : Nat) : Int)) := fun z => by
      unfold fX2_emptyInSomeOf_33
      rw [show (1 : Int32) = i32 1 from rfl, i32_add]; rfl
    have iht := ih n (j + 1) (by omega) (by omega)
    rw [show orS S set (j + 1) = orS S set j ||| (if bt set j = true then Ej S j else 0) from rfl] at iht
    show fX2_emptyInSomeOf_5B (fX2_emptyInSomeOf_5L b M n) b _ _ _ _ = _
    unfold fX2_emptyInSomeOf_5B rJ
    rw [hR.2.2.2.1, if_neg (fun z => absurd ((i32_le (by omega)).mp z) (by omega)), e33, i32_inb (by omega) (by omega), if_pos (decide_eq_true (by omega)), i32_nat (by omega) (by omega), show ((j : Int)).toNat = j by omega]
    simp only [Option.bind_some, Option.bind_none, e33]
    rw [i32_nI j, bit_of (by omega), show (0 : Int32) = i32 0 from rfl, ite_bI]
    cases hb : bt set j with
    | false =>
      rw [hb, if_neg (by decide), show orS S set j ||| 0 = orS S set j from bl_ext fun i hi => by rw [bl_or, bl_0, Bool.or_false]] at iht
      rw [if_neg (by decide)]; exact iht
    | true =>
      rw [hb, if_pos rfl] at iht
      rw [if_pos rfl, hE j (by omega) hb]; exact iht
theorem eIn_C {b : Nat} {S : Sc} {M : Mem} (hS : okS S) (hR : RC b S M) {set : Int32} (hE : ∀ k, k < cI S → bt set k = true → M.2.1 (b + 8) k = Ej S k) : fX2_emptyInSomeOf b set M = some (orS S set (cI S)) := eIn_L hS hR hE (cI S) FU 0 (by omega) (by have := hS.2.2.2.1; unfold FU; omega)
/-- those alike, as bits -/
def Al (S : Sc) (i : Nat) : Int32 := acc (al S i) (cI S)
theorem bt_Al {S : Sc} (hS : okS S) (i : Nat) {j : Nat} (hj : j < 32) : bt (Al S i) j = (decide (j < cI S) && al S i j) := bt_acc (by have := hS.2.2.2.1; omega) hj
def sub (S : Sc) (i n : Nat) : Bool := decide (nI n &&& (Al S i ^^^ (-1)) = 0)
theorem sub_iff {S : Sc} (hS : okS S) (i : Nat) {n : Nat} : sub S i n = true ↔ ∀ j, j < 32 → n.testBit j = true → j < cI S ∧ al S i j = true := by
  unfold sub
  rw [decide_eq_true_iff]
  constructor
  · intro h j hj hb
    have : bt (nI n &&& (Al S i ^^^ (-1))) j = false := by rw [h, b_0]
    rw [b_and, bt_nI hj, hb, bt_nx hj, Bool.true_and, bt_Al hS i hj, Bool.not_eq_false', Bool.and_eq_true, decide_eq_true_iff] at this
    exact this
  · intro h
    apply b_ext
    intro j hj
    rw [b_0, b_and, bt_nI hj, bt_nx hj, bt_Al hS i hj]
    cases hb : n.testBit j with
    | false => rw [Bool.false_and]
    | true =>
      obtain ⟨h1, h2⟩ := h j hj hb
      rw [decide_eq_true h1, h2]; rfl
def fwr (m : Int) (n : Nat) : Bool := decide (m = -9) || decide (pcI (nI n) < pcI (i32 m))
def sat (S : Sc) (i n : Nat) : Bool := decide (Gi S i &&& (orS S (nI n) (cI S) ^^^ (-1)) = 0)
def bst (S : Sc) (i : Nat) : Nat → Int
  | 0 => -9
  | n + 1 => if (sub S i n && (fwr (bst S i n) n && sat S i n)) = true then (n : Int) else bst S i n
theorem bst_b (S : Sc) (i : Nat) : ∀ n, bst S i n = -9 ∨ (0 ≤ bst S i n ∧ bst S i n < n)
  | 0 => Or.inl rfl
  | n + 1 => by
    rw [show bst S i (n + 1) = if (sub S i n && (fwr (bst S i n) n && sat S i n)) = true then (n : Int) else bst S i n from rfl]
    by_cases h : (sub S i n && (fwr (bst S i n) n && sat S i n)) = true
    · rw [if_pos h]; omega
    · rw [if_neg h]
      rcases bst_b S i n with q | q
      · exact Or.inl q
      · exact Or.inr (by omega)
theorem pow10 : ∀ n : Nat, n ≤ 10 → ((1 : Int32) <<< (i32 (n : Int) &&& 31)) = i32 ((2 ^ n : Nat) : Int) ∧ 2 ^ n ≤ 1024 := by decide +kernel
theorem lg_0 (x : Int64) : lg_cmp x 0 = 0 ↔ x = 0 := by
  unfold lg_cmp
  by_cases h : x > 0
  · rw [if_pos h]
    refine ⟨fun z => absurd z (by decide), fun z => ?_⟩
    rw [z] at h; exact absurd h (by decide)
  · rw [if_neg h]
    by_cases q : x = 0
    · rw [if_pos q]; exact ⟨fun _ => q, fun _ => rfl⟩
    · rw [if_neg q]; exact ⟨fun z => absurd z (by decide), fun z => absurd z q⟩
theorem fewE_L {b : Nat} {S : Sc} {M : Mem} (hS : okS S) (hR : RC b S M) {i : Nat} (hE : ∀ k, k < cI S → al S i k = true → M.2.1 (b + 8) k = Ej S k) {aN : Nat} (haN : aN < 1024) (hA : Al S i = i32 (aN : Int)) : ∀ (d n y : Nat), y + d = aN + 1 → d < n → fX2_fewestForEmpty_20L b n (Al S i) (Gi S i) (i32 (bst S i y)) (i32 y) M = some (i32 (bst S i (aN + 1)), M) := by
  intro d
  induction d with
  | zero =>
    intro n y h1 h2
    obtain ⟨n, rfl⟩ : ∃ m, n = m + 1 := ⟨n - 1, by omega⟩
    obtain rfl : y = aN + 1 := by omega
    show fX2_fewestForEmpty_20B (fX2_fewestForEmpty_20L b n) b _ _ _ _ _ = _
    unfold fX2_fewestForEmpty_20B
    rw [hA, if_pos ((i32_lt (by omega)).mpr (by omega))]
  | succ d ih =>
    intro n y h1 h2
    obtain ⟨n, rfl⟩ : ∃ m, n = m + 1 := ⟨n - 1, by omega⟩
    have hb := bst_b S i y
    have e100 : ∀ z, fX2_fewestForEmpty_100 (fX2_fewestForEmpty_20L b n) b (Al S i) (Gi S i) z (i32 y) M = fX2_fewestForEmpty_20L b n (Al S i) (Gi S i) z (i32 ((y + 1 : Nat) : Int)) M := fun z => by
      unfold fX2_fewestForEmpty_100
      rw [show (1 : Int32) = i32 1 from rfl, i32_add]; rfl
    have iht := ih n (y + 1) (by omega) (by omega)
    have e67 : ∀ c : Bool, fX2_fewestForEmpty_67 (fX2_fewestForEmpty_20L b n) b (Al S i) (Gi S i) (i32 (bst S i y)) (i32 y) (i32 (bI (sub S i y))) (i32 (bI c)) M = fX2_fewestForEmpty_20L b n (Al S i) (Gi S i) (i32 (if (sub S i y && (c && sat S i y)) = true then (y : Int) else bst S i y)) (i32 ((y + 1 : Nat) : Int)) M := fun c => by
      unfold fX2_fewestForEmpty_67
      rw [show (0 : Int32) = i32 0 from rfl, ite_bI, ite_bI, e100, e100]
      cases hs : sub S i y with
      | false => rfl
      | true =>
        rw [if_pos rfl]
        cases hc : c with
        | false => rfl
        | true =>
          rw [if_pos rfl, eIn_C hS hR (set := i32 y) (fun k hk hbt => hE k hk ((sub_iff hS i).mp hs k (by have := hS.2.2.2.1; omega) (by rw [← bt_nI (by have := hS.2.2.2.1; omega)]; exact hbt)).2)]
          simp only [Option.bind_some, Option.bind_none]
          rw [Bool.true_and, Bool.true_and]
          by_cases z : Gi S i &&& (orS S (i32 (y : Int)) (cI S) ^^^ (-1)) = 0
          · rw [if_pos (show lg_cmp _ 0 = i32 0 from (lg_0 _).mpr z), if_pos (show sat S i y = true from decide_eq_true z)]
          · rw [if_neg (show ¬ lg_cmp _ 0 = i32 0 from fun q => z ((lg_0 _).mp q)), if_neg (show ¬ sat S i y = true from fun q => z (of_decide_eq_true q))]
    have e40 : fX2_fewestForEmpty_40 (fX2_fewestForEmpty_20L b n) b (Al S i) (Gi S i) (i32 (bst S i y)) (i32 y) (i32 (bI (sub S i y))) M = fX2_fewestForEmpty_20L b n (Al S i) (Gi S i) (i32 (bst S i (y + 1))) (i32 ((y + 1 : Nat) : Int)) M := by
      have s1 : s10 (i32 (y : Int)) := fun j h1 h2 => s10_set y (by omega) j h2 h1
      unfold fX2_fewestForEmpty_40 fX2_fewestForEmpty_62
      rw [show (0 : Int32) = i32 (bI false) from rfl, show (1 : Int32) = i32 (bI true) from rfl, e67, e67]
      rw [show bst S i (y + 1) = if (sub S i y && (fwr (bst S i y) y && sat S i y)) = true then (y : Int) else bst S i y from rfl]
      rcases hb with q | q
      · rw [if_pos (show i32 (bst S i y) = -9 by rw [q]; rfl)]
        rw [show fwr (bst S i y) y = true by unfold fwr; rw [decide_eq_true q]; rfl]
      · have s2 : s10 (i32 (bst S i y)) := by
          obtain ⟨z, hz⟩ : ∃ z : Nat, bst S i y = z := ⟨(bst S i y).toNat, by omega⟩
          rw [hz]; exact fun j h1 h2 => s10_set z (by omega) j h2 h1
        have p1 := pc_le (i32 (y : Int))
        have p2 := pc_le (i32 (bst S i y))
        rw [if_neg (show ¬ i32 (bst S i y) = -9 from fun z => by have := (i32_inj (b := -9) (by omega)).mp z; omega), bitCount_C s1, bitCount_C s2]
        simp only [Option.bind_some, Option.bind_none]
        by_cases z : pcI (i32 (y : Int)) < pcI (i32 (bst S i y))
        · rw [if_neg (fun q => absurd ((i32_le (by omega)).mp q) (by omega)), show fwr (bst S i y) y = true by unfold fwr; rw [decide_eq_false (by omega)]; exact decide_eq_true z]
        · rw [if_pos ((i32_le (by omega)).mpr (by omega)), show fwr (bst S i y) y = false by unfold fwr; rw [decide_eq_false (by omega)]; exact decide_eq_false z]
    show fX2_fewestForEmpty_20B (fX2_fewestForEmpty_20L b n) b _ _ _ _ _ = _
    unfold fX2_fewestForEmpty_20B
    have hlt : ¬ Al S i < i32 (y : Int) := by rw [hA]; exact fun z => absurd ((i32_lt (by omega)).mp z) (by omega)
    rw [if_neg hlt]
    by_cases z : i32 (y : Int) &&& (Al S i ^^^ (-1)) = 0
    · have hs : sub S i y = true := decide_eq_true z
      rw [if_pos z]
      rw [hs] at e40
      exact e40.trans iht
    · have hs : sub S i y = false := decide_eq_false z
      rw [if_neg z]
      rw [hs] at e40
      exact e40.trans iht
/-- in which of those alike this cell is seen empty -/
def frm (S : Sc) (i k : Nat) : Int32 := acc (fun j => al S i j && gcP S j true k) (cI S)
theorem bt_frm {S : Sc} (hS : okS S) (i k : Nat) {j : Nat} (hj : j < 32) : bt (frm S i k) j = (decide (j < cI S) && (al S i j && gcP S j true k)) := bt_acc (by have := hS.2.2.2.1; omega) hj
theorem T_49 {S : Sc} (hS : okS S) {i : Nat} (hi : i < cI S) : Tn S i ≤ 49 := off_49 _ (by have := (hS.2.2.2.2.2.1 i hi).2.2.2.1; unfold rr; omega)
theorem T_al {S : Sc} {i j : Nat} (h : al S i j = true) : Tn S j = Tn S i := by
  unfold Tn rr
  rw [(al_iff S i j).mp h 3 (by decide)]
theorem bl_Ej {S : Sc} (hS : okS S) {i j : Nat} (hi : i < cI S) (h : al S i j = true) {k : Nat} (hk : k < 64) : bl (Ej S j) k = (decide (k < Tn S i) && gcP S j true k) := by
  have := T_49 hS hi
  have e : Ej S j = accL (gcP S j true) (Tn S j) := rfl
  rw [e, T_al h, bl_accL (by omega) hk]
theorem bl_G {S : Sc} (hS : okS S) {i : Nat} (hi : i < cI S) {k : Nat} (hk : k < 64) : bl (Gi S i) k = (decide (k < Tn S i) && gcP S i false k) := by
  have := T_49 hS hi
  unfold Gi
  rw [bl_accL (by omega) hk]
theorem i0_iff (x : Int32) : x = 0 ↔ ∀ j, j < 32 → bt x j = false := ⟨fun h j _ => by rw [h, b_0], fun h => b_ext fun j hj => by rw [h j hj, b_0]⟩
theorem l0_iff (x : Int64) : x = 0 ↔ ∀ j, j < 64 → bl x j = false := ⟨fun h j _ => by rw [h, bl_0], fun h => bl_ext fun j hj => by rw [h j hj, bl_0]⟩
theorem sat_iff {S : Sc} (hS : okS S) {i : Nat} (hi : i < cI S) {n : Nat} (hs : sub S i n = true) : sat S i n = true ↔ ∀ k, k < Tn S i → gcP S i false k = true → (frm S i k &&& nI n) ≠ 0 := by
  have h10 := hS.2.2.2.1
  have hT := T_49 hS hi
  have hs' := (sub_iff hS i).mp hs
  unfold sat
  rw [decide_eq_true_iff, l0_iff]
  constructor
  · intro h k hk hg h0
    have h1 := h k (by omega)
    rw [bl_and, bl_G hS hi (by omega), decide_eq_true hk, hg, bl_nx (by omega), Bool.true_and, Bool.true_and, Bool.not_eq_false'] at h1
    obtain ⟨j, j1, j2, j3⟩ := (bl_orS S (nI n) k (cI S)).mp h1
    rw [bt_nI (by omega)] at j2
    have ha := (hs' j (by omega) j2).2
    rw [bl_Ej hS hi ha (by omega), decide_eq_true hk, Bool.true_and] at j3
    have := (i0_iff _).mp h0 j (by omega)
    rw [b_and, bt_frm hS i k (by omega), bt_nI (by omega), j2, decide_eq_true j1, ha, j3] at this
    exact absurd this (by decide)
  · intro h k hk
    rw [bl_and, bl_G hS hi hk, bl_nx hk]
    by_cases z : k < Tn S i ∧ gcP S i false k = true
    · have h1 := h k z.1 z.2
      have h2 : bl (orS S (nI n) (cI S)) k = true := by
        rw [bl_orS]
        apply Classical.byContradiction
        intro hno
        apply h1
        rw [i0_iff]
        intro j hj
        rw [b_and, bt_frm hS i k hj, bt_nI hj]
        cases hb : n.testBit j with
        | false => rw [Bool.and_false]
        | true =>
          obtain ⟨y1, y2⟩ := hs' j hj hb
          rw [decide_eq_true y1, y2, Bool.true_and, Bool.true_and, Bool.and_true]
          cases hg : gcP S j true k with
          | false => rfl
          | true => exact absurd ⟨j, y1, by rw [bt_nI hj]; exact hb, by rw [bl_Ej hS hi y2 hk, decide_eq_true z.1, hg]; rfl⟩ hno
      rw [h2, Bool.not_true, Bool.and_false]
    · by_cases z1 : k < Tn S i
      · have : gcP S i false k = false := Bool.eq_false_iff.mpr (fun q => z ⟨z1, q⟩)
        rw [this, Bool.and_false, Bool.false_and]
      · rw [decide_eq_false z1, Bool.false_and, Bool.false_and]
def nev (S : Sc) (i k : Nat) : Bool := gcP S i false k && decide (frm S i k = 0)
theorem nev_C {S : Sc} (hS : okS S) {i : Nat} (hi : i < cI S) : fb_ct (fun k => bl (Gi S i &&& (orS S (Al S i) (cI S) ^^^ (-1))) k) 64 = fb_ct (nev S i) (Tn S i) := by
  have h10 := hS.2.2.2.1
  have hT := T_49 hS hi
  have hz : fb_ct (fun k => bl (Gi S i &&& (orS S (Al S i) (cI S) ^^^ (-1))) (Tn S i + k)) (64 - Tn S i) = 0 := fb_ct_zero.mpr (by
    intro k hk
    rw [bl_and, bl_G hS hi (by omega), decide_eq_false (by omega), Bool.false_and, Bool.false_and])
  rw [show (64 : Nat) = Tn S i + (64 - Tn S i) by omega, fb_ct_split, hz, Nat.add_zero]
  · refine fb_ct_cong fun k hk => ?_
    rw [bl_and, bl_G hS hi (by omega), decide_eq_true hk, Bool.true_and, bl_nx (by omega)]
    unfold nev
    congr 1
    by_cases z : frm S i k = 0
    · rw [decide_eq_true z, Bool.not_eq_true']
      apply Bool.eq_false_iff.mpr
      intro q
      obtain ⟨j, j1, j2, j3⟩ := (bl_orS S (Al S i) k (cI S)).mp q
      rw [bt_Al hS i (by omega), decide_eq_true j1, Bool.true_and] at j2
      rw [bl_Ej hS hi j2 (by omega), decide_eq_true hk, Bool.true_and] at j3
      have := (i0_iff _).mp z j (by omega)
      rw [bt_frm hS i k (by omega), decide_eq_true j1, j2, j3] at this
      exact absurd this (by decide)
    · rw [decide_eq_false z, Bool.not_eq_false', bl_orS]
      apply Classical.byContradiction
      intro hno
      apply z
      rw [i0_iff]
      intro j hj
      rw [bt_frm hS i k hj]
      by_cases y1 : j < cI S
      · rw [decide_eq_true y1, Bool.true_and]
        cases ha : al S i j with
        | false => rfl
        | true =>
          rw [Bool.true_and]
          cases hg : gcP S j true k with
          | false => rfl
          | true => exact absurd ⟨j, y1, by rw [bt_Al hS i hj, decide_eq_true y1, ha]; rfl, by rw [bl_Ej hS hi ha (by omega), decide_eq_true hk, hg]; rfl⟩ hno
      · rw [decide_eq_false y1, Bool.false_and]

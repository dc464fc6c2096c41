/-! empty: the model's counts and choice; the call. -/
theorem row_ct {S : Sc} {i : Nat} {M : Mem} {q : Int32 → Bool} : ∀ k, (∀ k', k' < k → gcP S i false k' = true → M.1 66 (fb_ct (gcP S i false) k') = frm S i k') → fb_ct (fun c => q (M.1 66 c)) (fb_ct (gcP S i false) k) = fb_ct (fun k' => gcP S i false k' && q (frm S i k')) k
  | 0, _ => rfl
  | k + 1, h => by
    have ih := row_ct (q := q) k (fun k' hk' => h k' (by omega))
    rw [fb_ct_succ, fb_ct_succ, ← ih]
    cases hg : gcP S i false k with
    | false => rfl
    | true =>
      rw [if_pos rfl, fb_ct_succ, h k (by omega) hg]
      rfl
theorem never_L {S : Sc} (hS : okS S) {i : Nat} (hi : i < cI S) {M : Mem} (hF : FF S i (Tn S i) M) {x1 x2 : Int32} : ∀ (d n c : Nat), c + d = fb_ct (gcP S i false) (Tn S i) → d < n → fX5_empty_29L n x1 x2 (i32 ((fb_ct (fun c => decide (M.1 66 c = 0)) c : Nat) : Int)) (i32 c) M = if x2 = 1 then some (i32 ((fb_ct (nev S i) (Tn S i) : Nat) : Int), M) else fX5_empty_75L FU x1 (i32 ((fb_ct (nev S i) (Tn S i) : Nat) : Int)) 0 0 M := by
  have hT := T_49 hS hi
  have hle := fb_ct_le (gcP S i false) (Tn S i)
  intro d
  induction d with
  | zero =>
    intro n c h1 h2
    obtain ⟨n, rfl⟩ : ∃ m, n = m + 1 := ⟨n - 1, by omega⟩
    obtain rfl : c = fb_ct (gcP S i false) (Tn S i) := by omega
    have e := row_ct (q := fun x => decide (x = 0)) (Tn S i) hF.2
    show fX5_empty_29B (fX5_empty_29L n) _ _ _ _ _ = _
    unfold fX5_empty_29B
    rw [hF.1, if_pos ((i32_le (by omega)).mpr (by omega)), e]
    rfl
  | succ d ih =>
    intro n c h1 h2
    obtain ⟨n, rfl⟩ : ∃ m, n = m + 1 := ⟨n - 1, by omega⟩
    have iht := ih n (c + 1) (by omega) (by omega)
    rw [fb_ct_succ] at iht
    show fX5_empty_29B (fX5_empty_29L n) _ _ _ _ _ = _
    unfold fX5_empty_29B fX5_empty_54
    rw [hF.1, if_neg (fun z => absurd ((i32_le (by omega)).mp z) (by omega)), rI_ok (by omega), show ((c : Int)).toNat = c by omega]
    simp only [Option.bind_some, Option.bind_none]
    rw [show (1 : Int32) = i32 1 from rfl, show (0 : Int32) = i32 0 from rfl, i32_add, i32_add, i32_add, show (c : Int) + 1 = ((c + 1 : Nat) : Int) by omega]
    by_cases z : M.1 66 c = 0
    · rw [decide_eq_true z, if_pos rfl] at iht
      rw [if_pos (show M.1 66 c = i32 0 from z)]
      exact iht
    · rw [decide_eq_false z, if_neg (by decide)] at iht
      rw [if_neg (show ¬ M.1 66 c = i32 0 from z), Int.add_zero]
      exact iht
theorem alk_L {S : Sc} (hS : okS S) {i : Nat} (hi : i < cI S) {M : Mem} (hR : RM S M) {x3 : Int32} : ∀ (d n j : Nat), j + d = cI S → d < n → fX5_empty_75L n (i32 i) x3 (acc (al S i) j) (i32 j) M = fX5_empty_122L FU x3 (Al S i) (-9) 0 M := by
  have h10 := hS.2.2.2.1
  have r49 : rI M 49 2 0 = some (i32 (cI S)) := by
    rw [show (0 : Int32) = i32 ((0 : Nat) : Int) from rfl, rI_ok (by omega), show (((0 : Nat) : Int)).toNat = 0 from rfl, hR.2.2.2.1]
  intro d
  induction d with
  | zero =>
    intro n j h1 h2
    obtain ⟨n, rfl⟩ : ∃ m, n = m + 1 := ⟨n - 1, by omega⟩
    obtain rfl : j = cI S := by omega
    show fX5_empty_75B (fX5_empty_75L n) _ _ _ _ _ = _
    unfold fX5_empty_75B
    rw [r49]
    simp only [Option.bind_some, Option.bind_none]
    rw [if_pos ((i32_le (by omega)).mpr (by omega))]; rfl
  | succ d ih =>
    intro n j h1 h2
    obtain ⟨n, rfl⟩ : ∃ m, n = m + 1 := ⟨n - 1, by omega⟩
    have iht := ih n (j + 1) (by omega) (by omega)
    rw [acc_s] at iht
    show fX5_empty_75B (fX5_empty_75L n) _ _ _ _ _ = _
    unfold fX5_empty_75B fX5_empty_106
    rw [r49]
    simp only [Option.bind_some, Option.bind_none]
    rw [if_neg (fun z => absurd ((i32_le (by omega)).mp z) (by omega)), alike_M hS hR hi (by omega)]
    simp only [Option.bind_some, Option.bind_none]
    rw [show i32 (j : Int) + 1 = i32 ((j + 1 : Nat) : Int) by rw [show (1 : Int32) = i32 1 from rfl, i32_add]; rfl]
    cases ha : al S i j with
    | false =>
      rw [ha, if_neg (by decide)] at iht
      rw [if_pos (by decide)]; exact iht
    | true =>
      rw [ha, if_pos rfl] at iht
      rw [if_neg (by decide)]; exact iht
/-- every free row has one of the set -/
theorem allc_L {S : Sc} (hS : okS S) {i : Nat} (hi : i < cI S) {M : Mem} (hF : FF S i (Tn S i) M) {k122 : Int32 → Int32 → Int32 → Int32 → Mem → Option (Int32 × Mem)} {x3 x4 x5 x6 : Int32} : ∀ (d n c : Nat) (is : Bool), c + d = fb_ct (gcP S i false) (Tn S i) → d < n → ∃ b : Bool, fX5_empty_179L k122 n x3 x4 x5 x6 (i32 (bI is)) (i32 c) M = k122 x3 x4 (if b = true then x6 else x5) (x6 + 1) M ∧ (b = true ↔ is = true ∧ ∀ c', c ≤ c' → c' < fb_ct (gcP S i false) (Tn S i) → (M.1 66 c' &&& x6) ≠ 0) := by
  have hT := T_49 hS hi
  have hle := fb_ct_le (gcP S i false) (Tn S i)
  have e219 : ∀ is : Bool, fX5_empty_219 k122 x3 x4 x5 x6 (i32 (bI is)) M = k122 x3 x4 (if is = true then x6 else x5) (x6 + 1) M := fun is => by
    unfold fX5_empty_219 fX5_empty_231
    rw [show (0 : Int32) = i32 0 from rfl, ite_bI]
    cases is <;> rfl
  intro d
  induction d with
  | zero =>
    intro n c is h1 h2
    obtain ⟨n, rfl⟩ : ∃ m, n = m + 1 := ⟨n - 1, by omega⟩
    refine ⟨is, ?_, ⟨fun h => ⟨h, fun c' q1 q2 => absurd q2 (by omega)⟩, fun h => h.1⟩⟩
    show fX5_empty_179B k122 (fX5_empty_179L k122 n) _ _ _ _ _ _ _ = _
    unfold fX5_empty_179B
    rw [hF.1, if_pos ((i32_le (by omega)).mpr (by omega)), e219]
  | succ d ih =>
    intro n c is h1 h2
    obtain ⟨n, rfl⟩ : ∃ m, n = m + 1 := ⟨n - 1, by omega⟩
    have e211 : ∀ b : Bool, fX5_empty_211 k122 (fX5_empty_179L k122 n) x3 x4 x5 x6 (i32 c) (i32 (bI b)) M = fX5_empty_179L k122 n x3 x4 x5 x6 (i32 (bI b)) (i32 ((c + 1 : Nat) : Int)) M := fun b => by
      unfold fX5_empty_211
      rw [show (1 : Int32) = i32 1 from rfl, i32_add]; rfl
    have e0 : fX5_empty_179L k122 (n + 1) x3 x4 x5 x6 (i32 (bI is)) (i32 c) M = if is = true then (if (M.1 66 c &&& x6) = i32 0 then fX5_empty_179L k122 n x3 x4 x5 x6 (i32 (bI false)) (i32 ((c + 1 : Nat) : Int)) M else fX5_empty_179L k122 n x3 x4 x5 x6 (i32 (bI true)) (i32 ((c + 1 : Nat) : Int)) M) else k122 x3 x4 x5 (x6 + 1) M := by
      show fX5_empty_179B k122 (fX5_empty_179L k122 n) _ _ _ _ _ _ _ = _
      unfold fX5_empty_179B
      rw [hF.1, if_neg (fun z => absurd ((i32_le (by omega)).mp z) (by omega)), rI_ok (by omega), show ((c : Int)).toNat = c by omega]
      simp only [Option.bind_some, Option.bind_none]
      rw [e219, ← e211, ← e211, show (0 : Int32) = i32 0 from rfl, ite_bI]
      cases is <;> rfl
    rw [e0]
    cases his : is with
    | false => exact ⟨false, rfl, ⟨fun h => absurd h (by decide), fun h => absurd h.1 (by decide)⟩⟩
    | true =>
      rw [if_pos rfl]
      by_cases z : (M.1 66 c &&& x6) = i32 0
      · rw [if_pos z]
        obtain ⟨b, b1, b2⟩ := ih n (c + 1) false (by omega) (by omega)
        refine ⟨b, b1, b2.trans ⟨fun h => absurd h.1 (by decide), fun h => absurd z (h.2 c (by omega) (by omega))⟩⟩
      · rw [if_neg z]
        obtain ⟨b, b1, b2⟩ := ih n (c + 1) true (by omega) (by omega)
        refine ⟨b, b1, b2.trans ⟨fun h => ⟨rfl, fun c' q1 q2 => ?_⟩, fun h => ⟨rfl, fun c' q1 q2 => h.2 c' (by omega) q2⟩⟩⟩
        by_cases w : c' = c
        · rw [w]; exact z
        · exact h.2 c' (by omega) q2
theorem cells_iff {S : Sc} {i : Nat} {M : Mem} {x : Int32} : ∀ k, (∀ k', k' < k → gcP S i false k' = true → M.1 66 (fb_ct (gcP S i false) k') = frm S i k') → ((∀ c', c' < fb_ct (gcP S i false) k → (M.1 66 c' &&& x) ≠ 0) ↔ ∀ k', k' < k → gcP S i false k' = true → (frm S i k' &&& x) ≠ 0) := by
  intro k h
  constructor
  · intro g k' hk' hg
    rw [← h k' hk' hg]
    exact g _ (ct_lt hk' hg)
  · intro g c' hc'
    obtain ⟨k', k1, k2, k3⟩ := fb_ct_kth hc'
    rw [← k3, h k' k1 k2]
    exact g k' k1 k2
theorem choose_L {S : Sc} (hS : okS S) {i : Nat} (hi : i < cI S) {M : Mem} (hR : RM S M) (hF : FF S i (Tn S i) M) {v : Nat} (hv : v ≤ 49) : ∀ (d n y : Nat), y + d = 2 ^ cI S → d < n → fX5_empty_122L n (i32 v) (Al S i) (i32 (bst S i y)) (i32 y) M = if v = 0 then some (i32 (bst S i (2 ^ cI S)), M) else some (i32 (bst S i y), M) := by
  have h10 := hS.2.2.2.1
  obtain ⟨p1, p2⟩ := pow10 (cI S) h10
  have r49 : rI M 49 2 0 = some (i32 (cI S)) := by
    rw [show (0 : Int32) = i32 ((0 : Nat) : Int) from rfl, rI_ok (by omega), show (((0 : Nat) : Int)).toNat = 0 from rfl, hR.2.2.2.1]
  intro d
  induction d with
  | zero =>
    intro n y h1 h2
    obtain ⟨n, rfl⟩ : ∃ m, n = m + 1 := ⟨n - 1, by omega⟩
    have hy : y = 2 ^ cI S := by omega
    rw [← hy] at p1
    rw [← hy]
    show fX5_empty_122B (fX5_empty_122L n) _ _ _ _ _ = _
    unfold fX5_empty_122B
    rw [r49]
    simp only [Option.bind_some, Option.bind_none]
    rw [p1, if_pos ((i32_le (by omega)).mpr (by omega))]
    by_cases z : v = 0
    · rw [if_pos z]
    · rw [if_neg z]
  | succ d ih =>
    intro n y h1 h2
    obtain ⟨n, rfl⟩ : ∃ m, n = m + 1 := ⟨n - 1, by omega⟩
    have hb := bst_b S i y
    show fX5_empty_122B (fX5_empty_122L n) _ _ _ _ _ = _
    unfold fX5_empty_122B fX5_empty_169 fX5_empty_173
    rw [r49]
    simp only [Option.bind_some, Option.bind_none]
    rw [p1, if_neg (fun z => absurd ((i32_le (by omega)).mp z) (by omega))]
    by_cases hv0 : v = 0
    · have iht := ih n (y + 1) (by omega) (by omega)
      rw [if_pos hv0] at iht
      rw [if_pos hv0, if_pos (show i32 (v : Int) = 0 by rw [hv0]; rfl)]
      unfold fX5_empty_174
      have run : ∀ is : Bool, (is = true ↔ sub S i y = true ∧ fwr (bst S i y) y = true) → fX5_empty_179L (fX5_empty_122L n) FU (i32 v) (Al S i) (i32 (bst S i y)) (i32 y) (i32 (bI is)) (i32 0) M = some (i32 (bst S i (2 ^ cI S)), M) := by
        intro is his
        obtain ⟨b, b1, b2⟩ := allc_L hS hi hF (k122 := fX5_empty_122L n) (x3 := i32 v) (x4 := Al S i) (x5 := i32 (bst S i y)) (x6 := i32 y) (fb_ct (gcP S i false) (Tn S i)) FU 0 is (by omega) (by have := fb_ct_le (gcP S i false) (Tn S i); have := T_49 hS hi; unfold FU; omega)
        have hbb : b = (sub S i y && (fwr (bst S i y) y && sat S i y)) := by
          apply Bool.eq_iff_iff.mpr
          rw [b2, his, Bool.and_eq_true, Bool.and_eq_true]
          have ci := cells_iff (x := i32 (y : Int)) (Tn S i) hF.2
          constructor
          · rintro ⟨⟨q1, q2⟩, q3⟩
            exact ⟨q1, q2, (sat_iff hS hi q1).mpr (ci.mp (fun c' hc' => q3 c' (Nat.zero_le _) hc'))⟩
          · rintro ⟨q1, q2, q3⟩
            exact ⟨⟨q1, q2⟩, fun c' _ hc' => ci.mpr ((sat_iff hS hi q1).mp q3) c' hc'⟩
        have b1' : fX5_empty_179L (fX5_empty_122L n) FU (i32 v) (Al S i) (i32 (bst S i y)) (i32 y) (i32 (bI is)) (i32 0) M = _ := b1
        rw [b1', ← iht, show i32 (y : Int) + 1 = i32 ((y + 1 : Nat) : Int) by rw [show (1 : Int32) = i32 1 from rfl, i32_add]; rfl]
        rw [show bst S i (y + 1) = if (sub S i y && (fwr (bst S i y) y && sat S i y)) = true then (y : Int) else bst S i y from rfl, ← hbb]
        cases b <;> rfl
      have hfalse : fX5_empty_179L (fX5_empty_122L n) FU (i32 v) (Al S i) (i32 (bst S i y)) (i32 y) 0 0 M = fX5_empty_179L (fX5_empty_122L n) FU (i32 v) (Al S i) (i32 (bst S i y)) (i32 y) (i32 (bI false)) (i32 0) M := rfl
      have htrue : fX5_empty_179L (fX5_empty_122L n) FU (i32 v) (Al S i) (i32 (bst S i y)) (i32 y) 1 0 M = fX5_empty_179L (fX5_empty_122L n) FU (i32 v) (Al S i) (i32 (bst S i y)) (i32 y) (i32 (bI true)) (i32 0) M := rfl
      rw [hfalse, htrue]
      by_cases z : i32 (y : Int) &&& (Al S i ^^^ (-1)) = 0
      · have hs : sub S i y = true := decide_eq_true z
        rw [if_pos z]
        rcases hb with q | q
        · rw [if_pos (show i32 (bst S i y) = -9 by rw [q]; rfl)]
          exact run true ⟨fun _ => ⟨hs, by unfold fwr; rw [decide_eq_true q]; rfl⟩, fun _ => rfl⟩
        · have s1 : s10 (i32 (y : Int)) := fun j h1 h2 => s10_set y (by omega) j h2 h1
          have s2 : s10 (i32 (bst S i y)) := by
            obtain ⟨z, hz⟩ : ∃ z : Nat, bst S i y = z := ⟨(bst S i y).toNat, by omega⟩
            rw [hz]; exact fun j h1 h2 => s10_set z (by omega) j h2 h1
          have p1 := pc_le (i32 (y : Int))
          have p2 := pc_le (i32 (bst S i y))
          rw [if_neg (show ¬ i32 (bst S i y) = -9 from fun z => by have := (i32_inj (b := -9) (by omega)).mp z; omega), bitsIn_M s1, bitsIn_M s2]
          simp only [Option.bind_some, Option.bind_none]
          by_cases z : pcI (i32 (y : Int)) < pcI (i32 (bst S i y))
          · rw [if_neg (fun q => absurd ((i32_le (by omega)).mp q) (by omega))]
            exact run true ⟨fun _ => ⟨hs, by unfold fwr; rw [decide_eq_false (by omega)]; exact decide_eq_true z⟩, fun _ => rfl⟩
          · rw [if_pos ((i32_le (by omega)).mpr (by omega))]
            refine run false ⟨fun h => absurd h (by decide), fun h => ?_⟩
            have h2 := h.2
            unfold fwr at h2
            rw [decide_eq_false (show ¬ bst S i y = -9 by omega), Bool.false_or, decide_eq_true_iff] at h2
            exact absurd h2 z
      · have hs : sub S i y = false := decide_eq_false z
        rw [if_neg z]
        refine run false ⟨fun h => absurd h (by decide), fun h => ?_⟩
        rw [hs] at h; exact absurd h.1 (by decide)
    · rw [if_neg hv0, if_neg (show ¬ i32 (v : Int) = 0 from fun z => hv0 (by have := (i32_inj (b := 0) (by omega)).mp z; omega))]
theorem bst_more {S : Sc} (hS : okS S) {i : Nat} {aN : Nat} (hA : Al S i = i32 (aN : Int)) (haN : aN < 1024) : ∀ d, aN + 1 + d ≤ 1024 → bst S i (aN + 1 + d) = bst S i (aN + 1)
  | 0, _ => rfl
  | d + 1, hd => by
    have ih := bst_more hS hA haN d (by omega)
    have hs : sub S i (aN + 1 + d) = false := by
      apply Bool.eq_false_iff.mpr
      intro h
      have h' := (sub_iff hS i).mp h
      have : (aN + 1 + d) &&& aN = aN + 1 + d := by
        apply Nat.eq_of_testBit_eq
        intro j
        rw [Nat.testBit_and]
        cases hb : (aN + 1 + d).testBit j with
        | false => rw [Bool.false_and]
        | true =>
          have hj : j < 10 := tb_lt (k := 10) (by omega) hb
          obtain ⟨y1, y2⟩ := h' j (by omega) hb
          have hbt := bt_Al hS i (j := j) (by omega)
          rw [hA, i32_nI, bt_nI (by omega), decide_eq_true y1, y2] at hbt
          rw [hbt]; rfl
      have h2 : (aN + 1 + d) &&& aN ≤ aN := Nat.and_le_right
      omega
    show (if (sub S i (aN + 1 + d) && (fwr (bst S i (aN + 1 + d)) (aN + 1 + d) && sat S i (aN + 1 + d))) = true then _ else bst S i (aN + 1 + d)) = _
    rw [hs, Bool.false_and, if_neg (by decide), ih]
theorem bst_nev {S : Sc} (hS : okS S) {i : Nat} (hi : i < cI S) (hn : fb_ct (nev S i) (Tn S i) ≠ 0) : ∀ n, bst S i n = -9
  | 0 => rfl
  | n + 1 => by
    have ih := bst_nev hS hi hn n
    show (if (sub S i n && (fwr (bst S i n) n && sat S i n)) = true then _ else bst S i n) = _
    rw [if_neg, ih]
    intro h
    rw [Bool.and_eq_true, Bool.and_eq_true] at h
    obtain ⟨k, k1, k2⟩ := fb_ct_pos.mp (Nat.pos_of_ne_zero hn)
    unfold nev at k2
    rw [Bool.and_eq_true, decide_eq_true_iff] at k2
    apply (sat_iff hS hi h.1).mp h.2.2 k k1 k2.1
    rw [k2.2]
    apply b_ext
    intro j hj
    rw [b_and, b_0, Bool.false_and]
theorem o_empty {M : Mem} (h : Inv M) (x y : Int32) : ∃ v M1 M2, fX4_empty x y M = some (v, M1) ∧ fX5_empty x y M1 = some (v, M2) ∧ Inv M2 := by
  obtain ⟨b, sp, S, N, K0, K1, N0, N1, L, h⟩ := h
  obtain ⟨a1, i1, c1, d1, ⟨e1, e2, e3⟩, f1, g1, h1, j1, k1⟩ := id h
  obtain ⟨hS, -, hR, hC, -⟩ := id i1
  have h10 := hS.2.2.2.1
  obtain ⟨x, hx, rfl⟩ := i32_ex x
  obtain ⟨y, hy, rfl⟩ := i32_ex y
  have hbM := a1.2.2.2.1
  have hC0 : fX4_empty (i32 x) (i32 y) M = (if btw x 0 ((cI S : Int) - 1) = true then (if btw y 0 1 = true then (if i32 y = i32 0 then (fX2_fewestForEmpty b (i32 x) M).bind fun v4 => some (v4.1, v4.2) else (fX2_countNeverEmpty b (i32 x) M).bind fun v3 => some (v3.1, v3.2)) else some (i32 (-1), M)) else some (i32 (-1), M)) := by
    unfold fX4_empty
    simp only [L0, L1, L2, L3, L4, L5, L6, L7, L8, L9, L10, L11, L12, L13, L15, L16, L20, L24, L31, L32, L40, L41, L48, L50, L57, L59, L63, L80, L81, L96, L97, L99, L100, L122, L144, L199, L255, L400, L1681, L68921, L1000000]
    rw [hbM, isPicture_C hS hR hx, isBetween_C (by omega)]
    simp only [Option.bind_some, Option.bind_none, ite_bI]
    rfl
  have hM0 : ∀ M2, RM S M2 → fX5_empty (i32 x) (i32 y) M2 = (if btw x 0 ((cI S : Int) - 1) = true then (if btw y 0 1 = true then ((fX5_findFree (i32 x) M2).bind fun v3 => fX5_empty_29L FU (i32 x) (i32 y) (i32 0) (i32 0) v3) else some (i32 (-1), M2)) else some (i32 (-1), M2)) := by
    intro M2 hM
    unfold fX5_empty
    simp only [L0, L1, L2, L3, L4, L5, L6, L7, L8, L9, L10, L11, L12, L13, L15, L16, L20, L24, L31, L32, L40, L41, L48, L50, L57, L59, L63, L80, L81, L96, L97, L99, L100, L122, L144, L199, L255, L400, L1681, L68921, L1000000]
    rw [isPicture_M hS hM hx, in_M (by omega)]
    simp only [Option.bind_some, Option.bind_none, ite_bI]
    rfl
  rw [hC0]
  cases q1 : btw x 0 ((cI S : Int) - 1) with
  | false => exact ⟨i32 (-1), M, M, rfl, by rw [hM0 M d1, q1]; rfl, _, _, _, _, _, _, _, _, _, h⟩
  | true =>
  cases q2 : btw y 0 1 with
  | false => exact ⟨i32 (-1), M, M, rfl, by rw [hM0 M d1, q1, q2]; rfl, _, _, _, _, _, _, _, _, _, h⟩
  | true =>
    obtain ⟨i, hi, rfl⟩ := nat_of q1
    rw [if_pos rfl, if_pos rfl]
    obtain ⟨Ma, t1, t2, t3, t4, t5⟩ := findE_L hS a1.1 hi (cI S) FU 0 M (by omega) (by unfold FU; omega) hR hC (fun k hk => absurd hk (by omega))
    have t1' : fX2_findEmpties b (i32 i) M = some (Al S i, Ma) := t1
    obtain ⟨Mb, u1, u2, u3, u4⟩ := groundOf_C hS t4 t2 hi false
    have u1' : fX2_groundOf b (i32 i) 0 Ma = some (Gi S i, Mb) := u1
    have hE : ∀ k, k < cI S → al S i k = true → Mb.2.1 (b + 8) k = Ej S k := fun k hk ha => by rw [u3.2.1]; exact t5 k hk ha
    have hq : QC b M Mb := t3.tr u3.q
    have hMb : RM S Mb := h.rm hq
    obtain ⟨Mf, w1, w2, w3, w4⟩ := findFree_M hS hi hMb
    have hI : Inv Mf := ⟨b, sp, S, N, K0, K1, N0, N1, L, h.q hq u2 w2⟩
    have hT := T_49 hS hi
    have hnle := fb_ct_le (nev S i) (Tn S i)
    have hnv := never_L hS hi w4 (x1 := i32 i) (x2 := i32 y) (fb_ct (gcP S i false) (Tn S i)) FU 0 (by omega) (by have := fb_ct_le (gcP S i false) (Tn S i); unfold FU; omega)
    have hnv' : fX5_empty_29L FU (i32 i) (i32 y) (i32 0) (i32 0) Mf = _ := hnv
    have y01 := btw_t q2
    by_cases y0 : y = 0
    · subst y0
      obtain ⟨aN, ha1, ha2⟩ := s10_n (s10_acc (c := al S i) (n := cI S) h10)
      have hA : Al S i = i32 (aN : Int) := ha2
      have p2 := (pow10 (cI S) h10).2
      have haN : aN < 2 ^ cI S := by
        apply Nat.lt_pow_two_of_testBit
        intro j hj
        by_cases z : j < 32
        · rw [← bt_nI z, ← i32_nI, ← hA, bt_Al hS i z, decide_eq_false (by omega), Bool.false_and]
        · exact Nat.testBit_lt_two_pow (Nat.lt_of_lt_of_le ha1 (Nat.pow_le_pow_right (n := 2) (i := 10) (by decide) (by omega)))
      have hf := fewE_L hS u4 (i := i) hE ha1 hA (aN + 1) FU 0 (by omega) (by unfold FU; omega)
      have hf' : fX2_fewestForEmpty_20L b FU (Al S i) (Gi S i) (-9) 0 Mb = some (i32 (bst S i (aN + 1)), Mb) := hf
      have hm := bst_more hS hA ha1 (2 ^ cI S - (aN + 1)) (by omega)
      rw [show aN + 1 + (2 ^ cI S - (aN + 1)) = 2 ^ cI S by omega] at hm
      refine ⟨i32 (bst S i (2 ^ cI S)), Mb, Mf, ?_, ?_, hI⟩
      · rw [if_pos rfl]
        unfold fX2_fewestForEmpty
        rw [t1']
        simp only [Option.bind_some, Option.bind_none]
        rw [u1']
        simp only [Option.bind_some, Option.bind_none]
        rw [hf', hm]
        rfl
      · rw [hM0 Mb hMb, q1, q2, if_pos rfl, if_pos rfl, w1]
        simp only [Option.bind_some, Option.bind_none]
        rw [hnv', if_neg (by decide)]
        have hk := alk_L hS hi w3 (x3 := i32 ((fb_ct (nev S i) (Tn S i) : Nat) : Int)) (cI S) FU 0 (by omega) (by unfold FU; omega)
        have hk' : fX5_empty_75L FU (i32 i) (i32 ((fb_ct (nev S i) (Tn S i) : Nat) : Int)) 0 0 Mf = _ := hk
        have hch := choose_L hS hi w3 w4 (v := fb_ct (nev S i) (Tn S i)) (by omega) (2 ^ cI S) FU 0 (by omega) (by unfold FU; omega)
        have hch' : fX5_empty_122L FU (i32 ((fb_ct (nev S i) (Tn S i) : Nat) : Int)) (Al S i) (-9) 0 Mf = _ := hch
        rw [hk', hch']
        by_cases z : fb_ct (nev S i) (Tn S i) = 0
        · rw [if_pos z]
        · rw [if_neg z, bst_nev hS hi z, bst_nev hS hi z]
    · have y1 : y = 1 := by omega
      subst y1
      refine ⟨i32 ((fb_ct (nev S i) (Tn S i) : Nat) : Int), Mb, Mf, ?_, ?_, hI⟩
      · rw [if_neg (by decide)]
        unfold fX2_countNeverEmpty
        rw [t1']
        simp only [Option.bind_some, Option.bind_none]
        rw [u1']
        simp only [Option.bind_some, Option.bind_none]
        rw [eIn_C hS u4 (set := Al S i) (fun k hk hb => hE k hk (by rw [bt_Al hS i (by omega), Bool.and_eq_true] at hb; exact hb.2))]
        simp only [Option.bind_some, Option.bind_none]
        rw [bitCountL, nev_C hS hi]
        rfl
      · rw [hM0 Mb hMb, q1, q2, if_pos rfl, if_pos rfl, w1]
        simp only [Option.bind_some, Option.bind_none]
        rw [hnv', if_pos (by decide)]

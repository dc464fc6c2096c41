/-! from: places, by number -/
def plX (S : Sc) (k : Nat) : Int := (k / 4 : Nat) % cW S
def plY (S : Sc) (k : Nat) : Int := (k / 4 : Nat) / cW S
def pl (S : Sc) (r t : Int) (set : Int32) (k : Nat) : Bool := !cWl S (plX S k) (plY S k) && decide (shS S (plX S k) (plY S k) ((k % 4 : Nat) : Int) r t = set)
theorem pl_b {S : Sc} (hS : okS S) {k : Nat} (hk : (k : Int) < 4 * cW S * cH S) : sCell S (plX S k) (plY S k) = true ∧ cW S * plY S k + plX S k = ((k / 4 : Nat) : Int) := by
  have w1 := hS.1
  have w2 := hS.2.1
  have e : 4 * cW S * cH S = 4 * (cW S * cH S) := by rw [Int.mul_assoc]
  have hc : ((k / 4 : Nat) : Int) < cH S * cW S := by rw [Int.mul_comm]; omega
  have h1 := Int.emod_nonneg ((k / 4 : Nat) : Int) (show cW S ≠ 0 by omega)
  have h2 := Int.emod_lt_of_pos ((k / 4 : Nat) : Int) (show 0 < cW S by omega)
  have h3 := Int.ediv_lt_of_lt_mul (show 0 < cW S by omega) hc
  have h4 := Int.ediv_nonneg (show 0 ≤ ((k / 4 : Nat) : Int) by omega) (show 0 ≤ cW S by omega)
  have h5 := Int.mul_ediv_add_emod ((k / 4 : Nat) : Int) (cW S)
  exact ⟨sCell_iff.mpr ⟨⟨h1, h2⟩, h4, h3⟩, h5⟩
theorem place_n {k : Nat} (hk : k < 1000) : i32 (k : Int) / 4 = i32 ((k / 4 : Nat) : Int) ∧ i32 (k : Int) - i32 (k : Int) / 4 * 4 = i32 ((k % 4 : Nat) : Int) := by
  have e1 : i32 (k : Int) / 4 = i32 ((k / 4 : Nat) : Int) := by
    rw [show (4 : Int32) = i32 4 from rfl, i32_div (by omega), Int.tdiv_eq_ediv_of_nonneg (by omega)]
    congr 1
  refine ⟨e1, ?_⟩
  rw [e1, show (4 : Int32) = i32 4 from rfl, i32_mul, i32_sub]
  congr 1
  omega
theorem cell_dm {W c : Int} (hW : 0 < W) (hc : 0 ≤ c) : c - c.tdiv W * W = c % W ∧ c.tdiv W = c / W := by
  rw [Int.tdiv_eq_ediv_of_nonneg hc]
  have := Int.mul_ediv_add_emod c W
  rw [Int.mul_comm] at this
  exact ⟨by omega, rfl⟩
theorem isPlace_C {b : Nat} {S : Sc} {M : Mem} (hS : okS S) (hR : RC b S M) (hC : Cached b S M) {r t : Int} (hr : 0 ≤ r ∧ r ≤ 9) (ht : 0 ≤ t ∧ t ≤ 1000) (set : Int32) {k : Nat} (hk : (k : Int) < 4 * cW S * cH S) : ∃ M', fX2_isPlaceOf b (i32 k) set (i32 r) (i32 t) M = some (i32 (bI (pl S r t set k)), M') ∧ Cached b S M' ∧ Sm b M M' ∧ RC b S M' := by
  have w1 := hS.1
  obtain ⟨hc, he⟩ := pl_b hS hk
  have hcb := cell_b hS hc
  obtain ⟨e1, e2⟩ := place_n (k := k) (by omega)
  have hcd := cell_dm (W := cW S) (c := ((k / 4 : Nat) : Int)) (by omega) (by omega)
  unfold fX2_isPlaceOf pl
  rw [e2, e1, hR.1, show (1 : Int32) = i32 1 from rfl, if_neg (fun q => absurd ((i32_lt (by omega)).mp q) (by omega)), ← he, wall_C hS hR hc, he]
  simp only [L0, L1, L2, L3, L4, L5, L6, L7, L8, L9, L10, L11, L12, L13, L15, L16, L20, L24, L31, L32, L40, L41, L48, L50, L57, L59, L63, L80, L81, L96, L97, L99, L100, L122, L144, L199, L255, L400, L1681, L68921, L1000000, i32_add, i32_sub, i32_mul, i32_neg, Option.bind_some, Option.bind_none, ite_bI]
  cases hw : cWl S (plX S k) (plY S k) with
  | true => exact ⟨M, rfl, hC, Sm.rf, hR⟩
  | false =>
    obtain ⟨M', g1, g2, g3, g4⟩ := shownFrom_C hS hR hC (r := r) (t := t) (x := plX S k) (y := plY S k) (w := ((k % 4 : Nat) : Int)) ⟨sCell_iff.mp hc, by omega⟩ hr ht
    refine ⟨M', ?_, g2.cached ht, g3, g4⟩
    rw [if_neg (by decide), oR_ok (by omega), oD_ok (by omega), hcd.1, hcd.2]
    simp only [Option.bind_some, Option.bind_none]
    rw [show ((k / 4 : Nat) : Int) % cW S = plX S k from rfl, show ((k / 4 : Nat) : Int) / cW S = plY S k from rfl, g1]
    simp only [Option.bind_some, Option.bind_none]
    by_cases hq : shS S (plX S k) (plY S k) ((k % 4 : Nat) : Int) r t = set
    · rw [if_pos hq, decide_eq_true hq]; rfl
    · rw [if_neg hq, decide_eq_false hq]; rfl
def ctP (S : Sc) (r t : Int) (set : Int32) (n : Nat) : Nat := fb_ct (pl S r t set) n
def fsP (S : Sc) (r t : Int) (set : Int32) : Nat → Int
  | 0 => -9
  | n + 1 => if pl S r t set n = true ∧ ctP S r t set n = 0 then (n : Int) else fsP S r t set n
theorem ctP_s (S : Sc) (r t : Int) (set : Int32) (n : Nat) : ctP S r t set (n + 1) = ctP S r t set n + (if pl S r t set n = true then 1 else 0) := rfl
theorem fsP_0 (S : Sc) (r t : Int) (set : Int32) : ∀ n, ctP S r t set n = 0 → fsP S r t set n = -9
  | 0, _ => rfl
  | n + 1, h => by
    rw [ctP_s] at h
    have h1 : ctP S r t set n = 0 := by omega
    have h2 : ¬ pl S r t set n = true := fun q => by rw [if_pos q] at h; omega
    show (if _ then _ else _) = _
    rw [if_neg (fun q => h2 q.1)]
    exact fsP_0 S r t set n h1
theorem fsP_st (S : Sc) (r t : Int) (set : Int32) (k : Nat) (h1 : pl S r t set k = true) (h2 : ctP S r t set k = 0) : ∀ d, fsP S r t set (k + 1 + d) = k ∧ 0 < ctP S r t set (k + 1 + d)
  | 0 => by
    refine ⟨if_pos ⟨h1, h2⟩, ?_⟩
    rw [Nat.add_zero, ctP_s, if_pos h1]; omega
  | d + 1 => by
    obtain ⟨g1, g2⟩ := fsP_st S r t set k h1 h2 d
    refine ⟨?_, ?_⟩
    · rw [show fsP S r t set (k + 1 + (d + 1)) = if pl S r t set (k + 1 + d) = true ∧ ctP S r t set (k + 1 + d) = 0 then ((k + 1 + d : Nat) : Int) else fsP S r t set (k + 1 + d) from rfl, if_neg (fun q => by have := q.2; omega)]
      exact g1
    · rw [show k + 1 + (d + 1) = (k + 1 + d) + 1 from rfl, ctP_s]; omega
theorem kk_b {S : Sc} (hS : okS S) : 0 ≤ 4 * cW S * cH S ∧ 4 * cW S * cH S ≤ 576 := by
  obtain ⟨⟨w1, w2⟩, ⟨w3, w4⟩, -⟩ := hS
  have e4 : cW S * cH S ≤ 12 * 12 := Int.mul_le_mul w2 w4 (by omega) (by omega)
  have e5 : 0 ≤ cW S * cH S := Int.mul_nonneg (by omega) (by omega)
  rw [Int.mul_assoc]
  omega
theorem ct_le (S : Sc) (r t : Int) (set : Int32) (n : Nat) : ctP S r t set n ≤ n := fb_ct_le _ n
theorem countP_L {b : Nat} {S : Sc} (hS : okS S) {r t : Int} (hr : 0 ≤ r ∧ r ≤ 9) (ht : 0 ≤ t ∧ t ≤ 1000) (set : Int32) : ∀ (d n k : Nat) (M : Mem), RC b S M → Cached b S M → ((k + d : Nat) : Int) = 4 * cW S * cH S → d < n → ∃ M', fX2_countPlacesOf_6L b n set (i32 r) (i32 t) (i32 (ctP S r t set k)) (i32 k) M = some (i32 (ctP S r t set (k + d)), M') ∧ Cached b S M' ∧ Sm b M M' := by
  have hK := kk_b hS
  intro d
  induction d with
  | zero =>
    intro n k M hR hC hd hn
    obtain ⟨n, rfl⟩ : ∃ m, n = m + 1 := ⟨n - 1, by omega⟩
    refine ⟨M, ?_, hC, Sm.rf⟩
    show fX2_countPlacesOf_6B _ b set _ _ _ (i32 k) M = _
    unfold fX2_countPlacesOf_6B
    rw [hR.1, hR.2.1]
    simp only [L0, L1, L2, L3, L4, L5, L6, L7, L8, L9, L10, L11, L12, L13, L15, L16, L20, L24, L31, L32, L40, L41, L48, L50, L57, L59, L63, L80, L81, L96, L97, L99, L100, L122, L144, L199, L255, L400, L1681, L68921, L1000000, i32_add, i32_sub, i32_mul, i32_neg, Option.bind_some, Option.bind_none]
    rw [if_pos ((i32_le (by omega)).mpr (by omega))]
    rfl
  | succ d ih =>
    intro n k M hR hC hd hn
    obtain ⟨n, rfl⟩ : ∃ m, n = m + 1 := ⟨n - 1, by omega⟩
    obtain ⟨M1, g1, g2, g3, g4⟩ := isPlace_C hS hR hC hr ht set (show (k : Int) < 4 * cW S * cH S by omega)
    obtain ⟨M', k1, k2, k3⟩ := ih n (k + 1) M1 g4 g2 (by omega) (by omega)
    refine ⟨M', ?_, k2, g3.tr k3⟩
    show fX2_countPlacesOf_6B (fX2_countPlacesOf_6L b n) b set _ _ _ (i32 k) M = _
    unfold fX2_countPlacesOf_6B
    rw [hR.1, hR.2.1, g1]
    unfold fX2_countPlacesOf_37
    simp only [L0, L1, L2, L3, L4, L5, L6, L7, L8, L9, L10, L11, L12, L13, L15, L16, L20, L24, L31, L32, L40, L41, L48, L50, L57, L59, L63, L80, L81, L96, L97, L99, L100, L122, L144, L199, L255, L400, L1681, L68921, L1000000, i32_add, i32_sub, i32_mul, i32_neg, Option.bind_some, Option.bind_none, ite_bI]
    rw [if_neg (fun q => absurd ((i32_le (by omega)).mp q) (by omega)), show (k : Int) + 1 = ((k + 1 : Nat) : Int) by omega]
    rw [show k + 1 + d = k + (d + 1) by omega] at k1
    rw [← k1, ctP_s]
    cases pl S r t set k with
    | false => rfl
    | true => rw [if_pos rfl, if_pos rfl, show ((ctP S r t set k : Nat) : Int) + 1 = ((ctP S r t set k + 1 : Nat) : Int) by omega]
theorem firstP_L {b : Nat} {S : Sc} (hS : okS S) {r t : Int} (hr : 0 ≤ r ∧ r ≤ 9) (ht : 0 ≤ t ∧ t ≤ 1000) (set : Int32) : ∀ (d n k : Nat) (M : Mem), RC b S M → Cached b S M → ctP S r t set k = 0 → ((k + d : Nat) : Int) = 4 * cW S * cH S → d < n → ∃ M', fX2_firstPlaceOf_3L b n set (i32 r) (i32 t) (i32 k) M = some (i32 (fsP S r t set (k + d)), M') ∧ Cached b S M' ∧ Sm b M M' := by
  have hK := kk_b hS
  intro d
  induction d with
  | zero =>
    intro n k M hR hC h0 hd hn
    obtain ⟨n, rfl⟩ : ∃ m, n = m + 1 := ⟨n - 1, by omega⟩
    refine ⟨M, ?_, hC, Sm.rf⟩
    show fX2_firstPlaceOf_3B _ b set _ _ (i32 k) M = _
    unfold fX2_firstPlaceOf_3B
    rw [hR.1, hR.2.1]
    simp only [L0, L1, L2, L3, L4, L5, L6, L7, L8, L9, L10, L11, L12, L13, L15, L16, L20, L24, L31, L32, L40, L41, L48, L50, L57, L59, L63, L80, L81, L96, L97, L99, L100, L122, L144, L199, L255, L400, L1681, L68921, L1000000, i32_add, i32_sub, i32_mul, i32_neg, Option.bind_some, Option.bind_none]
    rw [if_pos ((i32_le (by omega)).mpr (by omega)), Nat.add_zero, fsP_0 S r t set k h0]
  | succ d ih =>
    intro n k M hR hC h0 hd hn
    obtain ⟨n, rfl⟩ : ∃ m, n = m + 1 := ⟨n - 1, by omega⟩
    obtain ⟨M1, g1, g2, g3, g4⟩ := isPlace_C hS hR hC hr ht set (show (k : Int) < 4 * cW S * cH S by omega)
    have hstep : fX2_firstPlaceOf_3L b (n + 1) set (i32 r) (i32 t) (i32 k) M = if pl S r t set k = true then some (i32 k, M1) else fX2_firstPlaceOf_3L b n set (i32 r) (i32 t) (i32 ((k + 1 : Nat) : Int)) M1 := by
      show fX2_firstPlaceOf_3B (fX2_firstPlaceOf_3L b n) b set _ _ (i32 k) M = _
      unfold fX2_firstPlaceOf_3B
      rw [hR.1, hR.2.1, g1]
      simp only [L0, L1, L2, L3, L4, L5, L6, L7, L8, L9, L10, L11, L12, L13, L15, L16, L20, L24, L31, L32, L40, L41, L48, L50, L57, L59, L63, L80, L81, L96, L97, L99, L100, L122, L144, L199, L255, L400, L1681, L68921, L1000000, i32_add, i32_sub, i32_mul, i32_neg, Option.bind_some, Option.bind_none, ite_bI]
      rw [if_neg (fun q => absurd ((i32_le (by omega)).mp q) (by omega)), show (k : Int) + 1 = ((k + 1 : Nat) : Int) by omega]
    rw [hstep]
    cases hp : pl S r t set k with
    | true =>
      refine ⟨M1, ?_, g2, g3⟩
      rw [if_pos rfl, show k + (d + 1) = k + 1 + d by omega, (fsP_st S r t set k hp h0 d).1]
    | false =>
      obtain ⟨M', k1, k2, k3⟩ := ih n (k + 1) M1 g4 g2 (by rw [ctP_s, hp, h0]; rfl) (by omega) (by omega)
      refine ⟨M', ?_, k2, g3.tr k3⟩
      rw [if_neg (by decide), k1, show k + (d + 1) = k + 1 + d by omega]
theorem fromM_L {S : Sc} (hS : okS S) {r t w : Int} (hr : 0 ≤ r ∧ r ≤ 9) (ht : 0 ≤ t ∧ t ≤ 1000) (hw : 0 ≤ w ∧ w ≤ 1) (set : Int32) : ∀ (d n k : Nat) (M : Mem), RM S M → ((k + d : Nat) : Int) = 4 * cW S * cH S → d < n → ∃ M', fX5_from_51L n set (i32 r) (i32 t) (i32 w) (i32 (ctP S r t set k)) (i32 (fsP S r t set k)) (i32 k) M = some (i32 (if w = 0 then (ctP S r t set (k + d) : Int) else fsP S r t set (k + d)), M') ∧ Vm M M' := by
  have hK := kk_b hS
  have w1 := hS.1
  have w2 := hS.2.1
  intro d
  induction d with
  | zero =>
    intro n k M hR hd hn
    obtain ⟨n, rfl⟩ : ∃ m, n = m + 1 := ⟨n - 1, by omega⟩
    refine ⟨M, ?_, Vm.rf⟩
    show fX5_from_51B _ set _ _ _ _ _ (i32 k) M = _
    unfold fX5_from_51B
    simp only [L0, L1, L2, L3, L4, L5, L6, L7, L8, L9, L10, L11, L12, L13, L15, L16, L20, L24, L31, L32, L40, L41, L48, L50, L57, L59, L63, L80, L81, L96, L97, L99, L100, L122, L144, L199, L255, L400, L1681, L68921, L1000000, i32_add, i32_sub, i32_mul, i32_neg, Option.bind_some, Option.bind_none]
    rw [rI_ok (by omega), show ((0 : Int)).toNat = 0 from rfl, hR.1, rI_ok (by omega), show ((0 : Int)).toNat = 0 from rfl, hR.2.1]
    simp only [L0, L1, L2, L3, L4, L5, L6, L7, L8, L9, L10, L11, L12, L13, L15, L16, L20, L24, L31, L32, L40, L41, L48, L50, L57, L59, L63, L80, L81, L96, L97, L99, L100, L122, L144, L199, L255, L400, L1681, L68921, L1000000, i32_add, i32_sub, i32_mul, i32_neg, Option.bind_some, Option.bind_none]
    rw [if_pos ((i32_le (by omega)).mpr (by omega)), Nat.add_zero]
    by_cases hq : w = 0
    · rw [if_pos (by rw [hq]), if_pos hq]
    · rw [if_neg (fun q => hq ((i32_inj (by omega)).mp q)), if_neg hq]
  | succ d ih =>
    intro n k M hR hd hn
    obtain ⟨n, rfl⟩ : ∃ m, n = m + 1 := ⟨n - 1, by omega⟩
    have hk : (k : Int) < 4 * cW S * cH S := by omega
    obtain ⟨hc, he⟩ := pl_b hS hk
    have hcb := cell_b hS hc
    have hcx := sCell_iff.mp hc
    obtain ⟨e1, e2⟩ := place_n (k := k) (by omega)
    have hcd := cell_dm (W := cW S) (c := ((k / 4 : Nat) : Int)) (by omega) (by omega)
    have hctb := ct_le S r t set k
    -- one step
    have hst : ∃ M1, Vm M M1 ∧ fX5_from_51L (n + 1) set (i32 r) (i32 t) (i32 w) (i32 (ctP S r t set k)) (i32 (fsP S r t set k)) (i32 k) M = fX5_from_51L n set (i32 r) (i32 t) (i32 w) (i32 (ctP S r t set (k + 1))) (i32 (fsP S r t set (k + 1))) (i32 ((k + 1 : Nat) : Int)) M1 := by
      rw [ctP_s, show fsP S r t set (k + 1) = if pl S r t set k = true ∧ ctP S r t set k = 0 then (k : Int) else fsP S r t set k from rfl]
      obtain ⟨M1, l1, l2, l3, l4⟩ := lookFrom_M hR (plX S k) (plY S k) ((k % 4 : Nat) : Int) t
      have hsh := shown_M hS l4 l2 (r := r) ⟨hcx, by omega⟩ (by omega) hr
      have hB : fX5_from_51L (n + 1) set (i32 r) (i32 t) (i32 w) (i32 (ctP S r t set k)) (i32 (fsP S r t set k)) (i32 k) M = if cWl S (plX S k) (plY S k) = true then fX5_from_51L n set (i32 r) (i32 t) (i32 w) (i32 (ctP S r t set k)) (i32 (fsP S r t set k)) (i32 ((k + 1 : Nat) : Int)) M else if shS S (plX S k) (plY S k) ((k % 4 : Nat) : Int) r t = set then (if ctP S r t set k = 0 then fX5_from_51L n set (i32 r) (i32 t) (i32 w) (i32 ((ctP S r t set k + 1 : Nat) : Int)) (i32 k) (i32 ((k + 1 : Nat) : Int)) M1 else fX5_from_51L n set (i32 r) (i32 t) (i32 w) (i32 ((ctP S r t set k + 1 : Nat) : Int)) (i32 (fsP S r t set k)) (i32 ((k + 1 : Nat) : Int)) M1) else fX5_from_51L n set (i32 r) (i32 t) (i32 w) (i32 (ctP S r t set k)) (i32 (fsP S r t set k)) (i32 ((k + 1 : Nat) : Int)) M1 := by
        show fX5_from_51B (fX5_from_51L n) set _ _ _ _ _ (i32 k) M = _
        unfold fX5_from_51B
        rw [e2, e1]
        simp only [L0, L1, L2, L3, L4, L5, L6, L7, L8, L9, L10, L11, L12, L13, L15, L16, L20, L24, L31, L32, L40, L41, L48, L50, L57, L59, L63, L80, L81, L96, L97, L99, L100, L122, L144, L199, L255, L400, L1681, L68921, L1000000, i32_add, i32_sub, i32_mul, i32_neg, Option.bind_some, Option.bind_none]
        rw [rI_ok (by omega), show ((0 : Int)).toNat = 0 from rfl, hR.1, rI_ok (by omega), show ((0 : Int)).toNat = 0 from rfl, hR.2.1]
        simp only [L0, L1, L2, L3, L4, L5, L6, L7, L8, L9, L10, L11, L12, L13, L15, L16, L20, L24, L31, L32, L40, L41, L48, L50, L57, L59, L63, L80, L81, L96, L97, L99, L100, L122, L144, L199, L255, L400, L1681, L68921, L1000000, i32_add, i32_sub, i32_mul, i32_neg, Option.bind_some, Option.bind_none]
        rw [if_neg (fun q => absurd ((i32_le (by omega)).mp q) (by omega)), oR_ok (by omega), oD_ok (by omega), hcd.1, hcd.2]
        simp only [Option.bind_some, Option.bind_none]
        rw [show ((k / 4 : Nat) : Int) % cW S = plX S k from rfl, show ((k / 4 : Nat) : Int) / cW S = plY S k from rfl, isWall_M hS hR (by omega), hc, l1]
        simp only [Option.bind_some, Option.bind_none]
        rw [hsh]
        unfold fX5_from_142 fX5_from_147
        simp only [L0, L1, L2, L3, L4, L5, L6, L7, L8, L9, L10, L11, L12, L13, L15, L16, L20, L24, L31, L32, L40, L41, L48, L50, L57, L59, L63, L80, L81, L96, L97, L99, L100, L122, L144, L199, L255, L400, L1681, L68921, L1000000, i32_add, i32_sub, i32_mul, i32_neg, Option.bind_some, Option.bind_none, ite_bI, Bool.true_and]
        rw [show (k : Int) + 1 = ((k + 1 : Nat) : Int) by omega, show ((ctP S r t set k : Nat) : Int) + 1 = ((ctP S r t set k + 1 : Nat) : Int) by omega]
        simp (disch := omega) only [i32_inj]
        congr 2
        by_cases hq : ctP S r t set k = 0
        · rw [if_pos hq, if_pos (by omega)]
        · rw [if_neg hq, if_neg (by omega)]
      rw [hB]
      unfold pl
      cases hw2 : cWl S (plX S k) (plY S k) with
      | true => exact ⟨M, Vm.rf, by rw [if_pos rfl]; rfl⟩
      | false =>
        refine ⟨M1, l3, ?_⟩
        rw [if_neg (by decide), Bool.not_false, Bool.true_and]
        by_cases hq : shS S (plX S k) (plY S k) ((k % 4 : Nat) : Int) r t = set
        · rw [if_pos hq, decide_eq_true hq, if_pos rfl]
          by_cases hz : ctP S r t set k = 0
          · rw [if_pos hz, if_pos ⟨rfl, hz⟩]
          · rw [if_neg hz, if_neg (fun q => hz q.2)]
        · rw [if_neg hq, decide_eq_false hq, if_neg (by decide), if_neg (fun q => by cases q.1)]
          rfl
    obtain ⟨M1, v1, e⟩ := hst
    obtain ⟨M', k1, k2⟩ := ih n (k + 1) M1 (hR.vm v1) (by omega) (by omega)
    exact ⟨M', by rw [e, k1, show k + (d + 1) = k + 1 + d by omega], v1.tr k2⟩
theorem sh8 : ∀ p : Nat, p ≤ 8 → ((1 : Int32) <<< (i32 (p : Int) &&& 31)) - 1 = i32 ((2 : Int) ^ p - 1) ∧ 0 ≤ (2 : Int) ^ p - 1 ∧ (2 : Int) ^ p - 1 ≤ 255 := by decide +kernel
theorem isSet_C {b : Nat} {S : Sc} {M : Mem} (hS : okS S) (hR : RC b S M) {z : Int} (h : -2147483648 ≤ z ∧ z ≤ 2147483647) : fX2_isSetOfPeople b (i32 z) M = some (i32 (bI (btw z 0 ((2 : Int) ^ cP S - 1)))) := by
  obtain ⟨s1, s2, s3⟩ := sh8 (cP S) hS.2.2.1
  unfold fX2_isSetOfPeople
  rw [hR.2.2.1, s1, show (0 : Int32) = i32 0 from rfl, isBetween_C (by omega)]
  simp only [Option.bind_some, Option.bind_none, gB_bI]
theorem isSet_M {S : Sc} {M : Mem} (hS : okS S) (hR : RM S M) {z : Int} (h : -2147483648 ≤ z ∧ z ≤ 2147483647) : fX5_isSet (i32 z) M = some (i32 (bI (btw z 0 ((2 : Int) ^ cP S - 1)))) := by
  obtain ⟨s1, s2, s3⟩ := sh8 (cP S) hS.2.2.1
  unfold fX5_isSet
  rw [show (0 : Int32) = i32 0 from rfl, rI_ok (by omega), show ((0 : Int)).toNat = 0 from rfl, hR.2.2.1]
  simp only [Option.bind_some, Option.bind_none]
  rw [s1, in_M (by omega)]
  simp only [Option.bind_some, Option.bind_none, gB_bI]
theorem from_op {b : Nat} {S : Sc} {M : Mem} (hI : IC b S M) (hb : M.2.2 0 5 = b) (x r t w : Int32) : ∃ v M1, fX4_from x r t w M = some (v, M1) ∧ QC b M M1 ∧ Cached b S M1 ∧ ∀ M2, RM S M2 → ∃ M3, fX5_from x r t w M2 = some (v, M3) ∧ Vm M2 M3 := by
  obtain ⟨hS, -, hR, hC, -⟩ := hI
  obtain ⟨x, hx, rfl⟩ := i32_ex x
  obtain ⟨r, hr, rfl⟩ := i32_ex r
  obtain ⟨t, ht, rfl⟩ := i32_ex t
  obtain ⟨w, hw, rfl⟩ := i32_ex w
  have hM0 : ∀ M2, RM S M2 → fX5_from (i32 x) (i32 r) (i32 t) (i32 w) M2 = (if btw x 0 ((2 : Int) ^ cP S - 1) = true then (if btw r 1 9 = true then (if btw t 0 199 = true then (if btw w 0 1 = true then fX5_from_51L FU (i32 x) (i32 r) (i32 t) (i32 w) (i32 0) (i32 (-9)) (i32 0) M2 else some (i32 (-1), M2)) else some (i32 (-1), M2)) else some (i32 (-1), M2)) else some (i32 (-1), M2)) := by
    intro M2 hM
    unfold fX5_from
    simp only [L0, L1, L2, L3, L4, L5, L6, L7, L8, L9, L10, L11, L12, L13, L15, L16, L20, L24, L31, L32, L40, L41, L48, L50, L57, L59, L63, L80, L81, L96, L97, L99, L100, L122, L144, L199, L255, L400, L1681, L68921, L1000000, i32_add, i32_sub, i32_mul, i32_neg, Option.bind_some, Option.bind_none]
    rw [isSet_M hS hM hx, in_M (by omega), in_M (by omega), in_M (by omega)]
    simp only [L0, L1, L2, L3, L4, L5, L6, L7, L8, L9, L10, L11, L12, L13, L15, L16, L20, L24, L31, L32, L40, L41, L48, L50, L57, L59, L63, L80, L81, L96, L97, L99, L100, L122, L144, L199, L255, L400, L1681, L68921, L1000000, i32_add, i32_sub, i32_mul, i32_neg, Option.bind_some, Option.bind_none, ite_bI]
  have hC0 : fX4_from (i32 x) (i32 r) (i32 t) (i32 w) M = (if btw x 0 ((2 : Int) ^ cP S - 1) = true then (if btw r 1 9 = true then (if btw t 0 199 = true then (if btw w 0 1 = true then (if i32 w = i32 0 then (fX2_countPlacesOf b (i32 x) (i32 r) (i32 t) M).bind fun v6 => some (v6.1, v6.2) else (fX2_firstPlaceOf b (i32 x) (i32 r) (i32 t) M).bind fun v5 => some (v5.1, v5.2)) else some (i32 (-1), M)) else some (i32 (-1), M)) else some (i32 (-1), M)) else some (i32 (-1), M)) := by
    unfold fX4_from
    simp only [L0, L1, L2, L3, L4, L5, L6, L7, L8, L9, L10, L11, L12, L13, L15, L16, L20, L24, L31, L32, L40, L41, L48, L50, L57, L59, L63, L80, L81, L96, L97, L99, L100, L122, L144, L199, L255, L400, L1681, L68921, L1000000, i32_add, i32_sub, i32_mul, i32_neg, Option.bind_some, Option.bind_none]
    rw [hb, isSet_C hS hR hx, isBetween_C (by omega), isBetween_C (by omega), isBetween_C (by omega)]
    simp only [L0, L1, L2, L3, L4, L5, L6, L7, L8, L9, L10, L11, L12, L13, L15, L16, L20, L24, L31, L32, L40, L41, L48, L50, L57, L59, L63, L80, L81, L96, L97, L99, L100, L122, L144, L199, L255, L400, L1681, L68921, L1000000, i32_add, i32_sub, i32_mul, i32_neg, Option.bind_some, Option.bind_none, ite_bI]
  rw [hC0]
  cases h1 : btw x 0 ((2 : Int) ^ cP S - 1) with
  | false => exact ⟨_, _, rfl, QC.rf, hC, fun M2 hM => ⟨M2, by rw [hM0 M2 hM, h1]; rfl, Vm.rf⟩⟩
  | true =>
  cases h2 : btw r 1 9 with
  | false => exact ⟨_, _, rfl, QC.rf, hC, fun M2 hM => ⟨M2, by rw [hM0 M2 hM, h1, h2]; rfl, Vm.rf⟩⟩
  | true =>
  cases h3 : btw t 0 199 with
  | false => exact ⟨_, _, rfl, QC.rf, hC, fun M2 hM => ⟨M2, by rw [hM0 M2 hM, h1, h2, h3]; rfl, Vm.rf⟩⟩
  | true =>
  cases h4 : btw w 0 1 with
  | false => exact ⟨_, _, rfl, QC.rf, hC, fun M2 hM => ⟨M2, by rw [hM0 M2 hM, h1, h2, h3, h4]; rfl, Vm.rf⟩⟩
  | true =>
    have b2 := btw_t h2
    have b3 := btw_t h3
    have b4 := btw_t h4
    have hK := kk_b hS
    have hM1 : ∀ M2, RM S M2 → ∃ M3, fX5_from (i32 x) (i32 r) (i32 t) (i32 w) M2 = some (i32 (if w = 0 then (ctP S r t (i32 x) (4 * cW S * cH S).toNat : Int) else fsP S r t (i32 x) (4 * cW S * cH S).toNat), M3) ∧ Vm M2 M3 := by
      intro M2 hM
      obtain ⟨M3, k1, k2⟩ := fromM_L hS (r := r) (t := t) (w := w) (by omega) (by omega) b4 (i32 x) (4 * cW S * cH S).toNat FU 0 M2 hM (by omega) (by unfold FU; omega)
      rw [Nat.zero_add] at k1
      exact ⟨M3, by rw [hM0 M2 hM, h1, h2, h3, h4]; exact k1, k2⟩
    by_cases hq : w = 0
    · subst hq
      obtain ⟨M1, g1, g2, g3⟩ := countP_L (b := b) hS (r := r) (t := t) (by omega) (by omega) (i32 x) (4 * cW S * cH S).toNat FU 0 M hR hC (by omega) (by unfold FU; omega)
      rw [Nat.zero_add] at g1
      have g1' : fX2_countPlacesOf b (i32 x) (i32 r) (i32 t) M = some (i32 (ctP S r t (i32 x) (4 * cW S * cH S).toNat), M1) := g1
      refine ⟨i32 (ctP S r t (i32 x) (4 * cW S * cH S).toNat), M1, ?_, g3.q, g2, fun M2 hM => ?_⟩
      · rw [if_pos rfl, if_pos rfl, if_pos rfl, if_pos rfl, if_pos rfl, g1']; rfl
      · have := hM1 M2 hM
        rw [if_pos rfl] at this
        exact this
    · obtain ⟨M1, g1, g2, g3⟩ := firstP_L (b := b) hS (r := r) (t := t) (by omega) (by omega) (i32 x) (4 * cW S * cH S).toNat FU 0 M hR hC rfl (by omega) (by unfold FU; omega)
      rw [Nat.zero_add] at g1
      have g1' : fX2_firstPlaceOf b (i32 x) (i32 r) (i32 t) M = some (i32 (fsP S r t (i32 x) (4 * cW S * cH S).toNat), M1) := g1
      refine ⟨i32 (fsP S r t (i32 x) (4 * cW S * cH S).toNat), M1, ?_, g3.q, g2, fun M2 hM => ?_⟩
      · rw [if_pos rfl, if_pos rfl, if_pos rfl, if_pos rfl, if_neg (fun q => hq ((i32_inj (by omega)).mp q)), g1']; rfl
      · have := hM1 M2 hM
        rw [if_neg hq] at this
        exact this

/-! square: the model's whole reading. -/
theorem itm_ok {t : Nat → Int} {L : Nat} {S : Sc} (hS : okS S) {i p : Nat} (hp : p ≤ L) (hS0 : i = 0 → S = S0) (h10 : tk t L p ≠ 10) {p' : Nat} {S' : Sc} (h : itm t L S i p = (.inl p', S')) : okS S' ∧ p < p' ∧ p' ≤ L := by
  unfold itm at h
  by_cases hm : may S i (tk t L p) = true
  · rw [if_pos hm] at h
    obtain ⟨m1, m2, m3, m4⟩ := mB_r hm
    have hen := en_b (t := t) hp
    have hk : (tk t L p).toNat < 4 := by omega
    generalize hr : rdF t L S (tk t L p).toNat (nl (tk t L p).toNat) 0 (en t L p) (fun _ => 0) = r at h
    obtain ⟨r1, w⟩ := r
    cases r1 with
    | inr q =>
      have h' : (Sum.inr q, S) = ((Sum.inl p' : Ps), S') := h
      injection h' with h1 h2
      injection h1
    | inl p1 =>
      have h' : (if tk t L p1 = 11 then (Sum.inl (en t L p1), addI S (tk t L p).toNat w) else (Sum.inr (sT t L p1), S)) = ((Sum.inl p' : Ps), S') := h
      obtain ⟨-, o2, o3, o4⟩ := rdF_out _ _ _ _ _ _ hen.2.1 hr
      by_cases z : tk t L p1 = 11
      · rw [if_pos z] at h'
        injection h' with h1 h2
        injection h1 with h1
        have hen1 := en_b (t := t) o4
        have := hen.2.2 h10 (by omega)
        refine ⟨?_, by omega, by omega⟩
        rw [← h2]
        exact ok_add hS hk (fun j hj => o2 j (Nat.zero_le _) (by omega)) (fun q => m2 (by omega)) (fun q => m3 (by omega)) (fun q => hS0 (m4 (by omega)))
      · rw [if_neg z] at h'
        injection h' with h1 h2
        injection h1
  · rw [if_neg hm] at h
    injection h with h1 h2
    injection h1
theorem Fi.tx {t : Nat → Int} {L : Nat} {M M' : Mem} (h : TxM t L M) (k : Fi M M') : TxM t L M' := ⟨(k.2.2.1 2 (by decide)).trans h.1, fun j hj => by rw [k.2.1 43 (by decide)]; exact h.2 j hj⟩
theorem sq73_L {t : Nat → Int} {L : Nat} (hT : okT t L) : ∀ (d m n i p : Nat) (S : Sc) (M : Mem), L < p + d → d ≤ m → d + 1 < n → i ≤ p → okS S → (i = 0 → S = S0) → X t L (.inl p) M → RM1 S M → ∃ M1, Fi M M1 ∧ ((∃ i' S', prs t L m i S p = (((i' : Nat) : Int), some S') ∧ fX5_square_73L n (i32 (i : Int)) M = fX5_square_105 (i32 (i' : Int)) M1 ∧ M1.1 42 14 = i32 (-9) ∧ RM1 S' M1) ∨ (∃ q : Nat, prs t L m i S p = (-10 - (q : Int), none) ∧ fX5_square_73L n (i32 (i : Int)) M = some (i32 (-10 - (q : Int)), M1))) := by
  have h400 := hT.1
  intro d
  induction d with
  | zero => intro m n i p S M h1 _ _ _ _ _ hX; have := hX.2.1; omega
  | succ d ih =>
    intro m n i p S M h1 hdm h2 hip hS hS0 hX hR
    obtain ⟨n, rfl⟩ : ∃ k, n = k + 1 := ⟨n - 1, by omega⟩
    obtain ⟨m, rfl⟩ : ∃ k, m = k + 1 := ⟨m - 1, by omega⟩
    have hp : p ≤ L := hX.2.1
    have h14 : M.1 42 14 = -9 := hX.2.2.1
    have h12 := hX.2.2.2.2.1
    have hmc := mt_c (tk_c t L p)
    have eP : prs t L (m + 1) i S p = if tk t L p = 10 then ((i : Int), some S) else (match itm t L S i p with | (.inl p', S') => prs t L m (i + 1) S' p' | (.inr q, _) => (-10 - (q : Int), none)) := rfl
    have e0 : fX5_square_73L (n + 1) (i32 (i : Int)) M = if tk t L p = 10 then fX5_square_105 (i32 (i : Int)) M else (fX5_item (i32 (mt (tk t L p))) (i32 (i : Int)) M).bind fun v1 => fX5_square_73L n (i32 ((i + 1 : Nat) : Int)) v1 := by
      show fX5_square_73B (fX5_square_73L n) _ M = _
      unfold fX5_square_73B
      rw [if_pos h14, h12, show i32 (i : Int) + 1 = i32 ((i + 1 : Nat) : Int) from i32_add _ 1]
      by_cases z : tk t L p = 10
      · rw [if_pos z, if_pos (show i32 (mt (tk t L p)) = 4 by rw [z]; rfl)]
      · rw [if_neg z, if_neg (show ¬ i32 (mt (tk t L p)) = 4 from fun q => by have := (i32_inj (b := 4) (by omega)).mp q; omega)]
    rw [e0, eP]
    by_cases z : tk t L p = 10
    · rw [if_pos z, if_pos z]
      exact ⟨M, Fi.rf, Or.inl ⟨i, S, rfl, rfl, h14, hR⟩⟩
    · rw [if_neg z, if_neg z]
      obtain ⟨M1, k1, k2, k3⟩ := item_M hT hS (by omega) hX hR z hS0
      rw [k1]
      simp only [Option.bind_some, Option.bind_none]
      rcases k3 with ⟨q, q1, q2⟩ | ⟨p', S', q1, q2, q3⟩
      · generalize itm t L S i p = r at q1 ⊢
        obtain ⟨r1, r2⟩ := r
        have q1' : r1 = .inr q := q1
        subst q1'
        obtain ⟨n, rfl⟩ : ∃ k, n = k + 1 := ⟨n - 1, by omega⟩
        have hq := q2.2.1
        have hne : ¬ M1.1 42 14 = -9 := fun w => by rw [q2.2.2] at w; have := (i32_inj (b := -9) (by omega)).mp w; omega
        refine ⟨M1, k2, Or.inr ⟨q, rfl, ?_⟩⟩
        show fX5_square_73B (fX5_square_73L n) _ M1 = _
        unfold fX5_square_73B fX5_square_105
        rw [if_neg hne, if_neg hne, q2.2.2, show (-10 : Int32) = i32 (-10) from rfl, i32_sub]
      · obtain ⟨o1, o2, o3⟩ := itm_ok hS hp hS0 z q1
        obtain ⟨M2, g1, g2⟩ := ih m n (i + 1) p' S' M1 (by omega) (by omega) (by omega) (by omega) o1 (fun w => absurd w (by omega)) q2 q3
        rw [q1]
        exact ⟨M2, k2.tr g1, g2⟩
theorem wZ_b {M : Mem} {a n : Nat} {z : Int} {c : Bool} (h : 0 ≤ z ∧ z < n ∧ z ≤ 2147483647) : wZ M a n (i32 z) (i32 (bI c)) = some (sI M a z.toNat (i32 (bI c))) := by
  unfold wZ
  rw [i32_inb (by omega) h.2.2, if_pos (decide_eq_true (by omega)), i32_nat h.1 h.2.2]
  cases c <;> rfl
theorem cpw_L {c : Nat → Bool} {x1 : Int32} : ∀ (d n j : Nat) (M : Mem), j + d = 144 → d < n → (∀ k, k < 144 → M.1 46 (144 + k) = i32 (bI (c k))) → (∀ k, k < j → M.1 46 k = i32 (bI (c k))) → ∃ M', fX5_square_172L n x1 (i32 (j : Int)) M = fX5_square_203L FU x1 0 M' ∧ M'.2 = M.2 ∧ (∀ a, a ≠ 46 → M'.1 a = M.1 a) ∧ ∀ k, k < 144 → M'.1 46 k = i32 (bI (c k)) := by
  intro d
  induction d with
  | zero =>
    intro n j M h1 h2 h3 h4
    obtain ⟨n, rfl⟩ : ∃ k, n = k + 1 := ⟨n - 1, by omega⟩
    obtain rfl : j = 144 := by omega
    refine ⟨M, ?_, rfl, fun _ _ => rfl, h4⟩
    show fX5_square_172B (fX5_square_172L n) _ _ M = _
    unfold fX5_square_172B
    rw [if_pos (by decide)]
  | succ d ih =>
    intro n j M h1 h2 h3 h4
    obtain ⟨n, rfl⟩ : ∃ k, n = k + 1 := ⟨n - 1, by omega⟩
    obtain ⟨M', g1, g2, g3, g4⟩ := ih n (j + 1) (sI M 46 j (i32 (bI (c j)))) (by omega) (by omega) (fun k hk => by rw [sI_nj (by omega)]; exact h3 k hk) (fun k hk => by
      by_cases z : k = j
      · rw [z, sI_at]
      · rw [sI_nj z]; exact h4 k (by omega))
    refine ⟨M', ?_, g2, fun a ha => by rw [g3 a ha, sI_ne ha], g4⟩
    rw [← g1]
    show fX5_square_172B (fX5_square_172L n) _ _ M = _
    unfold fX5_square_172B
    rw [show (144 : Int32) = i32 144 from rfl, if_neg (fun z => absurd ((i32_le (by omega)).mp z) (by omega)), i32_add, rI_ok (by omega), show ((144 : Int) + (j : Int)).toNat = 144 + j by omega, h3 j (by omega)]
    simp only [Option.bind_some, Option.bind_none]
    rw [wZ_b (by omega), show ((j : Int)).toNat = j by omega]
    simp only [Option.bind_some, Option.bind_none]
    rw [show i32 (j : Int) + 1 = i32 ((j + 1 : Nat) : Int) from i32_add _ 1]
theorem cpp_L {M0 : Mem} {x1 : Int32} : ∀ (d n j : Nat) (M : Mem), j + d = 48 → d < n → (∀ k, 48 ≤ k → M.1 48 k = M0.1 48 k) → (∀ k, k < j → M.1 48 k = M0.1 48 (48 + k)) → ∃ M', fX5_square_203L n x1 (i32 (j : Int)) M = fX5_square_232L FU x1 0 M' ∧ M'.2 = M.2 ∧ (∀ a, a ≠ 48 → M'.1 a = M.1 a) ∧ ∀ k, k < 48 → M'.1 48 k = M0.1 48 (48 + k) := by
  intro d
  induction d with
  | zero =>
    intro n j M h1 h2 h3 h4
    obtain ⟨n, rfl⟩ : ∃ k, n = k + 1 := ⟨n - 1, by omega⟩
    obtain rfl : j = 48 := by omega
    refine ⟨M, ?_, rfl, fun _ _ => rfl, h4⟩
    show fX5_square_203B (fX5_square_203L n) _ _ M = _
    unfold fX5_square_203B
    rw [if_pos (by decide)]
  | succ d ih =>
    intro n j M h1 h2 h3 h4
    obtain ⟨n, rfl⟩ : ∃ k, n = k + 1 := ⟨n - 1, by omega⟩
    obtain ⟨M', g1, g2, g3, g4⟩ := ih n (j + 1) (sI M 48 j (M0.1 48 (48 + j))) (by omega) (by omega) (fun k hk => by rw [sI_nj (by omega)]; exact h3 k hk) (fun k hk => by
      by_cases z : k = j
      · rw [z, sI_at]
      · rw [sI_nj z]; exact h4 k (by omega))
    refine ⟨M', ?_, g2, fun a ha => by rw [g3 a ha, sI_ne ha], g4⟩
    rw [← g1]
    show fX5_square_203B (fX5_square_203L n) _ _ M = _
    unfold fX5_square_203B
    rw [show (48 : Int32) = i32 48 from rfl, if_neg (fun z => absurd ((i32_le (by omega)).mp z) (by omega)), i32_add, rI_ok (by omega), show ((48 : Int) + (j : Int)).toNat = 48 + j by omega, h3 (48 + j) (by omega)]
    simp only [Option.bind_some, Option.bind_none]
    rw [wI_ok (by omega), show ((j : Int)).toNat = j by omega]
    simp only [Option.bind_some, Option.bind_none]
    rw [show i32 (j : Int) + 1 = i32 ((j + 1 : Nat) : Int) from i32_add _ 1]
theorem cpi_L {M0 : Mem} {x1 : Int32} : ∀ (d n j : Nat) (M : Mem), j + d = 50 → d < n → (∀ k, 50 ≤ k → M.1 50 k = M0.1 50 k) → (∀ k, k < j → M.1 50 k = M0.1 50 (50 + k)) → ∃ M', fX5_square_232L n x1 (i32 (j : Int)) M = fX5_square_261L FU x1 0 M' ∧ M'.2 = M.2 ∧ (∀ a, a ≠ 50 → M'.1 a = M.1 a) ∧ ∀ k, k < 50 → M'.1 50 k = M0.1 50 (50 + k) := by
  intro d
  induction d with
  | zero =>
    intro n j M h1 h2 h3 h4
    obtain ⟨n, rfl⟩ : ∃ k, n = k + 1 := ⟨n - 1, by omega⟩
    obtain rfl : j = 50 := by omega
    refine ⟨M, ?_, rfl, fun _ _ => rfl, h4⟩
    show fX5_square_232B (fX5_square_232L n) _ _ M = _
    unfold fX5_square_232B
    rw [if_pos (by decide)]
  | succ d ih =>
    intro n j M h1 h2 h3 h4
    obtain ⟨n, rfl⟩ : ∃ k, n = k + 1 := ⟨n - 1, by omega⟩
    obtain ⟨M', g1, g2, g3, g4⟩ := ih n (j + 1) (sI M 50 j (M0.1 50 (50 + j))) (by omega) (by omega) (fun k hk => by rw [sI_nj (by omega)]; exact h3 k hk) (fun k hk => by
      by_cases z : k = j
      · rw [z, sI_at]
      · rw [sI_nj z]; exact h4 k (by omega))
    refine ⟨M', ?_, g2, fun a ha => by rw [g3 a ha, sI_ne ha], g4⟩
    rw [← g1]
    show fX5_square_232B (fX5_square_232L n) _ _ M = _
    unfold fX5_square_232B
    rw [show (50 : Int32) = i32 50 from rfl, if_neg (fun z => absurd ((i32_le (by omega)).mp z) (by omega)), i32_add, rI_ok (by omega), show ((50 : Int) + (j : Int)).toNat = 50 + j by omega, h3 (50 + j) (by omega)]
    simp only [Option.bind_some, Option.bind_none]
    rw [wI_ok (by omega), show ((j : Int)).toNat = j by omega]
    simp only [Option.bind_some, Option.bind_none]
    rw [show i32 (j : Int) + 1 = i32 ((j + 1 : Nat) : Int) from i32_add _ 1]
theorem cph_L {x1 : Int32} : ∀ (d n j : Nat) (M : Mem), j + d = 10 → d < n → (∀ k, k < j → M.1 61 k = 2) → ∃ M', fX5_square_261L n x1 (i32 (j : Int)) M = some (x1, sI (sI (sI M' 62 0 0) 62 1 0) 42 2 0) ∧ M'.2 = M.2 ∧ (∀ a, a ≠ 61 → M'.1 a = M.1 a) ∧ (∀ k, k < 10 → M'.1 61 k = 2) := by
  intro d
  induction d with
  | zero =>
    intro n j M h1 h2 h3
    obtain ⟨n, rfl⟩ : ∃ k, n = k + 1 := ⟨n - 1, by omega⟩
    obtain rfl : j = 10 := by omega
    refine ⟨M, ?_, rfl, fun _ _ => rfl, h3⟩
    show fX5_square_261B (fX5_square_261L n) _ _ M = _
    unfold fX5_square_261B
    rw [if_pos (by decide)]
    rfl
  | succ d ih =>
    intro n j M h1 h2 h3
    obtain ⟨n, rfl⟩ : ∃ k, n = k + 1 := ⟨n - 1, by omega⟩
    obtain ⟨M', g1, g2, g3, g4⟩ := ih n (j + 1) (sI M 61 j 2) (by omega) (by omega) (fun k hk => by
      by_cases z : k = j
      · rw [z, sI_at]
      · rw [sI_nj z]; exact h3 k (by omega))
    refine ⟨M', ?_, g2, fun a ha => by rw [g3 a ha, sI_ne ha], g4⟩
    rw [← g1]
    show fX5_square_261B (fX5_square_261L n) _ _ M = _
    unfold fX5_square_261B
    rw [show (10 : Int32) = i32 10 from rfl, if_neg (fun z => absurd ((i32_le (by omega)).mp z) (by omega)), wI_ok (by omega), show ((j : Int)).toNat = j by omega]
    simp only [Option.bind_some, Option.bind_none]
    rw [show i32 (j : Int) + 1 = i32 ((j + 1 : Nat) : Int) from i32_add _ 1]
theorem end_M {S : Sc} (hS : okS S) {M : Mem} (hR : RM1 S M) (h14 : M.1 42 14 = i32 (-9)) (x1 : Int32) : ∃ M', fX5_square_105 x1 M = some (x1, M') ∧ M'.2 = M.2 ∧ RM S M' ∧ (∀ a, (a < 44 ∨ 50 < a) → a ≠ 42 → a ≠ 61 → a ≠ 62 → M'.1 a = M.1 a) ∧ (∀ k, k < 10 → M'.1 61 k = 2) ∧ M'.1 62 0 = 0 ∧ M'.1 62 1 = 0 ∧ M'.1 42 2 = 0 := by
  have s3 := hS.2.2.1
  have s4 := hS.2.2.2.1
  obtain ⟨r1, r2, r3, r4, r5, r6, r7⟩ := id hR
  have M8 : ∃ M8, M8 = sI (sI (sI (sI M 44 0 (i32 (cW S))) 45 0 (i32 (cH S))) 47 0 (i32 ((cP S : Nat) : Int))) 49 0 (i32 ((cI S : Nat) : Int)) := ⟨_, rfl⟩
  obtain ⟨M8, hM8⟩ := M8
  have o8 : ∀ a, a ≠ 44 → a ≠ 45 → a ≠ 47 → a ≠ 49 → M8.1 a = M.1 a := fun a z1 z2 z3 z4 => by rw [hM8, sI_ne z4, sI_ne z3, sI_ne z2, sI_ne z1]
  have e105 : fX5_square_105 x1 M = fX5_square_172L FU x1 0 M8 := by
    unfold fX5_square_105
    rw [if_pos (show M.1 42 14 = -9 from h14)]
    have ro : ∀ (Mx : Mem) (a : Nat), rI Mx a 2 1 = some (Mx.1 a 1) := fun Mx a => by rw [show (1 : Int32) = i32 ((1 : Nat) : Int) from rfl, rI_ok (by omega)]; rfl
    have wo : ∀ (Mx : Mem) (a : Nat) (v : Int32), wI Mx a 2 0 v = some (sI Mx a 0 v) := fun Mx a v => by rw [show (0 : Int32) = i32 ((0 : Nat) : Int) from rfl, wI_ok (by omega)]; rfl
    rw [ro, r1, Option.bind_some, wo, Option.bind_some, ro, sI_ne (by decide), r2, Option.bind_some, wo, Option.bind_some, ro, sI_ne (by decide), sI_ne (by decide), r3, Option.bind_some, wo, Option.bind_some, ro, sI_ne (by decide), sI_ne (by decide), sI_ne (by decide), r4, Option.bind_some, wo, Option.bind_some, ← hM8]
  obtain ⟨Ma, a1, a2, a3, a4⟩ := cpw_L (c := fun k => cWl S ((k % 12 : Nat) : Int) ((k / 12 : Nat) : Int)) (x1 := x1) 144 FU 0 M8 (by omega) (by unfold FU; omega) (fun k hk => by
    rw [o8 46 (by decide) (by decide) (by decide) (by decide)]
    have := r5 (k % 12) (k / 12) (Nat.mod_lt _ (by decide)) (by omega)
    rw [show 144 + 12 * (k / 12) + k % 12 = 144 + k by omega] at this
    exact this) (fun k hk => absurd hk (by omega))
  obtain ⟨Mb, b1, b2, b3, b4⟩ := cpp_L (M0 := M) (x1 := x1) 48 FU 0 Ma (by omega) (by unfold FU; omega) (fun k hk => by rw [a3 48 (by decide), o8 48 (by decide) (by decide) (by decide) (by decide)]) (fun k hk => absurd hk (by omega))
  obtain ⟨Mc, c1, c2, c3, c4⟩ := cpi_L (M0 := M) (x1 := x1) 50 FU 0 Mb (by omega) (by unfold FU; omega) (fun k hk => by rw [b3 50 (by decide), a3 50 (by decide), o8 50 (by decide) (by decide) (by decide) (by decide)]) (fun k hk => absurd hk (by omega))
  obtain ⟨Md, d1, d2, d3, d4⟩ := cph_L (x1 := x1) 10 FU 0 Mc (by omega) (by unfold FU; omega) (fun k hk => absurd hk (by omega))
  rw [show i32 ((0 : Nat) : Int) = (0 : Int32) from rfl] at a1 b1 c1 d1
  refine ⟨sI (sI (sI Md 62 0 0) 62 1 0) 42 2 0, ?_, ?_, ⟨?_, ?_, ?_, ?_, ?_, ?_, ?_⟩, ?_, ?_, ?_, ?_, ?_⟩
  · rw [e105, a1, b1, c1, d1]
  · show Md.2 = M.2
    rw [d2, c2, b2, a2, hM8]; rfl
  · rw [sI_ne (by decide), sI_ne (by decide), sI_ne (by decide), d3 44 (by decide), c3 44 (by decide), b3 44 (by decide), a3 44 (by decide), hM8, sI_ne (by decide), sI_ne (by decide), sI_ne (by decide), sI_at]
  · rw [sI_ne (by decide), sI_ne (by decide), sI_ne (by decide), d3 45 (by decide), c3 45 (by decide), b3 45 (by decide), a3 45 (by decide), hM8, sI_ne (by decide), sI_ne (by decide), sI_at]
  · rw [sI_ne (by decide), sI_ne (by decide), sI_ne (by decide), d3 47 (by decide), c3 47 (by decide), b3 47 (by decide), a3 47 (by decide), hM8, sI_ne (by decide), sI_at]
  · rw [sI_ne (by decide), sI_ne (by decide), sI_ne (by decide), d3 49 (by decide), c3 49 (by decide), b3 49 (by decide), a3 49 (by decide), hM8, sI_at]
  · intro x y x0 x1 y0 y1
    rw [sI_ne (by decide), sI_ne (by decide), sI_ne (by decide), d3 46 (by decide), c3 46 (by decide), b3 46 (by decide), a4 _ (by omega)]
    show i32 (bI (cWl S (((12 * y + x).toNat % 12 : Nat) : Int) (((12 * y + x).toNat / 12 : Nat) : Int))) = _
    rw [show (((12 * y + x).toNat % 12 : Nat) : Int) = x by omega, show (((12 * y + x).toNat / 12 : Nat) : Int) = y by omega]
  · intro p j hp hj
    rw [sI_ne (by decide), sI_ne (by decide), sI_ne (by decide), d3 48 (by decide), c3 48 (by decide), b4 _ (by omega), ← Nat.add_assoc]
    exact r6 p j hp hj
  · intro p j hp hj
    rw [sI_ne (by decide), sI_ne (by decide), sI_ne (by decide), d3 50 (by decide), c4 _ (by omega), ← Nat.add_assoc]
    exact r7 p j hp hj
  · intro a h1 h2 h3 h4
    rw [sI_ne h2, sI_ne h4, sI_ne h4, d3 a h3, c3 a (by omega), b3 a (by omega), a3 a (by omega), o8 a (by omega) (by omega) (by omega) (by omega)]
  · intro k hk
    rw [sI_ne (by decide), sI_ne (by decide), sI_ne (by decide)]; exact d4 k hk
  · rw [sI_ne (by decide), sI_nj (by decide), sI_at]
  · rw [sI_ne (by decide), sI_at]
  · rw [sI_at]
theorem wipe_L {x1 : Nat → Int32} : ∀ (d n j : Nat) (M : Mem), j + d = 144 → d < n → (∀ k, k < j → M.1 46 (144 + k) = 0) → ∃ M', fX5_square_43L n (i32 (j : Int)) M = (fX5_next M').bind (fun v1 => fX5_square_73L FU 0 v1) ∧ M'.2 = M.2 ∧ (∀ a, a ≠ 46 → M'.1 a = M.1 a) ∧ (∀ k, k < 144 → M'.1 46 k = M.1 46 k) ∧ ∀ k, k < 144 → M'.1 46 (144 + k) = 0 := by
  intro d
  induction d with
  | zero =>
    intro n j M h1 h2 h3
    obtain ⟨n, rfl⟩ : ∃ k, n = k + 1 := ⟨n - 1, by omega⟩
    obtain rfl : j = 144 := by omega
    refine ⟨M, ?_, rfl, fun _ _ => rfl, fun _ _ => rfl, h3⟩
    show fX5_square_43B (fX5_square_43L n) _ M = _
    unfold fX5_square_43B
    rw [if_pos (by decide)]
  | succ d ih =>
    intro n j M h1 h2 h3
    obtain ⟨n, rfl⟩ : ∃ k, n = k + 1 := ⟨n - 1, by omega⟩
    obtain ⟨M', g1, g2, g3, g4, g5⟩ := ih n (j + 1) (sI M 46 (144 + j) 0) (by omega) (by omega) (fun k hk => by
      by_cases z : k = j
      · rw [z, sI_at]
      · rw [sI_nj (by omega)]; exact h3 k (by omega))
    refine ⟨M', ?_, g2, fun a ha => by rw [g3 a ha, sI_ne ha], fun k hk => by rw [g4 k hk, sI_nj (by omega)], g5⟩
    rw [← g1]
    show fX5_square_43B (fX5_square_43L n) _ M = _
    unfold fX5_square_43B
    rw [show (144 : Int32) = i32 144 from rfl, if_neg (fun z => absurd ((i32_le (by omega)).mp z) (by omega)), i32_add, show (0 : Int32) = i32 (bI false) from rfl, wZ_b (by omega), show ((144 : Int) + (j : Int)).toNat = 144 + j by omega]
    simp only [Option.bind_some, Option.bind_none]
    rw [show i32 (j : Int) + 1 = i32 ((j + 1 : Nat) : Int) from i32_add _ 1]
/-- the whole of the model's square -/
theorem square_M {t : Nat → Int} {L : Nat} (hT : okT t L) {M : Mem} (hx : TxM t L M) : ∃ M1, Fi M M1 ∧ ((∃ i' S', prsA t L = (((i' : Nat) : Int), some S') ∧ fX5_square M = fX5_square_105 (i32 (i' : Int)) M1 ∧ M1.1 42 14 = i32 (-9) ∧ RM1 S' M1) ∨ (∃ q : Nat, prsA t L = (-10 - (q : Int), none) ∧ fX5_square M = some (i32 (-10 - (q : Int)), M1))) := by
  have h400 := hT.1
  have wo : ∀ (Mx : Mem) (a : Nat) (v : Int32), wI Mx a 2 1 v = some (sI Mx a 1 v) := fun Mx a v => by rw [show (1 : Int32) = i32 ((1 : Nat) : Int) from rfl, wI_ok (by omega)]; rfl
  have M6 : ∃ M6, M6 = sI (sI (sI (sI (sI (sI M 42 10 0) 42 14 (-9)) 44 1 8) 45 1 8) 47 1 0) 49 1 0 := ⟨_, rfl⟩
  obtain ⟨M6, hM6⟩ := M6
  have f6 : Fi M M6 := by
    have f0 : Fi M (sI (sI M 42 10 0) 42 14 (-9)) := Fdu.fi ⟨rfl, fun a h => by rw [sI_ne h, sI_ne h], fun j h => by rw [sI_nj (by omega), sI_nj (by omega)]⟩
    rw [hM6]
    exact (((f0.tr (Fi.w1 (by decide))).tr (Fi.w1 (by decide))).tr (Fi.w1 (by decide))).tr (Fi.w1 (by decide))
  have e6 : fX5_square M = fX5_square_43L FU 0 M6 := by
    unfold fX5_square
    rw [show wF M 42 10 0 = some (sI M 42 10 0) from rfl, Option.bind_some, show wF (sI M 42 10 0) 42 14 (-9) = some (sI (sI M 42 10 0) 42 14 (-9)) from rfl, Option.bind_some, wo, Option.bind_some, wo, Option.bind_some, wo, Option.bind_some, wo, Option.bind_some, ← hM6]
  obtain ⟨M7, w1, w2, w3, w4, w5⟩ := wipe_L (x1 := fun _ => 0) 144 FU 0 M6 (by omega) (by unfold FU; omega) (fun k hk => absurd hk (by omega))
  rw [show i32 ((0 : Nat) : Int) = (0 : Int32) from rfl] at w1
  have f7 : Fi M6 M7 := ⟨w2, fun a ha => w3 a (by omega), fun j hj => by rw [w3 42 (by decide)], ⟨by rw [w3 44 (by decide)], by rw [w3 45 (by decide)], by rw [w3 47 (by decide)], by rw [w3 49 (by decide)]⟩, w4, fun j _ => by rw [w3 48 (by decide)], fun j _ => by rw [w3 50 (by decide)]⟩
  have hx7 : TxM t L M7 := Fi.tx hx (f6.tr f7)
  have h10 : M7.1 42 10 = i32 ((0 : Nat) : Int) := by
    rw [w3 42 (by decide), hM6, sI_ne (by decide), sI_ne (by decide), sI_ne (by decide), sI_ne (by decide), sI_nj (by decide), sI_at]; rfl
  obtain ⟨M8, n1, n2, n3⟩ := next_M hT (Nat.zero_le L) hx7 h10
  have h14 : M8.1 42 14 = i32 (-9) := by
    rw [n2.2.2 14 (by decide), w3 42 (by decide), hM6, sI_ne (by decide), sI_ne (by decide), sI_ne (by decide), sI_ne (by decide), sI_at]; rfl
  have hR8 : RM1 S0 M8 := by
    refine ⟨?_, ?_, ?_, ?_, ?_, fun p j hp => absurd hp (Nat.not_lt_zero p), fun p j hp => absurd hp (Nat.not_lt_zero p)⟩
    · rw [n2.2.1 44 (by decide), w3 44 (by decide), hM6, sI_ne (by decide), sI_ne (by decide), sI_ne (by decide), sI_at]; rfl
    · rw [n2.2.1 45 (by decide), w3 45 (by decide), hM6, sI_ne (by decide), sI_ne (by decide), sI_at]; rfl
    · rw [n2.2.1 47 (by decide), w3 47 (by decide), hM6, sI_ne (by decide), sI_at]; rfl
    · rw [n2.2.1 49 (by decide), w3 49 (by decide), hM6, sI_at]; rfl
    · intro x y hx hy
      rw [n2.2.1 46 (by decide), Nat.add_assoc, w5 _ (by omega)]; rfl
  obtain ⟨M1, g1, g2⟩ := sq73_L hT 401 401 FU 0 0 S0 M8 (by omega) (Nat.le_refl _) (by unfold FU; omega) (by omega) okS0 (fun _ => rfl) ⟨hx7.f2 n2, Nat.zero_le L, h14, n3⟩ hR8
  rw [show i32 ((0 : Nat) : Int) = (0 : Int32) from rfl] at g2
  have e8 : fX5_square M = fX5_square_73L FU 0 M8 := by rw [e6, w1, n1, Option.bind_some]
  refine ⟨M1, ((f6.tr f7).tr n2.fd.fi).tr g1, ?_⟩
  rw [e8]
  exact g2

/-! square: the model's item, kind by kind. -/
theorem item_0 {t : Nat → Int} {L : Nat} {S : Sc} (hS : okS S) {i p : Nat} (hi : i ≤ 400) {M : Mem} (hR : RM1 S M) (h10 : tk t L p ≠ 10) : fX5_item (i32 (mt (tk t L p))) (i32 (i : Int)) M = fX5_item_59 (i32 (mt (tk t L p))) (i32 (bI (may S i (tk t L p)))) M := by
  have s3 := hS.2.2.1
  have s4 := hS.2.2.2.1
  have r47 : rI M 47 2 1 = some (i32 ((cP S : Nat) : Int)) := by rw [show (1 : Int32) = i32 ((1 : Nat) : Int) from rfl, rI_ok (by omega)]; exact congrArg some hR.2.2.1
  have r49 : rI M 49 2 1 = some (i32 ((cI S : Nat) : Int)) := by rw [show (1 : Int32) = i32 ((1 : Nat) : Int) from rfl, rI_ok (by omega)]; exact congrArg some hR.2.2.2.1
  have hmay : ∀ c : Bool, may S i (tk t L p) = c → ∀ x : Int32, x = i32 (bI c) → fX5_item_59 (i32 (mt (tk t L p))) x M = fX5_item_59 (i32 (mt (tk t L p))) (i32 (bI (may S i (tk t L p)))) M := fun c hc x hx => by rw [hc, hx]
  unfold fX5_item fX5_item_38 fX5_item_54 fX5_item_58
  rw [r47, r49]
  simp only [Option.bind_some, Option.bind_none]
  rcases mt_c (tk_c t L p) with ⟨k0, k3, hm⟩ | ⟨hk, hm⟩ | ⟨hk, hm⟩ | ⟨hk, hm⟩ | ⟨hk, hm⟩
  · obtain hk | hk | hk | hk : tk t L p = 0 ∨ tk t L p = 1 ∨ tk t L p = 2 ∨ tk t L p = 3 := by omega
    · rw [if_pos (show i32 (mt (tk t L p)) = 0 by rw [hm, hk]; rfl)]
      by_cases z : i = 0
      · rw [if_pos (show i32 (i : Int) = 0 by rw [z]; rfl)]
        exact hmay true (by rw [hk]; unfold may; rw [decide_eq_true z]; rfl) _ rfl
      · rw [if_neg (show ¬ i32 (i : Int) = 0 from fun q => z (by have := (i32_inj (b := 0) (by omega)).mp q; omega))]
        exact hmay false (by rw [hk]; unfold may; rw [decide_eq_false z]; rfl) _ rfl
    · rw [if_neg (show ¬ i32 (mt (tk t L p)) = 0 by rw [hm, hk]; decide), if_pos (show i32 (mt (tk t L p)) = 1 by rw [hm, hk]; rfl)]
      exact hmay true (by rw [hk]; rfl) _ rfl
    · rw [if_neg (show ¬ i32 (mt (tk t L p)) = 0 by rw [hm, hk]; decide), if_neg (show ¬ i32 (mt (tk t L p)) = 1 by rw [hm, hk]; decide), if_pos (show i32 (mt (tk t L p)) = 2 by rw [hm, hk]; rfl), if_neg (show ¬ i32 (mt (tk t L p)) = 3 by rw [hm, hk]; decide)]
      by_cases z : cP S < 8
      · rw [if_pos (show i32 ((cP S : Nat) : Int) < 8 from (i32_lt (b := 8) (by omega)).mpr (by omega))]
        exact hmay true (by rw [hk]; unfold may; rw [decide_eq_false (show ¬ 8 ≤ cP S by omega)]; rfl) _ rfl
      · rw [if_neg (show ¬ i32 ((cP S : Nat) : Int) < 8 from fun q => z (by have := (i32_lt (b := 8) (by omega)).mp q; omega))]
        exact hmay false (by rw [hk]; unfold may; rw [decide_eq_true (show 8 ≤ cP S by omega)]; rfl) _ rfl
    · rw [if_neg (show ¬ i32 (mt (tk t L p)) = 0 by rw [hm, hk]; decide), if_neg (show ¬ i32 (mt (tk t L p)) = 1 by rw [hm, hk]; decide), if_neg (show ¬ i32 (mt (tk t L p)) = 2 by rw [hm, hk]; decide), if_pos (show i32 (mt (tk t L p)) = 3 by rw [hm, hk]; rfl)]
      by_cases z : 10 ≤ cI S
      · rw [if_pos (show (10 : Int32) ≤ i32 ((cI S : Nat) : Int) from (i32_le (a := 10) (by omega)).mpr (by omega))]
        exact hmay false (by rw [hk]; unfold may; rw [decide_eq_true z]; rfl) _ rfl
      · rw [if_neg (show ¬ (10 : Int32) ≤ i32 ((cI S : Nat) : Int) from fun q => z (by have := (i32_le (a := 10) (by omega)).mp q; omega))]
        exact hmay true (by rw [hk]; unfold may; rw [decide_eq_false z]; rfl) _ rfl
  · exact absurd hk h10
  · rw [if_neg (show ¬ i32 (mt (tk t L p)) = 0 by rw [hm]; decide), if_neg (show ¬ i32 (mt (tk t L p)) = 1 by rw [hm]; decide), if_neg (show ¬ i32 (mt (tk t L p)) = 2 by rw [hm]; decide), if_neg (show ¬ i32 (mt (tk t L p)) = 3 by rw [hm]; decide)]
    exact hmay false (by rw [hk]; rfl) _ rfl
  · rw [if_neg (show ¬ i32 (mt (tk t L p)) = 0 by rw [hm]; decide), if_neg (show ¬ i32 (mt (tk t L p)) = 1 by rw [hm]; decide), if_neg (show ¬ i32 (mt (tk t L p)) = 2 by rw [hm]; decide), if_neg (show ¬ i32 (mt (tk t L p)) = 3 by rw [hm]; decide)]
    exact hmay false (by rw [hk]; rfl) _ rfl
  · rw [if_neg (show ¬ i32 (mt (tk t L p)) = 0 by rw [hm]; decide), if_neg (show ¬ i32 (mt (tk t L p)) = 1 by rw [hm]; decide), if_neg (show ¬ i32 (mt (tk t L p)) = 2 by rw [hm]; decide), if_neg (show ¬ i32 (mt (tk t L p)) = 3 by rw [hm]; decide)]
    exact hmay false (by rw [hk]; rfl) _ rfl
theorem hv_6 {t : Nat → Int} {L : Nat} {S : Sc} {k p : Nat} {a0 a1 a2 a3 a4 a5 : Int32} (n : nl k ≤ 6)
    (h0 : ∀ q, psq t L S k p 0 = .inl q → good t L (rlo k 0) (rhi S k 0) q = true → a0 = i32 (vl t L q))
    (h1 : ∀ q, psq t L S k p 1 = .inl q → good t L (rlo k 1) (rhi S k 1) q = true → a1 = i32 (vl t L q))
    (h2 : 2 < nl k → ∀ q, psq t L S k p 2 = .inl q → good t L (rlo k 2) (rhi S k 2) q = true → a2 = i32 (vl t L q))
    (h3 : 3 < nl k → ∀ q, psq t L S k p 3 = .inl q → good t L (rlo k 3) (rhi S k 3) q = true → a3 = i32 (vl t L q))
    (h4 : 4 < nl k → ∀ q, psq t L S k p 4 = .inl q → good t L (rlo k 4) (rhi S k 4) q = true → a4 = i32 (vl t L q))
    (h5 : 5 < nl k → ∀ q, psq t L S k p 5 = .inl q → good t L (rlo k 5) (rhi S k 5) q = true → a5 = i32 (vl t L q)) : ∀ j q, j < nl k → psq t L S k p j = .inl q → good t L (rlo k j) (rhi S k j) q = true → vv6 a0 a1 a2 a3 a4 a5 j = i32 (vl t L q) := by
  intro j q hj
  rcases j6 (show j < 6 by omega) with rfl | rfl | rfl | rfl | rfl | rfl
  · exact h0 q
  · exact h1 q
  · exact h2 hj q
  · exact h3 hj q
  · exact h4 hj q
  · exact h5 hj q
theorem item_M {t : Nat → Int} {L : Nat} (hT : okT t L) {S : Sc} (hS : okS S) {i p : Nat} (hi : i ≤ 400) {M : Mem} (h : X t L (.inl p) M) (hR : RM1 S M) (h10 : tk t L p ≠ 10) (hS0 : i = 0 → S = S0) : ∃ M', fX5_item (i32 (mt (tk t L p))) (i32 (i : Int)) M = some M' ∧ Fi M M' ∧ ((∃ q, (itm t L S i p).1 = .inr q ∧ X t L (.inr q) M') ∨ (∃ p' S', itm t L S i p = (.inl p', S') ∧ X t L (.inl p') M' ∧ RM1 S' M')) := by
  obtain ⟨s1, s2, s3, s4, -⟩ := id hS
  have hpL : p ≤ L := h.2.1
  have hen := en_b (t := t) hpL
  have hsb := sT_b t hpL
  rw [item_0 hS hi hR h10]
  cases hm : may S i (tk t L p) with
  | false =>
    obtain ⟨Mf, f1, f2, f3⟩ := due_f hT h
    refine ⟨Mf, ?_, f2.fi, Or.inl ⟨sT t L p, ?_, f3⟩⟩
    · unfold fX5_item_59
      rw [show i32 (bI false) = (0 : Int32) from rfl, f1]
      simp only [Option.bind_some, Option.bind_none]
      rw [if_neg (show ¬ Mf.1 42 14 = -9 from fun z => by rw [f3.2.2] at z; have := (i32_inj (b := -9) (by have := hT.1; omega)).mp z; omega)]
    · unfold itm; rw [hm, if_neg (by decide)]
  | true =>
    obtain ⟨m1, m2, m3, m4⟩ := mB_r hm
    obtain ⟨M1, d1, d2, d3⟩ := due_t hT h (by omega) (x := 1) (by decide)
    have hR1 := hR.fdu d2
    have h59 : ∀ x1 : Int32, fX5_item_59 x1 (i32 (bI true)) M = if x1 = 0 then (fX5_number 3 12 M1).bind fun v7 => (wI v7.2 44 2 1 v7.1).bind fun M8 => (fX5_number 3 12 M8).bind fun v9 => (wI v9.2 45 2 1 v9.1).bind fun M10 => fX5_item_377 M10 else (rI M1 44 2 1).bind fun v2 => (fX5_number 0 (v2 - 1) M1).bind fun v3 => (rI v3.2 45 2 1).bind fun v4 => (fX5_number 0 (v4 - 1) v3.2).bind fun v5 => if x1 = 1 then (if v5.2.1 42 14 = -9 then (wZ v5.2 46 288 ((144 + (12 * v5.1)) + v3.1) 1).bind fun M6 => fX5_item_377 M6 else fX5_item_169 x1 v3.1 v5.1 v5.2) else fX5_item_169 x1 v3.1 v5.1 v5.2 := fun x1 => by
      unfold fX5_item_59
      rw [show i32 (bI true) = (1 : Int32) from rfl, d1]
      simp only [Option.bind_some, Option.bind_none]
      rw [if_pos (show M1.1 42 14 = -9 from d3.2.2.1)]
    have w44 : ∀ (Mx : Mem) (v : Int32), wI Mx 44 2 1 v = some (sI Mx 44 1 v) := fun Mx v => by
      rw [show (1 : Int32) = i32 ((1 : Nat) : Int) from rfl, wI_ok (by omega)]; rfl
    have w45 : ∀ (Mx : Mem) (v : Int32), wI Mx 45 2 1 v = some (sI Mx 45 1 v) := fun Mx v => by
      rw [show (1 : Int32) = i32 ((1 : Nat) : Int) from rfl, wI_ok (by omega)]; rfl
    have w47 : ∀ (Mx : Mem) (v : Int32), wI Mx 47 2 1 v = some (sI Mx 47 1 v) := fun Mx v => by
      rw [show (1 : Int32) = i32 ((1 : Nat) : Int) from rfl, wI_ok (by omega)]; rfl
    have w49 : ∀ (Mx : Mem) (v : Int32), wI Mx 49 2 1 v = some (sI Mx 49 1 v) := fun Mx v => by
      rw [show (1 : Int32) = i32 ((1 : Nat) : Int) from rfl, wI_ok (by omega)]; rfl
    rw [h59]
    obtain ⟨k, hk⟩ : ∃ k : Nat, tk t L p = k := ⟨(tk t L p).toNat, by omega⟩
    have hk4 : k < 4 := by omega
    have hmt : mt (tk t L p) = k := by
      rcases mt_c (tk_c t L p) with q | q | q | q | q <;> omega
    rw [hmt]
    by_cases k0 : k = 0
    · subst k0
      have hX0 : X t L (psq t L S 0 (en t L p) 0) M1 := d3
      obtain ⟨a0, N0, b0, c0, e0, f0⟩ := num_s hT hS (k := 0) (by decide) (j := 0) (by decide) hX0
      obtain ⟨a1, N1, b1, c1, e1, f1⟩ := num_s hT hS (k := 0) (by decide) (j := 1) (by decide) (e0.o (a := 44) (j := 1) (x := a0) (by decide))
      obtain ⟨Ms, g1, g2, g3⟩ := stop_M hT (e1.o (a := 45) (j := 1) (x := a1) (by decide))
      have b0' : fX5_number 3 12 M1 = some (a0, N0) := b0
      have b1' : fX5_number 3 12 (sI N0 44 1 a0) = some (a1, N1) := b1
      have hfi : Fi M Ms := (((((d2.fi).tr c0.fi).tr (Fi.w1 (by decide))).tr c1.fi).tr (Fi.w1 (by decide))).tr g2.fi
      refine ⟨Ms, ?_, hfi, ?_⟩
      · rw [if_pos (by rfl), b0']
        simp only [Option.bind_some, Option.bind_none]
        rw [w44]
        simp only [Option.bind_some, Option.bind_none]
        rw [b1']
        simp only [Option.bind_some, Option.bind_none]
        rw [w45]
        simp only [Option.bind_some, Option.bind_none]
        rw [g1]
      · refine itm_of hm hk (v := vv6 a0 a1 0 0 0 0) (hv_6 (by decide) f0 f1 (fun z => absurd z (by decide)) (fun z => absurd z (by decide)) (fun z => absurd z (by decide)) (fun z => absurd z (by decide))) g3 (fun w hw hr => ?_) hen.2.1
        have e := hS0 (m4 (by omega))
        have x0 : a0 = i32 (w 0) := hw 0 (by decide)
        have x1 : a1 = i32 (w 1) := hw 1 (by decide)
        have o : ∀ a, a ≠ 42 → a ≠ 44 → a ≠ 45 → Ms.1 a = M1.1 a := fun a z1 z2 z3 => by rw [g2.2.1 a z1, sI_ne z3, c1.2.1 a z1, sI_ne z2, c0.2.1 a z1]
        refine ⟨?_, ?_, ?_, ?_, ?_, ?_, ?_⟩
        · rw [g2.2.1 44 (by decide), sI_ne (by decide), c1.2.1 44 (by decide), sI_at, x0]; rfl
        · rw [g2.2.1 45 (by decide), sI_at, x1]; rfl
        · rw [o 47 (by decide) (by decide) (by decide)]; exact hR1.2.2.1
        · rw [o 49 (by decide) (by decide) (by decide)]; exact hR1.2.2.2.1
        · intro x y hx hy; rw [o 46 (by decide) (by decide) (by decide)]; exact hR1.2.2.2.2.1 x y hx hy
        · intro q j hq; have hq' : q < cP S := hq; rw [e] at hq'; exact absurd hq' (Nat.not_lt_zero q)
        · intro q j hq; have hq' : q < cI S := hq; rw [e] at hq'; exact absurd hq' (Nat.not_lt_zero q)
    · rw [if_neg (show ¬ i32 (k : Int) = 0 from fun q => k0 (by have := (i32_inj (b := 0) (by omega)).mp q; omega))]
      have hX0 : X t L (psq t L S k (en t L p) 0) M1 := d3
      have n2 : 1 < nl k := by unfold nl; split <;> (try split) <;> (try split) <;> omega
      obtain ⟨a0, N0, b0, c0, e0, f0⟩ := num_s hT hS hk4 (j := 0) (by omega) hX0
      obtain ⟨a1, N1, b1, c1, e1, f1⟩ := num_s hT hS hk4 (j := 1) n2 e0
      have l0 : rlo k 0 = 0 := by unfold rlo; rw [if_neg k0, if_neg (by omega)]
      have l1 : rlo k 1 = 0 := by unfold rlo; rw [if_neg k0, if_neg (by omega)]
      have u0 : rhi S k 0 = cW S - 1 := by unfold rhi; rw [if_neg k0, if_pos rfl]
      have u1 : rhi S k 1 = cH S - 1 := by unfold rhi; rw [if_neg k0, if_neg (by decide), if_pos rfl]
      rw [l0, u0] at b0
      rw [l1, u1] at b1
      have hR2 := (hR1.fdu c0).fdu c1
      have r44 : rI M1 44 2 1 = some (i32 (cW S)) := by rw [show (1 : Int32) = i32 ((1 : Nat) : Int) from rfl, rI_ok (by omega)]; exact congrArg some hR1.1
      have r45 : rI N0 45 2 1 = some (i32 (cH S)) := by rw [show (1 : Int32) = i32 ((1 : Nat) : Int) from rfl, rI_ok (by omega)]; exact congrArg some (hR1.fdu c0).2.1
      rw [r44]
      simp only [Option.bind_some, Option.bind_none]
      rw [show i32 (cW S) - 1 = i32 (cW S - 1) from i32_sub (cW S) 1, show (0 : Int32) = i32 0 from rfl, b0]
      simp only [Option.bind_some, Option.bind_none]
      rw [r45]
      simp only [Option.bind_some, Option.bind_none]
      rw [show i32 (cH S) - 1 = i32 (cH S - 1) from i32_sub (cH S) 1, b1]
      simp only [Option.bind_some, Option.bind_none]
      have fi1 : Fi M N1 := ((d2.fi).tr c0.fi).tr c1.fi
      by_cases k1 : k = 1
      · subst k1
        rw [if_pos (by rfl)]
        -- a wall
        generalize hps : psq t L S 1 (en t L p) 2 = ps at e1
        have e169 : fX5_item_169 (i32 ((1 : Nat) : Int)) a0 a1 N1 = fX5_item_377 N1 := by
          unfold fX5_item_169
          rw [if_neg (by decide), if_neg (by decide)]
        have hvs : ∀ j q, j < nl 1 → psq t L S 1 (en t L p) j = .inl q → good t L (rlo 1 j) (rhi S 1 j) q = true → vv6 a0 a1 0 0 0 0 j = i32 (vl t L q) := hv_6 (by decide) f0 f1 (fun z => absurd z (by decide)) (fun z => absurd z (by decide)) (fun z => absurd z (by decide)) (fun z => absurd z (by decide))
        cases ps with
        | inr q =>
          obtain ⟨Ms, g1, g2, g3⟩ := stop_M hT e1
          rw [if_neg (show ¬ N1.1 42 14 = -9 from fun z => by rw [e1.2.2] at z; have := (i32_inj (b := -9) (by have := e1.2.1; omega)).mp z; omega), e169, g1]
          refine ⟨Ms, rfl, fi1.tr g2.fi, ?_⟩
          have g3' : X t L (stp t L (psq t L S 1 (en t L p) (nl 1))) Ms := by
            rw [show nl 1 = 2 from rfl, hps]; exact g3
          -- nothing is added after a fault
          rcases psq_rd hvs 2 0 (en t L p) (fun _ => 0) (by decide) rfl (fun i hi => absurd hi (by omega)) with ⟨q', w', h1, h2⟩ | ⟨p', w', h1, h2, -⟩
          · rw [Nat.zero_add, hps] at h2
            injection h2 with h2
            subst h2
            left
            refine ⟨q, ?_, g3⟩
            unfold itm
            rw [if_pos hm, hk, show (((1 : Nat) : Int)).toNat = 1 from rfl, show nl 1 = 2 from rfl, h1]
          · rw [Nat.zero_add, hps] at h2
            injection h2
        | inl p' =>
          rw [if_pos (show N1.1 42 14 = -9 from e1.2.2.1)]
          rcases psq_rd hvs 2 0 (en t L p) (fun _ => 0) (by decide) rfl (fun i hi => absurd hi (by omega)) with ⟨q', w', h1, h2⟩ | ⟨p'', w', h1, h2, h3⟩
          · rw [Nat.zero_add, hps] at h2; injection h2
          · obtain ⟨-, o2, -⟩ := rdF_out _ _ _ _ _ _ hen.2.1 h1
            have x0 : a0 = i32 (w' 0) := h3 0 (by decide)
            have x1 : a1 = i32 (w' 1) := h3 1 (by decide)
            have y0 : 0 ≤ w' 0 ∧ w' 0 ≤ cW S - 1 := o2 0 (by decide) (by decide)
            have y1 : 0 ≤ w' 1 ∧ w' 1 ≤ cH S - 1 := o2 1 (by decide) (by decide)
            rw [show (144 : Int32) = i32 144 from rfl, show (12 : Int32) = i32 12 from rfl, show (1 : Int32) = i32 1 from rfl, x0, x1, i32_mul, i32_add, i32_add, wZ_ok (by omega)]
            simp only [Option.bind_some, Option.bind_none]
            obtain ⟨Ms, g1, g2, g3⟩ := stop_M hT (e1.o (a := 46) (j := (144 + 12 * w' 1 + w' 0).toNat) (x := i32 1) (by decide))
            rw [g1]
            refine ⟨Ms, rfl, (fi1.tr (Fi.w8 (Or.inl ⟨rfl, by omega⟩))).tr g2.fi, ?_⟩
            refine itm_of hm hk hvs (by rw [show nl 1 = 2 from rfl, hps]; exact g3) (fun w hw hr => ?_) hen.2.1
            have z0 : a0 = i32 (w 0) := hw 0 (by decide)
            have z1 : a1 = i32 (w 1) := hw 1 (by decide)
            have t0 : 0 ≤ w 0 ∧ w 0 ≤ cW S - 1 := hr 0 (by decide)
            have t1 : 0 ≤ w 1 ∧ w 1 ≤ cH S - 1 := hr 1 (by decide)
            have q0 : w' 0 = w 0 := (i32_inj (by omega)).mp (x0.symm.trans z0)
            have q1 : w' 1 = w 1 := (i32_inj (by omega)).mp (x1.symm.trans z1)
            have o : ∀ a, a ≠ 42 → a ≠ 46 → Ms.1 a = N1.1 a := fun a u1 u2 => by rw [g2.2.1 a u1, sI_ne u2]
            refine ⟨?_, ?_, ?_, ?_, ?_, ?_, ?_⟩
            · rw [o 44 (by decide) (by decide)]; exact hR2.1
            · rw [o 45 (by decide) (by decide)]; exact hR2.2.1
            · rw [o 47 (by decide) (by decide)]; exact hR2.2.2.1
            · rw [o 49 (by decide) (by decide)]; exact hR2.2.2.2.1
            · intro x y hx hy
              rw [g2.2.1 46 (by decide)]
              show _ = i32 (bI (decide ((x : Int) = w 0 ∧ (y : Int) = w 1) || cWl S x y))
              by_cases z : (x : Int) = w 0 ∧ (y : Int) = w 1
              · rw [show 144 + 12 * y + x = (144 + 12 * w' 1 + w' 0).toNat by omega, sI_at, decide_eq_true z]; rfl
              · rw [sI_nj (by omega), decide_eq_false z, Bool.false_or]; exact hR2.2.2.2.2.1 x y hx hy
            · intro q j hq hj; rw [o 48 (by decide) (by decide)]; exact hR2.2.2.2.2.2.1 q j hq hj
            · intro q j hq hj; rw [o 50 (by decide) (by decide)]; exact hR2.2.2.2.2.2.2 q j hq hj
      · rw [if_neg (show ¬ i32 (k : Int) = 1 from fun q => k1 (by have := (i32_inj (b := 1) (by omega)).mp q; omega))]
        by_cases k2 : k = 2
        · subst k2
          have hlt := m2 (by omega)
          -- a person
          obtain ⟨a2, N2, b2, c2, e2, f2⟩ := num_s hT hS (k := 2) (by decide) (j := 2) (by decide) ((e1.o (a := 48) (j := 48 + 6 * cP S) (x := a0) (by decide)).o (a := 48) (j := 48 + 6 * cP S + 1) (x := a1) (by decide))
          obtain ⟨a3, N3, b3, c3, e3, f3⟩ := num_s hT hS (k := 2) (by decide) (j := 3) (by decide) (e2.o (a := 48) (j := 48 + 6 * cP S + 2) (x := a2) (by decide))
          obtain ⟨a4, N4, b4, c4, e4, f4⟩ := num_s hT hS (k := 2) (by decide) (j := 4) (by decide) (e3.o (a := 48) (j := 48 + 6 * cP S + 3) (x := a3) (by decide))
          obtain ⟨a5, N5, b5, c5, e5, f5⟩ := num_s hT hS (k := 2) (by decide) (j := 5) (by decide) (e4.o (a := 48) (j := 48 + 6 * cP S + 4) (x := a4) (by decide))
          obtain ⟨Ms, g1, g2, g3⟩ := stop_M hT ((e5.o (a := 48) (j := 48 + 6 * cP S + 5) (x := a5) (by decide)).o (a := 47) (j := 1) (x := i32 ((cP S + 1 : Nat) : Int)) (by decide))
          have b2' : fX5_number (i32 0) 4 (sI (sI N1 48 (48 + 6 * cP S) a0) 48 (48 + 6 * cP S + 1) a1) = some (a2, N2) := b2
          have b3' : fX5_number (i32 0) 99 (sI N2 48 (48 + 6 * cP S + 2) a2) = some (a3, N3) := b3
          have b4' : fX5_number (i32 0) 99 (sI N3 48 (48 + 6 * cP S + 3) a3) = some (a4, N4) := b4
          have b5' : fX5_number (i32 0) 9 (sI N4 48 (48 + 6 * cP S + 4) a4) = some (a5, N5) := b5
          have hcp : ∀ Mx : Mem, Mx.1 47 = N1.1 47 → rI Mx 47 2 1 = some (i32 ((cP S : Nat) : Int)) := fun Mx hx => by
            rw [show (1 : Int32) = i32 ((1 : Nat) : Int) from rfl, rI_ok (by omega), hx]; exact congrArg some hR2.2.2.1
          have w48 : ∀ (Mx : Mem) (v : Int32) (j : Nat), j < 96 → wI Mx 48 96 (i32 (j : Int)) v = some (sI Mx 48 j v) := fun Mx v j hj => by
            rw [wI_ok (by omega), show ((j : Int)).toNat = j by omega]
          have o47 : N5.1 47 = N1.1 47 := by rw [c5.2.1 47 (by decide), sI_ne (by decide), c4.2.1 47 (by decide), sI_ne (by decide), c3.2.1 47 (by decide), sI_ne (by decide), c2.2.1 47 (by decide), sI_ne (by decide), sI_ne (by decide)]
          have fiz : Fi M Ms := ((((((((((((fi1.tr (Fi.w8 (by omega))).tr (Fi.w8 (by omega))).tr c2.fi).tr (Fi.w8 (by omega))).tr c3.fi).tr (Fi.w8 (by omega))).tr c4.fi).tr (Fi.w8 (by omega))).tr c5.fi).tr (Fi.w8 (by omega))).tr (Fi.w1 (by decide))).tr g2.fi)
          refine ⟨Ms, ?_, fiz, ?_⟩
          · unfold fX5_item_169
            rw [if_pos (by rfl), hcp N1 rfl]
            simp only [Option.bind_some, Option.bind_none]
            rw [show (48 : Int32) + 6 * i32 ((cP S : Nat) : Int) = i32 ((48 + 6 * cP S : Nat) : Int) by rw [show (48 : Int32) = i32 48 from rfl, show (6 : Int32) = i32 6 from rfl, i32_mul, i32_add]; congr 1, w48 _ _ _ (by omega)]
            simp only [Option.bind_some, Option.bind_none]
            rw [show i32 ((48 + 6 * cP S : Nat) : Int) + 1 = i32 ((48 + 6 * cP S + 1 : Nat) : Int) from i32_add _ 1, w48 _ _ _ (by omega)]
            simp only [Option.bind_some, Option.bind_none]
            rw [show (0 : Int32) = i32 0 from rfl, b2']
            simp only [Option.bind_some, Option.bind_none]
            rw [show i32 ((48 + 6 * cP S : Nat) : Int) + 2 = i32 ((48 + 6 * cP S + 2 : Nat) : Int) from i32_add _ 2, w48 _ _ _ (by omega)]
            simp only [Option.bind_some, Option.bind_none]
            rw [b3']
            simp only [Option.bind_some, Option.bind_none]
            rw [show i32 ((48 + 6 * cP S : Nat) : Int) + 3 = i32 ((48 + 6 * cP S + 3 : Nat) : Int) from i32_add _ 3, w48 _ _ _ (by omega)]
            simp only [Option.bind_some, Option.bind_none]
            rw [b4']
            simp only [Option.bind_some, Option.bind_none]
            rw [show i32 ((48 + 6 * cP S : Nat) : Int) + 4 = i32 ((48 + 6 * cP S + 4 : Nat) : Int) from i32_add _ 4, w48 _ _ _ (by omega)]
            simp only [Option.bind_some, Option.bind_none]
            rw [b5']
            simp only [Option.bind_some, Option.bind_none]
            rw [show i32 ((48 + 6 * cP S : Nat) : Int) + 5 = i32 ((48 + 6 * cP S + 5 : Nat) : Int) from i32_add _ 5, w48 _ _ _ (by omega)]
            simp only [Option.bind_some, Option.bind_none]
            rw [hcp (sI N5 48 (48 + 6 * cP S + 5) a5) (by rw [sI_ne (by decide), o47])]
            simp only [Option.bind_some, Option.bind_none]
            rw [show i32 ((cP S : Nat) : Int) + 1 = i32 ((cP S + 1 : Nat) : Int) from i32_add _ 1, w47]
            simp only [Option.bind_some, Option.bind_none]
            exact g1
          · refine itm_of hm hk (v := vv6 a0 a1 a2 a3 a4 a5) (hv_6 (by decide) f0 f1 (fun _ => f2) (fun _ => f3) (fun _ => f4) (fun _ => f5)) g3 (fun w hw hr => ?_) hen.2.1
            have o : ∀ a, a ≠ 42 → a ≠ 47 → a ≠ 48 → Ms.1 a = N1.1 a := fun a u1 u2 u3 => by rw [g2.2.1 a u1, sI_ne u2, sI_ne u3, c5.2.1 a u1, sI_ne u3, c4.2.1 a u1, sI_ne u3, c3.2.1 a u1, sI_ne u3, c2.2.1 a u1, sI_ne u3, sI_ne u3]
            refine ⟨?_, ?_, ?_, ?_, ?_, ?_, ?_⟩
            · rw [o 44 (by decide) (by decide) (by decide)]; exact hR2.1
            · rw [o 45 (by decide) (by decide) (by decide)]; exact hR2.2.1
            · rw [g2.2.1 47 (by decide), sI_at]; rfl
            · rw [o 49 (by decide) (by decide) (by decide)]; exact hR2.2.2.2.1
            · intro x y hx hy; rw [o 46 (by decide) (by decide) (by decide)]; exact hR2.2.2.2.2.1 x y hx hy
            · intro q j hq hj
              have hq' : q < cP S + 1 := hq
              show _ = i32 (if q = cP S then w j else cPd S q j)
              by_cases z : q = cP S
              · subst z
                rw [if_pos rfl, ← hw j hj, g2.2.1 48 (by decide), sI_ne (by decide)]
                rcases j6 hj with rfl | rfl | rfl | rfl | rfl | rfl
                · rw [sI_nj (by omega), c5.2.1 48 (by decide), sI_nj (by omega), c4.2.1 48 (by decide), sI_nj (by omega), c3.2.1 48 (by decide), sI_nj (by omega), c2.2.1 48 (by decide), sI_nj (by omega), Nat.add_zero, sI_at]; rfl
                · rw [sI_nj (by omega), c5.2.1 48 (by decide), sI_nj (by omega), c4.2.1 48 (by decide), sI_nj (by omega), c3.2.1 48 (by decide), sI_nj (by omega), c2.2.1 48 (by decide), sI_at]; rfl
                · rw [sI_nj (by omega), c5.2.1 48 (by decide), sI_nj (by omega), c4.2.1 48 (by decide), sI_nj (by omega), c3.2.1 48 (by decide), sI_at]; rfl
                · rw [sI_nj (by omega), c5.2.1 48 (by decide), sI_nj (by omega), c4.2.1 48 (by decide), sI_at]; rfl
                · rw [sI_nj (by omega), c5.2.1 48 (by decide), sI_at]; rfl
                · rw [sI_at]; rfl
              · rw [if_neg z, g2.2.1 48 (by decide), sI_ne (by decide), sI_nj (by omega), c5.2.1 48 (by decide), sI_nj (by omega), c4.2.1 48 (by decide), sI_nj (by omega), c3.2.1 48 (by decide), sI_nj (by omega), c2.2.1 48 (by decide), sI_nj (by omega), sI_nj (by omega)]
                exact hR2.2.2.2.2.2.1 q j (by omega) hj
            · intro q j hq hj; rw [o 50 (by decide) (by decide) (by decide)]; exact hR2.2.2.2.2.2.2 q j hq hj
        · have k3 : k = 3 := by omega
          subst k3
          have hlt := m3 (by omega)
          -- a picture
          obtain ⟨a2, N2, b2, c2, e2, f2⟩ := num_s hT hS (k := 3) (by decide) (j := 2) (by decide) ((e1.o (a := 50) (j := 50 + 5 * cI S) (x := a0) (by decide)).o (a := 50) (j := 50 + 5 * cI S + 1) (x := a1) (by decide))
          obtain ⟨a3, N3, b3, c3, e3, f3⟩ := num_s hT hS (k := 3) (by decide) (j := 3) (by decide) (e2.o (a := 50) (j := 50 + 5 * cI S + 2) (x := a2) (by decide))
          obtain ⟨a4, N4, b4, c4, e4, f4⟩ := num_s hT hS (k := 3) (by decide) (j := 4) (by decide) (e3.o (a := 50) (j := 50 + 5 * cI S + 3) (x := a3) (by decide))
          obtain ⟨Ms, g1, g2, g3⟩ := stop_M hT ((e4.o (a := 50) (j := 50 + 5 * cI S + 4) (x := a4) (by decide)).o (a := 49) (j := 1) (x := i32 ((cI S + 1 : Nat) : Int)) (by decide))
          have b2' : fX5_number (i32 0) 3 (sI (sI N1 50 (50 + 5 * cI S) a0) 50 (50 + 5 * cI S + 1) a1) = some (a2, N2) := b2
          have b3' : fX5_number 1 9 (sI N2 50 (50 + 5 * cI S + 2) a2) = some (a3, N3) := b3
          have b4' : fX5_number (i32 0) 99 (sI N3 50 (50 + 5 * cI S + 3) a3) = some (a4, N4) := b4
          have hci : ∀ Mx : Mem, Mx.1 49 = N1.1 49 → rI Mx 49 2 1 = some (i32 ((cI S : Nat) : Int)) := fun Mx hx => by
            rw [show (1 : Int32) = i32 ((1 : Nat) : Int) from rfl, rI_ok (by omega), hx]; exact congrArg some hR2.2.2.2.1
          have w50 : ∀ (Mx : Mem) (v : Int32) (j : Nat), j < 100 → wI Mx 50 100 (i32 (j : Int)) v = some (sI Mx 50 j v) := fun Mx v j hj => by
            rw [wI_ok (by omega), show ((j : Int)).toNat = j by omega]
          have o49 : N4.1 49 = N1.1 49 := by rw [c4.2.1 49 (by decide), sI_ne (by decide), c3.2.1 49 (by decide), sI_ne (by decide), c2.2.1 49 (by decide), sI_ne (by decide), sI_ne (by decide)]
          have fiz : Fi M Ms := (((((((((fi1.tr (Fi.w8 (by omega))).tr (Fi.w8 (by omega))).tr c2.fi).tr (Fi.w8 (by omega))).tr c3.fi).tr (Fi.w8 (by omega))).tr c4.fi).tr (Fi.w8 (by omega))).tr (Fi.w1 (by decide))).tr g2.fi
          refine ⟨Ms, ?_, fiz, ?_⟩
          · unfold fX5_item_169
            rw [if_neg (by decide), if_pos (by rfl), hci N1 rfl]
            simp only [Option.bind_some, Option.bind_none]
            rw [show (50 : Int32) + 5 * i32 ((cI S : Nat) : Int) = i32 ((50 + 5 * cI S : Nat) : Int) by rw [show (50 : Int32) = i32 50 from rfl, show (5 : Int32) = i32 5 from rfl, i32_mul, i32_add]; congr 1, w50 _ _ _ (by omega)]
            simp only [Option.bind_some, Option.bind_none]
            rw [show i32 ((50 + 5 * cI S : Nat) : Int) + 1 = i32 ((50 + 5 * cI S + 1 : Nat) : Int) from i32_add _ 1, w50 _ _ _ (by omega)]
            simp only [Option.bind_some, Option.bind_none]
            rw [show (0 : Int32) = i32 0 from rfl, b2']
            simp only [Option.bind_some, Option.bind_none]
            rw [show i32 ((50 + 5 * cI S : Nat) : Int) + 2 = i32 ((50 + 5 * cI S + 2 : Nat) : Int) from i32_add _ 2, w50 _ _ _ (by omega)]
            simp only [Option.bind_some, Option.bind_none]
            rw [b3']
            simp only [Option.bind_some, Option.bind_none]
            rw [show i32 ((50 + 5 * cI S : Nat) : Int) + 3 = i32 ((50 + 5 * cI S + 3 : Nat) : Int) from i32_add _ 3, w50 _ _ _ (by omega)]
            simp only [Option.bind_some, Option.bind_none]
            rw [b4']
            simp only [Option.bind_some, Option.bind_none]
            rw [show i32 ((50 + 5 * cI S : Nat) : Int) + 4 = i32 ((50 + 5 * cI S + 4 : Nat) : Int) from i32_add _ 4, w50 _ _ _ (by omega)]
            simp only [Option.bind_some, Option.bind_none]
            rw [hci (sI N4 50 (50 + 5 * cI S + 4) a4) (by rw [sI_ne (by decide), o49])]
            simp only [Option.bind_some, Option.bind_none]
            rw [show i32 ((cI S : Nat) : Int) + 1 = i32 ((cI S + 1 : Nat) : Int) from i32_add _ 1, w49]
            simp only [Option.bind_some, Option.bind_none]
            exact g1
          · refine itm_of hm hk (v := vv6 a0 a1 a2 a3 a4 0) (hv_6 (by decide) f0 f1 (fun _ => f2) (fun _ => f3) (fun _ => f4) (fun z => absurd z (by decide))) g3 (fun w hw hr => ?_) hen.2.1
            have o : ∀ a, a ≠ 42 → a ≠ 49 → a ≠ 50 → Ms.1 a = N1.1 a := fun a u1 u2 u3 => by rw [g2.2.1 a u1, sI_ne u2, sI_ne u3, c4.2.1 a u1, sI_ne u3, c3.2.1 a u1, sI_ne u3, c2.2.1 a u1, sI_ne u3, sI_ne u3]
            refine ⟨?_, ?_, ?_, ?_, ?_, ?_, ?_⟩
            · rw [o 44 (by decide) (by decide) (by decide)]; exact hR2.1
            · rw [o 45 (by decide) (by decide) (by decide)]; exact hR2.2.1
            · rw [o 47 (by decide) (by decide) (by decide)]; exact hR2.2.2.1
            · rw [g2.2.1 49 (by decide), sI_at]; rfl
            · intro x y hx hy; rw [o 46 (by decide) (by decide) (by decide)]; exact hR2.2.2.2.2.1 x y hx hy
            · intro q j hq hj; rw [o 48 (by decide) (by decide) (by decide)]; exact hR2.2.2.2.2.2.1 q j hq hj
            · intro q j hq hj
              have hq' : q < cI S + 1 := hq
              show _ = i32 (if q = cI S then w j else cQd S q j)
              by_cases z : q = cI S
              · subst z
                rw [if_pos rfl, ← hw j hj, g2.2.1 50 (by decide), sI_ne (by decide)]
                rcases j6 (show j < 6 by omega) with rfl | rfl | rfl | rfl | rfl | rfl
                · rw [sI_nj (by omega), c4.2.1 50 (by decide), sI_nj (by omega), c3.2.1 50 (by decide), sI_nj (by omega), c2.2.1 50 (by decide), sI_nj (by omega), Nat.add_zero, sI_at]; rfl
                · rw [sI_nj (by omega), c4.2.1 50 (by decide), sI_nj (by omega), c3.2.1 50 (by decide), sI_nj (by omega), c2.2.1 50 (by decide), sI_at]; rfl
                · rw [sI_nj (by omega), c4.2.1 50 (by decide), sI_nj (by omega), c3.2.1 50 (by decide), sI_at]; rfl
                · rw [sI_nj (by omega), c4.2.1 50 (by decide), sI_at]; rfl
                · rw [sI_at]; rfl
                · exact absurd hj (by decide)
              · rw [if_neg z, g2.2.1 50 (by decide), sI_ne (by decide), sI_nj (by omega), c4.2.1 50 (by decide), sI_nj (by omega), c3.2.1 50 (by decide), sI_nj (by omega), c2.2.1 50 (by decide), sI_nj (by omega), sI_nj (by omega)]
                exact hR2.2.2.2.2.2.2 q j (by omega) hj

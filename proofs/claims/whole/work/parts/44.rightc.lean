/-! right: the class. -/
def R3 (M M' : Mem) : Prop := M'.2 = M.2 ∧ ∀ a, a ≠ 21 → a ≠ 22 → a ≠ 23 → M'.1 a = M.1 a
theorem R3.rf {M : Mem} : R3 M M := ⟨rfl, fun _ _ _ _ => rfl⟩
theorem R3.tr {M M1 M2 : Mem} (h : R3 M M1) (k : R3 M1 M2) : R3 M M2 := ⟨k.1.trans h.1, fun a q1 q2 q3 => (k.2 a q1 q2 q3).trans (h.2 a q1 q2 q3)⟩
theorem R3.w {M : Mem} {a j : Nat} {x : Int32} (h : a = 21 ∨ a = 22 ∨ a = 23) : R3 M (sI M a j x) := ⟨rfl, fun a' q1 q2 q3 => sI_ne (by omega)⟩
theorem RNc.r3 {N : Nt} {M M' : Mem} (h : RNc 4 N M) (k : R3 M M') : RNc 4 N M' := h.mv (by rw [k.2 4 (by decide) (by decide) (by decide)]) (by rw [k.2 4 (by decide) (by decide) (by decide)]) (k.2 5 (by decide) (by decide) (by decide)) (k.2 6 (by decide) (by decide) (by decide)) (k.2 7 (by decide) (by decide) (by decide))
theorem ofFact_C {N : Nt} {M : Mem} (hN : okN N) (hr : RNc 4 N M) {i j : Nat} (hi : i < nF N) (hj : j < 4) : fX1_ofFact 4 (i32 i) (i32 j) M = some (i32 (nFd N i j)) := by
  have := hN.1
  unfold fX1_ofFact
  simp only [L0, L1, L2, L3, L4, L5, L6, L7, L8, L9, L10, L11, L12, L13, L15, L16, L20, L24, L31, L32, L40, L41, L48, L50, L57, L59, L63, L80, L81, L96, L97, L99, L100, L122, L144, L199, L255, L400, L1681, L68921, L1000000, i32_add, i32_sub, i32_mul, i32_neg, Option.bind_some, Option.bind_none]
  rw [rI_ok (by omega), show (4 * (i : Int) + j).toNat = 4 * i + j by omega, hr.2.2.1 i j hi hj]
  rfl
def CT (N : Nt) (f : Nat) (M : Mem) : Prop := (∀ j : Nat, j < 648 → M.1 22 j = i32 ((tl N f (j : Int) : Nat) : Int)) ∧ M.1 21 2 = i32 ((fb_ct (lc N) f : Nat) : Int)
theorem tl_le {N : Nt} (n : Nat) (j : Int) : tl N n j ≤ n := fb_ct_le _ n
theorem countFact_C {N : Nt} (hN : okN N) {f : Nat} (hf : f < nF N) {M : Mem} (hc : CT N f M) : ∃ M', fX0_countFact (i32 (lo N f)) (i32 (hi N f)) (i32 (dd N f)) M = some M' ∧ R3 M M' ∧ CT N (f + 1) M' := by
  have h20 := hN.1
  obtain ⟨g1, g2⟩ := fact_c hN hf
  obtain ⟨c1, c2⟩ := hc
  unfold fX0_countFact fX0_tallyOf
  rw [show (-40 : Int32) = i32 (-40) from rfl, show (40 : Int32) = i32 40 from rfl, isBetween_C (by omega)]
  simp only [Option.bind_some, Option.bind_none]
  cases hi' : inr N f with
  | false =>
    rw [if_pos (show i32 (bI (btw (dd N f) (-40) 40)) = 0 by rw [show btw (dd N f) (-40) 40 = false from hi']; rfl)]
    refine ⟨M, rfl, R3.rf, fun j hj => ?_, ?_⟩
    · rw [c1 j hj]
      show _ = i32 ((fb_ct (cl N j) (f + 1) : Nat) : Int)
      rw [fb_ct_succ, show cl N j f = false by unfold cl; rw [hi']; rfl]; rfl
    · rw [c2, fb_ct_succ, show lc N f = false by unfold lc; rw [hi']; rfl]; rfl
  | true =>
    have hd := btw_t hi'
    rw [if_neg (show ¬ i32 (bI (btw (dd N f) (-40) 40)) = 0 by rw [show btw (dd N f) (-40) 40 = true from hi']; decide)]
    have hix : ix N f = (2 * lo N f + hi N f) * 81 + 40 + dd N f := rfl
    have hr : 0 ≤ ix N f ∧ ix N f < 648 := by
      rcases g1 with ⟨l1, l2⟩ | ⟨l1, l2⟩ | ⟨l1, l2⟩ | ⟨l1, l2⟩ | ⟨l1, l2⟩ | ⟨l1, l2⟩ <;> (rw [l1, l2] at hix; omega)
    have htl := tl_le (N := N) f (ix N f)
    rw [show (2 : Int32) = i32 2 from rfl, show (81 : Int32) = i32 81 from rfl, i32_mul, i32_add, i32_mul, i32_add, i32_add, ← hix, rI_ok (by omega)]
    have hval : M.1 22 (ix N f).toNat = i32 ((tl N f (ix N f) : Nat) : Int) := by
      rw [c1 _ (by omega), show (((ix N f).toNat : Nat) : Int) = ix N f by omega]
    simp only [Option.bind_some, Option.bind_none]
    rw [hval, wI_ok (by omega), show (1 : Int32) = i32 1 from rfl, i32_add]
    unfold wF
    simp only [Option.bind_some, Option.bind_none]
    have e21 : (sI M 22 (ix N f).toNat (i32 (((tl N f (ix N f) : Nat) : Int) + 1))).1 21 2 = i32 ((fb_ct (lc N) f : Nat) : Int) := by rw [sI_ne (by decide)]; exact c2
    have row : ∀ x : Int32, ∀ j : Nat, j < 648 → (sI (sI M 22 (ix N f).toNat (i32 (((tl N f (ix N f) : Nat) : Int) + 1))) 21 2 x).1 22 j = i32 ((tl N (f + 1) (j : Int) : Nat) : Int) := fun x j hj => by
      rw [sI_ne (by decide)]
      show _ = i32 ((fb_ct (cl N j) (f + 1) : Nat) : Int)
      rw [fb_ct_succ]
      by_cases z : j = (ix N f).toNat
      · rw [z, sI_at, show (((ix N f).toNat : Nat) : Int) = ix N f by omega, show cl N (ix N f) f = true by unfold cl; rw [hi', decide_eq_true rfl]; rfl]
        rfl
      · rw [sI_nj z, c1 j hj, show cl N j f = false by unfold cl; rw [hi', decide_eq_false (by omega)]; rfl]
        rfl
    by_cases z : hi N f = 3
    · rw [if_pos (show i32 (hi N f) = 3 by rw [z]; rfl), e21, i32_add]
      refine ⟨_, rfl, (R3.w (by decide)).tr (R3.w (by decide)), row _, ?_⟩
      rw [sI_at, fb_ct_succ, show lc N f = true by unfold lc; rw [hi', decide_eq_true z]; rfl]; rfl
    · rw [if_neg (show ¬ i32 (hi N f) = 3 from fun q => z ((i32_inj (b := 3) (by omega)).mp q)), e21, show (0 : Int32) = i32 0 from rfl, i32_add]
      refine ⟨_, rfl, (R3.w (by decide)).tr (R3.w (by decide)), row _, ?_⟩
      rw [sI_at, fb_ct_succ, show lc N f = false by unfold lc; rw [hi', decide_eq_false z]; rfl]; rfl
theorem cf_L {N : Nt} (hN : okN N) : ∀ (d n f : Nat) (M : Mem), f + d = nF N → d < n → RNc 4 N M → CT N f M → ∃ M', fX0_countFacts_15L 4 n (i32 f) M = some M' ∧ R3 M M' ∧ CT N (nF N) M' := by
  have h20 := hN.1
  intro d
  induction d with
  | zero =>
    intro n f M h1 h2 hr hc
    obtain ⟨n, rfl⟩ : ∃ m, n = m + 1 := ⟨n - 1, by omega⟩
    obtain rfl : f = nF N := by omega
    refine ⟨M, ?_, R3.rf, hc⟩
    show fX0_countFacts_15B (fX0_countFacts_15L 4 n) 4 _ _ = _
    unfold fX0_countFacts_15B
    rw [hr.1, if_pos ((i32_le (by omega)).mpr (by omega))]
  | succ d ih =>
    intro n f M h1 h2 hr hc
    obtain ⟨n, rfl⟩ : ∃ m, n = m + 1 := ⟨n - 1, by omega⟩
    have hf : f < nF N := by omega
    obtain ⟨q1, q2, q3, q4, q5⟩ := fact_b hN hf
    obtain ⟨M1, k1, k2, k3⟩ := countFact_C hN hf hc
    obtain ⟨M', g1, g2, g3⟩ := ih n (f + 1) M1 (by omega) (by omega) (hr.r3 k2) k3
    refine ⟨M', ?_, k2.tr g2, g3⟩
    have E : ∀ k, k < 4 → fX1_ofFact 4 (i32 f) (i32 ((k : Nat) : Int)) M = some (i32 (nFd N f k)) := fun k hk => ofFact_C hN hr hf hk
    have E0 : fX1_ofFact 4 (i32 f) 0 M = some (i32 (fA N f)) := E 0 (by decide)
    have E1 : fX1_ofFact 4 (i32 f) 1 M = some (i32 (fU N f)) := E 1 (by decide)
    have E2 : fX1_ofFact 4 (i32 f) 2 M = some (i32 (fB N f)) := E 2 (by decide)
    have E3 : fX1_ofFact 4 (i32 f) 3 M = some (i32 (fV N f)) := E 3 (by decide)
    show fX0_countFacts_15B (fX0_countFacts_15L 4 n) 4 _ _ = _
    unfold fX0_countFacts_15B fX0_countFacts_80
    rw [hr.1, if_neg (fun z => absurd ((i32_le (by omega)).mp z) (by omega)), E0, E1, E2, E3]
    simp only [Option.bind_some, Option.bind_none]
    rw [imax_ok (by omega), imin_ok (by omega), i32_sub, i32_neg, show i32 (f : Int) + 1 = i32 ((f + 1 : Nat) : Int) by rw [show (1 : Int32) = i32 1 from rfl, i32_add]; rfl]
    by_cases z : fA N f < fB N f
    · rw [if_neg (fun q => absurd ((i32_le (by omega)).mp q) (by omega)), show fV N f - fU N f = dd N f by unfold dd; rw [if_pos z]]
      have : fX0_countFact (i32 (mn (fA N f) (fB N f))) (i32 (if fA N f < fB N f then fB N f else fA N f)) (i32 (dd N f)) M = some M1 := k1
      rw [this]
      exact g1
    · rw [if_pos ((i32_le (by omega)).mpr (by omega)), show -(fV N f - fU N f) = dd N f by unfold dd; rw [if_neg z]]
      have : fX0_countFact (i32 (mn (fA N f) (fB N f))) (i32 (if fA N f < fB N f then fB N f else fA N f)) (i32 (dd N f)) M = some M1 := k1
      rw [this]
      exact g1
/-- the search so far -/
def KS (N : Nt) (c : Nat) (M : Mem) : Prop := CT N (nF N) M ∧ M.1 21 3 = i32 (mst N c) ∧ (0 < c → M.1 23 1 = i32 (cc1 (bo N c)) ∧ M.1 23 2 = i32 (cc2 (bo N c)) ∧ M.1 23 3 = i32 (cc3 (bo N c)))
theorem tally_C {N : Nt} {M : Mem} (hc : CT N (nF N) M) {a b d : Int} (h : 0 ≤ J a b d ∧ J a b d < 648) : fX0_tally (i32 a) (i32 b) (i32 d) M = some (i32 ((tl N (nF N) (J a b d) : Nat) : Int)) := by
  unfold fX0_tally fX0_tallyOf
  simp only [Option.bind_some, Option.bind_none]
  rw [show (2 : Int32) = i32 2 from rfl, show (81 : Int32) = i32 81 from rfl, show (40 : Int32) = i32 40 from rfl, i32_mul, i32_add, i32_mul, i32_add, i32_add, show (2 * a + b) * 81 + 40 + d = J a b d from rfl, rI_ok (by omega), hc.1 _ (by omega), show (((J a b d).toNat : Nat) : Int) = J a b d by omega]
  rfl
theorem try_L {N : Nt} (hN : okN N) {p q : Nat} (hp : p < 41) (hq : q < 41) : ∀ (d n r : Nat) (M : Mem), r + d = 41 → d < n → RNc 4 N M → KS N (1681 * p + 41 * q + r) M → ∃ M', fX0_tryLastClock_4L n (i32 ((p : Int) - 20)) (i32 ((q : Int) - 20)) (i32 ((tl N (nF N) (J 0 1 ((p : Int) - 20)) + tl N (nF N) (J 0 2 ((q : Int) - 20)) + tl N (nF N) (J 1 2 (((q : Int) - 20) - ((p : Int) - 20))) : Nat) : Int)) (i32 ((r : Int) - 20)) M = some M' ∧ R3 M M' ∧ KS N (1681 * p + 41 * q + 41) M' := by
  have h20 := hN.1
  intro d
  induction d with
  | zero =>
    intro n r M h1 h2 hr hk
    obtain ⟨n, rfl⟩ : ∃ m, n = m + 1 := ⟨n - 1, by omega⟩
    obtain rfl : r = 41 := by omega
    refine ⟨M, ?_, R3.rf, hk⟩
    show fX0_tryLastClock_4B (fX0_tryLastClock_4L n) _ _ _ _ _ = _
    unfold fX0_tryLastClock_4B
    rw [if_pos (by decide)]
  | succ d ih =>
    intro n r M h1 h2 hr hk
    obtain ⟨n, rfl⟩ : ∃ m, n = m + 1 := ⟨n - 1, by omega⟩
    obtain ⟨hh, -⟩ := hd_at hN hp hq (show r < 41 by omega)
    obtain ⟨c1, c2, c3⟩ := code_d hp hq (show r < 41 by omega)
    obtain ⟨k1, k2, k3⟩ := id hk
    have hm := mst_b hN (1681 * p + 41 * q + r)
    have hh20 := hd_le hN (1681 * p + 41 * q + r)
    have e82 : ∀ Mx s, fX0_tryLastClock_82 (fX0_tryLastClock_4L n) (i32 ((p : Int) - 20)) (i32 ((q : Int) - 20)) s (i32 ((r : Int) - 20)) Mx = fX0_tryLastClock_4L n (i32 ((p : Int) - 20)) (i32 ((q : Int) - 20)) s (i32 (((r + 1 : Nat) : Int) - 20)) Mx := fun Mx s => by
      unfold fX0_tryLastClock_82
      rw [show (1 : Int32) = i32 1 from rfl, i32_add, show (r : Int) - 20 + 1 = ((r + 1 : Nat) : Int) - 20 by omega]
    have t1 : fX0_tally 0 3 (i32 ((r : Int) - 20)) M = _ := tally_C k1 (a := 0) (b := 3) (d := (r : Int) - 20) (by unfold J; omega)
    have t2 : fX0_tally 1 3 (i32 (((r : Int) - 20) - ((p : Int) - 20))) M = _ := tally_C k1 (a := 1) (b := 3) (d := ((r : Int) - 20) - ((p : Int) - 20)) (by unfold J; omega)
    have t3 : fX0_tally 2 3 (i32 (((r : Int) - 20) - ((q : Int) - 20))) M = _ := tally_C k1 (a := 2) (b := 3) (d := ((r : Int) - 20) - ((q : Int) - 20)) (by unfold J; omega)
    have e0 : fX0_tryLastClock_4L (n + 1) (i32 ((p : Int) - 20)) (i32 ((q : Int) - 20)) (i32 ((tl N (nF N) (J 0 1 ((p : Int) - 20)) + tl N (nF N) (J 0 2 ((q : Int) - 20)) + tl N (nF N) (J 1 2 (((q : Int) - 20) - ((p : Int) - 20))) : Nat) : Int)) (i32 ((r : Int) - 20)) M = if (hd N (1681 * p + 41 * q + r) : Int) ≤ mst N (1681 * p + 41 * q + r) then fX0_tryLastClock_4L n (i32 ((p : Int) - 20)) (i32 ((q : Int) - 20)) (i32 ((tl N (nF N) (J 0 1 ((p : Int) - 20)) + tl N (nF N) (J 0 2 ((q : Int) - 20)) + tl N (nF N) (J 1 2 (((q : Int) - 20) - ((p : Int) - 20))) : Nat) : Int)) (i32 (((r + 1 : Nat) : Int) - 20)) M else fX0_tryLastClock_4L n (i32 ((p : Int) - 20)) (i32 ((q : Int) - 20)) (i32 ((tl N (nF N) (J 0 1 ((p : Int) - 20)) + tl N (nF N) (J 0 2 ((q : Int) - 20)) + tl N (nF N) (J 1 2 (((q : Int) - 20) - ((p : Int) - 20))) : Nat) : Int)) (i32 (((r + 1 : Nat) : Int) - 20)) (sI (sI (sI (sI M 21 3 (i32 (hd N (1681 * p + 41 * q + r)))) 23 1 (i32 ((p : Int) - 20))) 23 2 (i32 ((q : Int) - 20))) 23 3 (i32 ((r : Int) - 20))) := by
      show fX0_tryLastClock_4B (fX0_tryLastClock_4L n) _ _ _ _ _ = _
      unfold fX0_tryLastClock_4B wF
      rw [show (20 : Int32) = i32 20 from rfl, if_neg (fun z => absurd ((i32_lt (by omega)).mp z) (by omega)), i32_sub, i32_sub, t1, t2, t3]
      simp only [Option.bind_some, Option.bind_none, e82]
      rw [i32_add, i32_add, i32_add, show ((tl N (nF N) (J 0 1 ((p : Int) - 20)) + tl N (nF N) (J 0 2 ((q : Int) - 20)) + tl N (nF N) (J 1 2 (((q : Int) - 20) - ((p : Int) - 20))) : Nat) : Int) + (tl N (nF N) (J 0 3 ((r : Int) - 20)) : Int) + (tl N (nF N) (J 1 3 (((r : Int) - 20) - ((p : Int) - 20))) : Int) + (tl N (nF N) (J 2 3 (((r : Int) - 20) - ((q : Int) - 20))) : Int) = (hd N (1681 * p + 41 * q + r) : Int) by rw [hh]; omega, k2]
      rw [show (1 : Int32) = i32 1 from rfl, show (2 : Int32) = i32 2 from rfl, show (3 : Int32) = i32 3 from rfl, wI_ok (by omega)]
      simp only [Option.bind_some, Option.bind_none]
      rw [wI_ok (by omega)]
      simp only [Option.bind_some, Option.bind_none]
      rw [wI_ok (by omega)]
      simp only [Option.bind_some, Option.bind_none]
      by_cases z : (hd N (1681 * p + 41 * q + r) : Int) ≤ mst N (1681 * p + 41 * q + r)
      · rw [if_pos z, if_pos ((i32_le (by omega)).mpr z)]
      · rw [if_neg z, if_neg (fun w => z ((i32_le (by omega)).mp w))]; rfl
    rw [e0]
    have hms : mst N (1681 * p + 41 * q + (r + 1)) = if mst N (1681 * p + 41 * q + r) < (hd N (1681 * p + 41 * q + r) : Int) then (hd N (1681 * p + 41 * q + r) : Int) else mst N (1681 * p + 41 * q + r) := rfl
    have hbs : bo N (1681 * p + 41 * q + (r + 1)) = if mst N (1681 * p + 41 * q + r) < (hd N (1681 * p + 41 * q + r) : Int) then 1681 * p + 41 * q + r else bo N (1681 * p + 41 * q + r) := rfl
    by_cases z : (hd N (1681 * p + 41 * q + r) : Int) ≤ mst N (1681 * p + 41 * q + r)
    · rw [if_pos z]
      refine ih n (r + 1) M (by omega) (by omega) hr ⟨k1, ?_, fun _ => ?_⟩
      · rw [hms, if_neg (by omega)]; exact k2
      · rw [hbs, if_neg (by omega)]
        refine k3 ?_
        by_cases y : 0 < 1681 * p + 41 * q + r
        · exact y
        · have y0 : 1681 * p + 41 * q + r = 0 := by omega
          rw [y0, show mst N 0 = -1 from rfl] at z
          omega
    · rw [if_neg z]
      have hR : R3 M (sI (sI (sI (sI M 21 3 (i32 (hd N (1681 * p + 41 * q + r)))) 23 1 (i32 ((p : Int) - 20))) 23 2 (i32 ((q : Int) - 20))) 23 3 (i32 ((r : Int) - 20))) := (((R3.w (by decide)).tr (R3.w (by decide))).tr (R3.w (by decide))).tr (R3.w (by decide))
      obtain ⟨M', g1, g2, g3⟩ := ih n (r + 1) _ (by omega) (by omega) (hr.r3 hR) ⟨⟨fun j hj => by rw [sI_ne (by decide), sI_ne (by decide), sI_ne (by decide), sI_ne (by decide)]; exact k1.1 j hj, by rw [sI_ne (by decide), sI_ne (by decide), sI_ne (by decide), sI_nj (by decide)]; exact k1.2⟩, by rw [sI_ne (by decide), sI_ne (by decide), sI_ne (by decide), sI_at, hms, if_pos (by omega)], fun _ => by
        rw [hbs, if_pos (by omega), c1, c2, c3]
        exact ⟨by rw [sI_nj (by decide), sI_nj (by decide), sI_at], by rw [sI_nj (by decide), sI_at], sI_at _ _ _ _⟩⟩
      exact ⟨M', g1, hR.tr g2, g3⟩
theorem two_L {N : Nt} (hN : okN N) {k13 : Int32 → Mem → Option Mem} {p : Nat} (hp : p < 41) : ∀ (d n q : Nat) (M : Mem), q + d = 41 → d < n → RNc 4 N M → KS N (1681 * p + 41 * q) M → ∃ M', fX0_putRight_22L k13 4 n (i32 ((p : Int) - 20)) (i32 ((q : Int) - 20)) M = k13 (i32 (((p + 1 : Nat) : Int) - 20)) M' ∧ R3 M M' ∧ KS N (1681 * (p + 1)) M' := by
  have h20 := hN.1
  intro d
  induction d with
  | zero =>
    intro n q M h1 h2 hr hk
    obtain ⟨n, rfl⟩ : ∃ m, n = m + 1 := ⟨n - 1, by omega⟩
    obtain rfl : q = 41 := by omega
    refine ⟨M, ?_, R3.rf, by rw [show 1681 * (p + 1) = 1681 * p + 41 * 41 by omega]; exact hk⟩
    show fX0_putRight_22B k13 (fX0_putRight_22L k13 4 n) 4 _ _ _ = _
    unfold fX0_putRight_22B
    rw [if_pos (by decide), show (1 : Int32) = i32 1 from rfl, i32_add, show (p : Int) - 20 + 1 = ((p + 1 : Nat) : Int) - 20 by omega]
  | succ d ih =>
    intro n q M h1 h2 hr hk
    obtain ⟨n, rfl⟩ : ∃ m, n = m + 1 := ⟨n - 1, by omega⟩
    obtain ⟨k1, k2, k3⟩ := id hk
    have hm := mst_b hN (1681 * p + 41 * q)
    have hct := fb_ct_le (lc N) (nF N)
    have y1 := tl_le (N := N) (nF N) (J 0 1 ((p : Int) - 20))
    have y2 := tl_le (N := N) (nF N) (J 0 2 ((q : Int) - 20))
    have y3 := tl_le (N := N) (nF N) (J 1 2 (((q : Int) - 20) - ((p : Int) - 20)))
    have e77 : ∀ Mx, fX0_putRight_77 k13 (fX0_putRight_22L k13 4 n) 4 (i32 ((p : Int) - 20)) (i32 ((q : Int) - 20)) Mx = fX0_putRight_22L k13 4 n (i32 ((p : Int) - 20)) (i32 (((q + 1 : Nat) : Int) - 20)) Mx := fun Mx => by
      unfold fX0_putRight_77
      rw [show (1 : Int32) = i32 1 from rfl, i32_add, show (q : Int) - 20 + 1 = ((q + 1 : Nat) : Int) - 20 by omega]
    have t1 : fX0_tally 0 1 (i32 ((p : Int) - 20)) M = _ := tally_C k1 (a := 0) (b := 1) (d := (p : Int) - 20) (by unfold J; omega)
    have t2 : fX0_tally 0 2 (i32 ((q : Int) - 20)) M = _ := tally_C k1 (a := 0) (b := 2) (d := (q : Int) - 20) (by unfold J; omega)
    have t3 : fX0_tally 1 2 (i32 (((q : Int) - 20) - ((p : Int) - 20))) M = _ := tally_C k1 (a := 1) (b := 2) (d := ((q : Int) - 20) - ((p : Int) - 20)) (by unfold J; omega)
    have e0 : fX0_putRight_22L k13 4 (n + 1) (i32 ((p : Int) - 20)) (i32 ((q : Int) - 20)) M = if ((tl N (nF N) (J 0 1 ((p : Int) - 20)) + tl N (nF N) (J 0 2 ((q : Int) - 20)) + tl N (nF N) (J 1 2 (((q : Int) - 20) - ((p : Int) - 20))) : Nat) : Int) + (fb_ct (lc N) (nF N) : Int) ≤ mst N (1681 * p + 41 * q) then fX0_putRight_22L k13 4 n (i32 ((p : Int) - 20)) (i32 (((q + 1 : Nat) : Int) - 20)) M else (fX0_tryLastClock (i32 ((p : Int) - 20)) (i32 ((q : Int) - 20)) (i32 ((tl N (nF N) (J 0 1 ((p : Int) - 20)) + tl N (nF N) (J 0 2 ((q : Int) - 20)) + tl N (nF N) (J 1 2 (((q : Int) - 20) - ((p : Int) - 20))) : Nat) : Int)) M).bind fun v4 => fX0_putRight_22L k13 4 n (i32 ((p : Int) - 20)) (i32 (((q + 1 : Nat) : Int) - 20)) v4 := by
      show fX0_putRight_22B k13 (fX0_putRight_22L k13 4 n) 4 _ _ _ = _
      unfold fX0_putRight_22B
      rw [show (20 : Int32) = i32 20 from rfl, if_neg (fun z => absurd ((i32_lt (by omega)).mp z) (by omega)), i32_sub, t1, t2, t3]
      simp only [Option.bind_some, Option.bind_none, e77]
      rw [i32_add, i32_add, show (tl N (nF N) (J 0 1 ((p : Int) - 20)) : Int) + (tl N (nF N) (J 0 2 ((q : Int) - 20)) : Int) + (tl N (nF N) (J 1 2 (((q : Int) - 20) - ((p : Int) - 20))) : Int) = ((tl N (nF N) (J 0 1 ((p : Int) - 20)) + tl N (nF N) (J 0 2 ((q : Int) - 20)) + tl N (nF N) (J 1 2 (((q : Int) - 20) - ((p : Int) - 20))) : Nat) : Int) by omega, k1.2, k2, i32_add]
      by_cases z : ((tl N (nF N) (J 0 1 ((p : Int) - 20)) + tl N (nF N) (J 0 2 ((q : Int) - 20)) + tl N (nF N) (J 1 2 (((q : Int) - 20) - ((p : Int) - 20))) : Nat) : Int) + (fb_ct (lc N) (nF N) : Int) ≤ mst N (1681 * p + 41 * q)
      · rw [if_pos z, if_pos ((i32_le (by omega)).mpr z)]
      · rw [if_neg z, if_neg (fun w => z ((i32_le (by omega)).mp w))]
    rw [e0]
    by_cases z : ((tl N (nF N) (J 0 1 ((p : Int) - 20)) + tl N (nF N) (J 0 2 ((q : Int) - 20)) + tl N (nF N) (J 1 2 (((q : Int) - 20) - ((p : Int) - 20))) : Nat) : Int) + (fb_ct (lc N) (nF N) : Int) ≤ mst N (1681 * p + 41 * q)
    · rw [if_pos z]
      obtain ⟨s1, s2⟩ := mst_skip (N := N) (c := 1681 * p + 41 * q) (k := 41) (fun r hr => by
        obtain ⟨x1, x2⟩ := hd_at hN hp (show q < 41 by omega) hr
        omega)
      refine ih n (q + 1) M (by omega) (by omega) hr ⟨k1, ?_, fun _ => ?_⟩
      · rw [show 1681 * p + 41 * (q + 1) = 1681 * p + 41 * q + 41 by omega, s1]; exact k2
      · rw [show 1681 * p + 41 * (q + 1) = 1681 * p + 41 * q + 41 by omega, s2]
        refine k3 ?_
        by_cases y : 0 < 1681 * p + 41 * q
        · exact y
        · have y0 : 1681 * p + 41 * q = 0 := by omega
          rw [y0, show mst N 0 = -1 from rfl] at z
          omega
    · rw [if_neg z]
      obtain ⟨M1, j1, j2, j3⟩ := try_L hN hp (show q < 41 by omega) 41 FU 0 M (by omega) (by unfold FU; omega) hr hk
      obtain ⟨M', g1, g2, g3⟩ := ih n (q + 1) M1 (by omega) (by omega) (hr.r3 j2) (by rw [show 1681 * p + 41 * (q + 1) = 1681 * p + 41 * q + 41 by omega]; exact j3)
      refine ⟨M', ?_, j2.tr g2, g3⟩
      have j1' : fX0_tryLastClock (i32 ((p : Int) - 20)) (i32 ((q : Int) - 20)) (i32 ((tl N (nF N) (J 0 1 ((p : Int) - 20)) + tl N (nF N) (J 0 2 ((q : Int) - 20)) + tl N (nF N) (J 1 2 (((q : Int) - 20) - ((p : Int) - 20))) : Nat) : Int)) M = some M1 := j1
      rw [j1']
      exact g1
theorem one_L {N : Nt} (hN : okN N) : ∀ (d n p : Nat) (M : Mem), p + d = 41 → d < n → RNc 4 N M → KS N (1681 * p) M → ∃ M', fX0_putRight_13L 4 n (i32 ((p : Int) - 20)) M = some M' ∧ R3 M M' ∧ M'.1 21 4 = i32 ((nF N : Int) - mst N 68921) ∧ M'.1 23 1 = i32 (cc1 (bo N 68921)) ∧ M'.1 23 2 = i32 (cc2 (bo N 68921)) ∧ M'.1 23 3 = i32 (cc3 (bo N 68921)) := by
  intro d
  induction d with
  | zero =>
    intro n p M h1 h2 hr hk
    obtain ⟨n, rfl⟩ : ∃ m, n = m + 1 := ⟨n - 1, by omega⟩
    obtain rfl : p = 41 := by omega
    obtain ⟨k1, k2, k3⟩ := hk
    have k3 := k3 (by decide)
    refine ⟨sI M 21 4 (i32 (nF N) - i32 (mst N (1681 * 41))), ?_, R3.w (by decide), by rw [sI_at, i32_sub], by rw [sI_ne (by decide)]; exact k3.1, by rw [sI_ne (by decide)]; exact k3.2.1, by rw [sI_ne (by decide)]; exact k3.2.2⟩
    show fX0_putRight_13B (fX0_putRight_13L 4 n) 4 _ _ = _
    unfold fX0_putRight_13B wF
    rw [if_pos (by decide), hr.1, k2]
    rfl
  | succ d ih =>
    intro n p M h1 h2 hr hk
    obtain ⟨n, rfl⟩ : ∃ m, n = m + 1 := ⟨n - 1, by omega⟩
    obtain ⟨M1, j1, j2, j3⟩ := two_L hN (k13 := fX0_putRight_13L 4 n) (p := p) (by omega) 41 FU 0 M (by omega) (by unfold FU; omega) hr hk
    obtain ⟨M', g1, g2, g3⟩ := ih n (p + 1) M1 (by omega) (by omega) (hr.r3 j2) j3
    refine ⟨M', ?_, j2.tr g2, g3⟩
    have j1' : fX0_putRight_22L (fX0_putRight_13L 4 n) 4 FU (i32 ((p : Int) - 20)) (-20) M = _ := j1
    show fX0_putRight_13B (fX0_putRight_13L 4 n) 4 _ _ = _
    unfold fX0_putRight_13B
    rw [show (20 : Int32) = i32 20 from rfl, if_neg (fun z => absurd ((i32_lt (by omega)).mp z) (by omega)), show -i32 20 = (-20 : Int32) from rfl, j1']
    exact g1
theorem cFacts_C {N : Nt} (hN : okN N) {M : Mem} (hr : RNc 4 N M) : ∃ M', fX0_countFacts 4 M = some M' ∧ R3 M M' ∧ CT N (nF N) M' := by
  have h20 := hN.1
  have hR0 : R3 M (sI (sW M 22 (fun j => if j < 648 then 0 else M.1 22 j)) 21 2 0) := ⟨rfl, fun a q1 q2 q3 => by rw [sI_ne q1, sW_ne q2]⟩
  have hct0 : CT N 0 (sI (sW M 22 (fun j => if j < 648 then 0 else M.1 22 j)) 21 2 0) := ⟨fun j hj => by rw [sI_ne (by decide), sW_k, if_pos hj]; rfl, by rw [sI_at]; rfl⟩
  obtain ⟨M1, k1, k2, k3⟩ := cf_L hN (nF N) FU 0 (sI (sW M 22 (fun j => if j < 648 then 0 else M.1 22 j)) 21 2 0) (by omega) (by unfold FU; omega) (hr.r3 hR0) hct0
  refine ⟨M1, ?_, hR0.tr k2, k3⟩
  rw [show i32 ((0 : Nat) : Int) = (0 : Int32) from rfl] at k1
  unfold fX0_countFacts wF
  rw [fill_C (by decide)]
  simp only [Option.bind_some, Option.bind_none]
  rw [k1]
theorem ks_0 {N : Nt} {M : Mem} (h : CT N (nF N) M) : KS N 0 (sI M 21 3 (-1)) := ⟨⟨fun j hj => by rw [sI_ne (by decide)]; exact h.1 j hj, by rw [sI_nj (by decide)]; exact h.2⟩, by rw [sI_at]; rfl, fun h => absurd h (by decide)⟩
theorem putRight_C {N : Nt} (hN : okN N) {M : Mem} (hr : RNc 4 N M) : ∃ M', fX0_putRight 4 M = some M' ∧ R3 M M' ∧ M'.1 21 4 = i32 ((nF N : Int) - mst N 68921) ∧ M'.1 23 1 = i32 (cc1 (bo N 68921)) ∧ M'.1 23 2 = i32 (cc2 (bo N 68921)) ∧ M'.1 23 3 = i32 (cc3 (bo N 68921)) := by
  obtain ⟨M1, k1, k2, k3⟩ := cFacts_C hN hr
  have hR1 : R3 M1 (sI M1 21 3 (-1)) := R3.w (by decide)
  obtain ⟨M', g1, g2, g3⟩ := one_L hN 41 FU 0 (sI M1 21 3 (-1)) (by omega) (by unfold FU; omega) ((hr.r3 k2).r3 hR1) (by rw [Nat.mul_zero]; exact ks_0 k3)
  rw [show i32 (((0 : Nat) : Int) - 20) = (-20 : Int32) from rfl] at g1
  refine ⟨M', ?_, (k2.tr hR1).tr g2, g3⟩
  have e : fX0_putRight 4 M = (fX0_countFacts 4 M).bind fun v1 => (wF v1 21 3 (-1)).bind fun M2 => fX0_putRight_13L 4 FU (-20) M2 := rfl
  rw [e, k1, Option.bind_some, show wF M1 21 3 (-1) = some (sI M1 21 3 (-1)) from rfl, Option.bind_some]
  exact g1

/-! right: the model, the call. -/
def Of (a b c : Int) (M : Mem) : Prop := M.1 63 0 = 0 ∧ M.1 63 1 = i32 a ∧ M.1 63 2 = i32 b ∧ M.1 63 3 = i32 c
theorem of_at {a b c : Int} {M : Mem} (h : Of a b c M) {k : Int} (hk : 0 ≤ k ∧ k ≤ 3) : rI M 63 4 (i32 k) = some (i32 (oo a b c k)) := by
  obtain ⟨h0, h1, h2, h3⟩ := h
  rw [rI_ok (by omega)]
  obtain rfl | rfl | rfl | rfl : k = 0 ∨ k = 1 ∨ k = 2 ∨ k = 3 := by omega
  · exact congrArg some h0
  · exact congrArg some h1
  · exact congrArg some h2
  · exact congrArg some h3
theorem held_L {N : Nt} (hN : okN N) {M : Mem} (hr : RNm 0 N M) {a b c : Int} (ha : -20 ≤ a ∧ a ≤ 20) (hb : -20 ≤ b ∧ b ≤ 20) (hc : -20 ≤ c ∧ c ≤ 20) (ho : Of a b c M) : ∀ (d n f : Nat), f + d = nF N → d < n → fX5_heldNow_4L M n (i32 ((fb_ct (hold N a b c) f : Nat) : Int)) (i32 f) = some (i32 ((fb_ct (hold N a b c) (nF N) : Nat) : Int)) := by
  have h20 := hN.1
  have r51 : rI M 51 3 0 = some (i32 (nF N)) := by
    rw [show (0 : Int32) = i32 ((0 : Nat) : Int) from rfl, rI_ok (by omega), show (((0 : Nat) : Int)).toNat = 0 from rfl, hr.1]
  have ob : ∀ k, -20 ≤ oo a b c k ∧ oo a b c k ≤ 20 := fun k => by
    unfold oo
    by_cases k0 : k = 0
    · rw [if_pos k0]; omega
    · rw [if_neg k0]
      by_cases k1 : k = 1
      · rw [if_pos k1]; omega
      · rw [if_neg k1]
        by_cases k2 : k = 2
        · rw [if_pos k2]; omega
        · rw [if_neg k2]; omega
  intro d
  induction d with
  | zero =>
    intro n f h1 h2
    obtain ⟨n, rfl⟩ : ∃ m, n = m + 1 := ⟨n - 1, by omega⟩
    obtain rfl : f = nF N := by omega
    show fX5_heldNow_4B (fX5_heldNow_4L M n) _ _ _ = _
    unfold fX5_heldNow_4B
    rw [r51]
    simp only [Option.bind_some, Option.bind_none]
    rw [if_pos ((i32_le (by omega)).mpr (by omega))]
  | succ d ih =>
    intro n f h1 h2
    obtain ⟨n, rfl⟩ : ∃ m, n = m + 1 := ⟨n - 1, by omega⟩
    have hf : f < nF N := by omega
    obtain ⟨q1, q2, q3, q4, q5⟩ := fact_b hN hf
    have E : ∀ k, k < 4 → rI M (52 + k) 60 (i32 f) = some (i32 (nFd N f k)) := fun k hk => by
      have := hr.2.2.1 f k hf hk
      rw [Nat.mul_zero, Nat.zero_add] at this
      rw [rI_ok (by omega), show ((f : Int)).toNat = f by omega, this]
    have E0 : rI M 52 60 (i32 f) = some (i32 (fA N f)) := E 0 (by decide)
    have E1 : rI M 53 60 (i32 f) = some (i32 (fU N f)) := E 1 (by decide)
    have E2 : rI M 54 60 (i32 f) = some (i32 (fB N f)) := E 2 (by decide)
    have E3 : rI M 55 60 (i32 f) = some (i32 (fV N f)) := E 3 (by decide)
    have iht := ih n (f + 1) (by omega) (by omega)
    rw [fb_ct_succ] at iht
    have ob1 := ob (fB N f)
    have ob2 := ob (fA N f)
    show fX5_heldNow_4B (fX5_heldNow_4L M n) _ _ _ = _
    unfold fX5_heldNow_4B fX5_heldNow_59
    rw [r51]
    simp only [Option.bind_some, Option.bind_none]
    rw [if_neg (fun z => absurd ((i32_le (by omega)).mp z) (by omega)), E0, E1, E2, E3]
    simp only [Option.bind_some, Option.bind_none]
    rw [of_at ho q3, of_at ho q1]
    simp only [Option.bind_some, Option.bind_none]
    rw [i32_sub, i32_sub, show i32 (f : Int) + 1 = i32 ((f + 1 : Nat) : Int) by rw [show (1 : Int32) = i32 1 from rfl, i32_add]; rfl]
    by_cases z : fV N f - fU N f = oo a b c (fB N f) - oo a b c (fA N f)
    · rw [if_pos (by rw [z]), show (1 : Int32) = i32 1 from rfl, i32_add]
      rw [show hold N a b c f = true from decide_eq_true z, if_pos rfl] at iht
      exact iht
    · rw [if_neg (fun w => z ((i32_inj (by omega)).mp w)), show (0 : Int32) = i32 0 from rfl, i32_add, Int.add_zero]
      rw [show hold N a b c f = false from decide_eq_false z, if_neg (by decide), Nat.add_zero] at iht
      exact iht
def MS (N : Nt) (c : Nat) (M : Mem) : Prop := M.1 63 0 = 0 ∧ (0 < c → M.1 64 1 = i32 (cc1 (bo N c)) ∧ M.1 64 2 = i32 (cc2 (bo N c)) ∧ M.1 64 3 = i32 (cc3 (bo N c)))
theorem Vm.r63 {M : Mem} {m : Nat} {x : Int32} (h : 0 < m) : Vm M (sI M 63 m x) := ⟨rfl, fun a _ h63 _ _ _ _ => sI_ne h63, fun j _ _ => by rw [sI_ne (by decide)], by rw [sI_nj (by omega), sI_ne (by decide)]⟩
theorem Vm.r64 {M : Mem} {m : Nat} {x : Int32} : Vm M (sI M 64 m x) := Vm.w (by decide)
theorem cpy_L {k16 : Int32 → Int32 → Int32 → Mem → Option (Int32 × Mem)} {x1 x2 x3 : Int32} {M : Mem} : fX5_right_83L k16 FU x1 x2 x3 1 M = k16 x1 x2 (x3 + 1) (sI (sI (sI M 64 1 (M.1 63 1)) 64 2 (M.1 63 2)) 64 3 (M.1 63 3)) := by
  have st : ∀ (n k : Nat) (Mx : Mem), k < 4 → fX5_right_83L k16 (n + 1) x1 x2 x3 (i32 k) Mx = fX5_right_83L k16 n x1 x2 x3 (i32 ((k + 1 : Nat) : Int)) (sI Mx 64 k (Mx.1 63 k)) := by
    intro n k Mx hk
    show fX5_right_83B k16 (fX5_right_83L k16 n) _ _ _ _ _ = _
    unfold fX5_right_83B
    rw [show (4 : Int32) = i32 4 from rfl, if_neg (fun z => absurd ((i32_le (by omega)).mp z) (by omega)), rI_ok (by omega), show ((k : Int)).toNat = k by omega]
    simp only [Option.bind_some, Option.bind_none]
    rw [wI_ok (by omega), show ((k : Int)).toNat = k by omega]
    simp only [Option.bind_some, Option.bind_none]
    rw [show (1 : Int32) = i32 1 from rfl, i32_add]
    rfl
  have fin : ∀ (n : Nat) (Mx : Mem), fX5_right_83L k16 (n + 1) x1 x2 x3 (i32 ((4 : Nat) : Int)) Mx = k16 x1 x2 (x3 + 1) Mx := by
    intro n Mx
    show fX5_right_83B k16 (fX5_right_83L k16 n) _ _ _ _ _ = _
    unfold fX5_right_83B
    rw [if_pos (by decide)]
    rfl
  have hFU : FU = 99996 + 1 + 1 + 1 + 1 := rfl
  rw [hFU, show (1 : Int32) = i32 ((1 : Nat) : Int) from rfl, st _ 1 M (by decide), st _ 2 _ (by decide), st _ 3 _ (by decide), fin]
  rw [sI_ne (by decide), sI_ne (by decide), sI_ne (by decide)]
  rfl
theorem oo_1 (a b c : Int) : oo a b c 1 = a := rfl
theorem oo_2 (a b c : Int) : oo a b c 2 = b := rfl
theorem oo_3 (a b c : Int) : oo a b c 3 = c := rfl
theorem right_L {N : Nt} (hN : okN N) {K : Nat} (hK : K = 68921) {x1 : Int} (hx : 0 ≤ x1 ∧ x1 ≤ 3) : ∀ (d n c : Nat) (M : Mem), c + d = K → d < n → RNm 0 N M → MS N c M → ∃ M', fX5_right_16L n (i32 x1) (i32 (mst N c)) (i32 c) M = some (if x1 = 0 then i32 ((nF N : Int) - mst N K) else i32 (oo (cc1 (bo N K)) (cc2 (bo N K)) (cc3 (bo N K)) x1), M') ∧ Vm M M' := by
  intro d
  induction d with
  | zero =>
    intro n c M h1 h2 hr hm
    obtain ⟨n, rfl⟩ : ∃ m, n = m + 1 := ⟨n - 1, by omega⟩
    have hc : c = K := by omega
    subst hc
    refine ⟨M, ?_, Vm.rf⟩
    have hm2 := hm.2 (by omega)
    show fX5_right_16B (fX5_right_16L n) _ _ _ _ = _
    unfold fX5_right_16B
    rw [show (68921 : Int32) = i32 68921 from rfl, if_pos ((i32_le (by omega)).mpr (by omega))]
    by_cases z : x1 = 0
    · rw [if_pos z, if_pos (show i32 x1 = 0 by rw [z]; rfl), show (0 : Int32) = i32 ((0 : Nat) : Int) from rfl, rI_ok (by omega), show (((0 : Nat) : Int)).toNat = 0 from rfl, hr.1]
      simp only [Option.bind_some, Option.bind_none]
      rw [i32_sub]
    · rw [if_neg z, if_neg (show ¬ i32 x1 = 0 from fun w => z ((i32_inj (b := 0) (by omega)).mp w)), rI_ok (by omega)]
      obtain rfl | rfl | rfl : x1 = 1 ∨ x1 = 2 ∨ x1 = 3 := by omega
      · rw [show (1 : Int).toNat = 1 from rfl, hm2.1, oo_1, Option.bind_some]
      · rw [show (2 : Int).toNat = 2 from rfl, hm2.2.1, oo_2, Option.bind_some]
      · rw [show (3 : Int).toNat = 3 from rfl, hm2.2.2, oo_3, Option.bind_some]
  | succ d ih =>
    intro n c M h1 h2 hr hm
    obtain ⟨n, rfl⟩ : ∃ m, n = m + 1 := ⟨n - 1, by omega⟩
    have hmb := mst_b hN c
    have hhd := hd_le hN c
    have d1 : i32 (c : Int) / 1681 = i32 ((c / 1681 : Nat) : Int) := by
      rw [show (1681 : Int32) = i32 1681 from rfl, i32_div (by omega), Int.tdiv_eq_ediv_of_nonneg (by omega)]; rfl
    have d2 : i32 (c : Int) / 41 = i32 ((c / 41 : Nat) : Int) := by
      rw [show (41 : Int32) = i32 41 from rfl, i32_div (by omega), Int.tdiv_eq_ediv_of_nonneg (by omega)]; rfl
    have d3 : i32 ((c / 41 : Nat) : Int) / 41 = i32 ((c / 41 / 41 : Nat) : Int) := by
      rw [show (41 : Int32) = i32 41 from rfl, i32_div (by omega), Int.tdiv_eq_ediv_of_nonneg (by omega)]; rfl
    have M5 : ∃ M5, M5 = sI (sI (sI M 63 1 (i32 (cc1 c))) 63 2 (i32 (cc2 c))) 63 3 (i32 (cc3 c)) := ⟨_, rfl⟩
    obtain ⟨M5, hM5⟩ := M5
    have hv5 : Vm M M5 := by rw [hM5]; exact ((Vm.r63 (by decide)).tr (Vm.r63 (by decide))).tr (Vm.r63 (by decide))
    have hof : Of (cc1 c) (cc2 c) (cc3 c) M5 := by
      rw [hM5]
      exact ⟨by rw [sI_nj (by decide), sI_nj (by decide), sI_nj (by decide)]; exact hm.1, by rw [sI_nj (by decide), sI_nj (by decide), sI_at], by rw [sI_nj (by decide), sI_at], sI_at _ _ _ _⟩
    have hb : (-20 ≤ cc1 c ∧ cc1 c ≤ 20) ∧ (-20 ≤ cc2 c ∧ cc2 c ≤ 20) ∧ (-20 ≤ cc3 c ∧ cc3 c ≤ 20) := by unfold cc1 cc2 cc3; omega
    have hheld := held_L hN (hr.vm hv5) hb.1 hb.2.1 hb.2.2 hof (nF N) FU 0 (by omega) (by have := hN.1; unfold FU; omega)
    rw [show fb_ct (hold N (cc1 c) (cc2 c) (cc3 c)) 0 = 0 from rfl, show i32 ((0 : Nat) : Int) = (0 : Int32) from rfl, show fb_ct (hold N (cc1 c) (cc2 c) (cc3 c)) (nF N) = hd N c from rfl] at hheld
    have e0 : fX5_right_16L (n + 1) (i32 x1) (i32 (mst N c)) (i32 c) M = if (hd N c : Int) ≤ mst N c then fX5_right_16L n (i32 x1) (i32 (mst N c)) (i32 ((c + 1 : Nat) : Int)) M5 else fX5_right_83L (fX5_right_16L n) FU (i32 x1) (i32 (hd N c)) (i32 c) 1 M5 := by
      show fX5_right_16B (fX5_right_16L n) _ _ _ _ = _
      unfold fX5_right_16B fX5_right_109
      rw [show (68921 : Int32) = i32 68921 from rfl, if_neg (fun z => absurd ((i32_le (by omega)).mp z) (by omega)), d1, d2, d3, show (20 : Int32) = i32 20 from rfl, show (41 : Int32) = i32 41 from rfl, i32_sub, i32_mul, i32_mul, i32_sub, i32_sub, i32_sub, i32_sub]
      rw [show ((c / 1681 : Nat) : Int) - 20 = cc1 c from rfl, show ((c / 41 : Nat) : Int) - ((c / 41 / 41 : Nat) : Int) * 41 - 20 = cc2 c by unfold cc2; omega, show (c : Int) - ((c / 41 : Nat) : Int) * 41 - 20 = cc3 c by unfold cc3; omega]
      rw [show (1 : Int32) = i32 ((1 : Nat) : Int) from rfl, show (2 : Int32) = i32 ((2 : Nat) : Int) from rfl, show (3 : Int32) = i32 ((3 : Nat) : Int) from rfl, wI_ok (by omega)]
      simp only [Option.bind_some, Option.bind_none]
      rw [wI_ok (by omega)]
      simp only [Option.bind_some, Option.bind_none]
      rw [wI_ok (by omega)]
      simp only [Option.bind_some, Option.bind_none]
      rw [show (((1 : Nat) : Int)).toNat = 1 from rfl, show (((2 : Nat) : Int)).toNat = 2 from rfl, show (((3 : Nat) : Int)).toNat = 3 from rfl, ← hM5]
      unfold fX5_heldNow
      rw [hheld]
      simp only [Option.bind_some, Option.bind_none]
      by_cases z : (hd N c : Int) ≤ mst N c
      · rw [if_pos z, if_pos ((i32_le (by omega)).mpr z), i32_add]; rfl
      · rw [if_neg z, if_neg (fun w => z ((i32_le (by omega)).mp w))]
    have hms : mst N (c + 1) = if mst N c < (hd N c : Int) then (hd N c : Int) else mst N c := rfl
    have hbs : bo N (c + 1) = if mst N c < (hd N c : Int) then c else bo N c := rfl
    rw [e0]
    have h64 : ∀ j, M5.1 64 j = M.1 64 j := fun j => by rw [hM5, sI_ne (by decide), sI_ne (by decide), sI_ne (by decide)]
    by_cases z : (hd N c : Int) ≤ mst N c
    · rw [if_pos z]
      obtain ⟨M', g1, g2⟩ := ih n (c + 1) M5 (by omega) (by omega) (hr.vm hv5) ⟨hof.1, fun _ => by
        rw [hbs, if_neg (by omega), h64, h64, h64]
        refine hm.2 ?_
        by_cases y : 0 < c
        · exact y
        · have y0 : c = 0 := by omega
          rw [y0, show mst N 0 = -1 from rfl] at z
          omega⟩
      rw [hms, if_neg (by omega)] at g1
      exact ⟨M', g1, hv5.tr g2⟩
    · rw [if_neg z, cpy_L]
      have hv6 : Vm M5 (sI (sI (sI M5 64 1 (M5.1 63 1)) 64 2 (M5.1 63 2)) 64 3 (M5.1 63 3)) := (Vm.r64.tr Vm.r64).tr Vm.r64
      obtain ⟨M', g1, g2⟩ := ih n (c + 1) (sI (sI (sI M5 64 1 (M5.1 63 1)) 64 2 (M5.1 63 2)) 64 3 (M5.1 63 3)) (by omega) (by omega) ((hr.vm hv5).vm hv6) ⟨by rw [sI_ne (by decide), sI_ne (by decide), sI_ne (by decide)]; exact hof.1, fun _ => by
        rw [hbs, if_pos (by omega)]
        exact ⟨by rw [sI_nj (by decide), sI_nj (by decide), sI_at]; exact hof.2.1, by rw [sI_nj (by decide), sI_at]; exact hof.2.2.1, by rw [sI_at]; exact hof.2.2.2⟩⟩
      rw [hms, if_pos (by omega)] at g1
      refine ⟨M', ?_, (hv5.tr hv6).tr g2⟩
      rw [show (1 : Int32) = i32 1 from rfl, i32_add]
      exact g1
theorem o_right {M : Mem} (h : Inv M) (x : Int32) : ∃ v M1 M2, fX4_right x M = some (v, M1) ∧ fX5_right x M1 = some (v, M2) ∧ Inv M2 := by
  obtain ⟨b, sp, S, N, K0, K1, N0, N1, L, h⟩ := h
  obtain ⟨a1, i1, c1, d1, ⟨p1, p2, p3⟩, f1, g1, h1, j1, k1⟩ := id h
  have hb := sc_b a1.1
  obtain ⟨x, hx, rfl⟩ := i32_ex x
  cases q : btw x 0 3 with
  | false =>
    refine ⟨i32 (-1000000), M, M, ?_, ?_, _, _, _, _, _, _, _, _, _, h⟩
    · unfold fX4_right
      simp only [L0, L1, L2, L3, L4, L5, L6, L7, L8, L9, L10, L11, L12, L13, L15, L16, L20, L24, L31, L32, L40, L41, L48, L50, L57, L59, L63, L80, L81, L96, L97, L99, L100, L122, L144, L199, L255, L400, L1681, L68921, L1000000]
      rw [isBetween_C (by omega), q]
      rfl
    · unfold fX5_right
      simp only [L0, L1, L2, L3, L4, L5, L6, L7, L8, L9, L10, L11, L12, L13, L15, L16, L20, L24, L31, L32, L40, L41, L48, L50, L57, L59, L63, L80, L81, L96, L97, L99, L100, L122, L144, L199, L255, L400, L1681, L68921, L1000000]
      rw [in_M (by omega), q]
      rfl
  | true =>
    have hx3 := btw_t q
    obtain ⟨M1, t1, t2, t3, t4, t5, t6⟩ := putRight_C p1 p2
    obtain ⟨K, hK⟩ : ∃ K : Nat, K = 68921 := ⟨_, rfl⟩
    rw [← hK] at t3 t4 t5 t6
    have hq : QC b M M1 := ⟨by rw [t2.1], fun a _ => by rw [t2.1], fun a _ _ _ _ _ z1 z2 z3 => t2.2 a z1 z2 z3, fun j _ => by rw [t2.2 b (by omega) (by omega) (by omega)]⟩
    have hcc : Cached b S M1 := i1.2.2.2.1.mv (by rw [t2.2 b (by omega) (by omega) (by omega)]) (t2.2 _ (by omega) (by omega) (by omega)) (t2.2 _ (by omega) (by omega) (by omega))
    have hm1 : RNm 0 N M1 := p3.mv (fun a h1 h2 => t2.2 a (by omega) (by omega) (by omega))
    have hms : MS N 0 M1 := ⟨by rw [t2.2 63 (by decide) (by decide) (by decide)]; exact congrArg Prod.snd k1, fun h => absurd h (by decide)⟩
    obtain ⟨M2, u1, u2⟩ := right_L p1 hK hx3 K FU 0 M1 (by omega) (by unfold FU; omega) hm1 hms
    rw [show mst N 0 = -1 from rfl, show i32 (-1) = (-1 : Int32) from rfl, show i32 ((0 : Nat) : Int) = (0 : Int32) from rfl] at u1
    refine ⟨if x = 0 then i32 ((nF N : Int) - mst N K) else i32 (oo (cc1 (bo N K)) (cc2 (bo N K)) (cc3 (bo N K)) x), M1, M2, ?_, ?_, b, sp, S, N, K0, K1, N0, N1, L, h.q hq hcc u2⟩
    · unfold fX4_right
      rw [show (0 : Int32) = i32 0 from rfl, show (3 : Int32) = i32 3 from rfl, isBetween_C (by omega), q]
      simp only [Option.bind_some, Option.bind_none, ite_bI]
      rw [if_pos trivial, t1]
      simp only [Option.bind_some, Option.bind_none]
      by_cases z : x = 0
      · rw [if_pos z, if_pos (by rw [z]), t3]
      · rw [if_neg z, if_neg (fun w => z ((i32_inj (by omega)).mp w)), rI_ok (by omega)]
        obtain rfl | rfl | rfl : x = 1 ∨ x = 2 ∨ x = 3 := by omega
        · rw [show (1 : Int).toNat = 1 from rfl, t4, oo_1, Option.bind_some]
        · rw [show (2 : Int).toNat = 2 from rfl, t5, oo_2, Option.bind_some]
        · rw [show (3 : Int).toNat = 3 from rfl, t6, oo_3, Option.bind_some]
    · unfold fX5_right
      rw [show fX5_in (i32 x) 0 3 = some (i32 (bI (btw x 0 3))) from in_M (l := 0) (h := 3) (by omega), q, Option.bind_some, if_neg (by decide)]
      exact u1

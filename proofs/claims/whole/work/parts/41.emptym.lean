/-! empty: the model. -/
def Vk (M M' : Mem) : Prop := M'.2 = M.2 ∧ (∀ a, a ≠ 42 → M'.1 a = M.1 a) ∧ ∀ j, (j < 15 ∨ 18 < j) → M'.1 42 j = M.1 42 j
theorem Vk.rf {M : Mem} : Vk M M := ⟨rfl, fun _ _ => rfl, fun _ _ => rfl⟩
theorem Vk.tr {M M1 M2 : Mem} (h : Vk M M1) (k : Vk M1 M2) : Vk M M2 := ⟨k.1.trans h.1, fun a q => (k.2.1 a q).trans (h.2.1 a q), fun j q => (k.2.2 j q).trans (h.2.2 j q)⟩
theorem Vk.f {M : Mem} {j : Nat} {x : Int32} (h : 15 ≤ j ∧ j ≤ 18) : Vk M (sI M 42 j x) := ⟨rfl, fun a q => sI_ne q, fun j' q => sI_nj (by omega)⟩
theorem Vk.vm {M M' : Mem} (h : Vk M M') : Vm M M' := ⟨h.1, fun a q _ _ _ _ _ => h.2.1 a q, fun j q _ => h.2.2 j (by omega), by rw [h.2.1 65 (by decide), h.2.1 63 (by decide)]⟩
theorem lookAs_K {S : Sc} {M : Mem} (hS : okS S) (hR : RM S M) {i : Nat} (hi : i < cI S) (t : Int) : ∃ M', fX5_lookAs (i32 i) (i32 t) M = some M' ∧ Lk (cQd S i 0) (cQd S i 1) (cQd S i 2) t M' ∧ Vk M M' ∧ RM S M' := by
  have hv : Vk M (sI (sI (sI (sI M 42 15 (i32 (cQd S i 0))) 42 16 (i32 (cQd S i 1))) 42 17 (i32 (cQd S i 2))) 42 18 (i32 t)) := (((Vk.f (by decide)).tr (Vk.f (by decide))).tr (Vk.f (by decide))).tr (Vk.f (by decide))
  refine ⟨_, ?_, ⟨?_, ?_, ?_, ?_⟩, hv, hR.vm hv.vm⟩
  · unfold fX5_lookAs
    simp only [L0, L1, L2, L3, L4, L5, L6, L7, L8, L9, L10, L11, L12, L13, L15, L16, L20, L24, L31, L32, L40, L41, L48, L50, L57, L59, L63, L80, L81, L96, L97, L99, L100, L122, L144, L199, L255, L400, L1681, L68921, L1000000, i32_add, i32_sub, i32_mul, i32_neg, Option.bind_some, Option.bind_none]
    have E1 := qd_M hS hR hi 1 (by decide)
    have E2 := qd_M hS hR hi 2 (by decide)
    rw [show ((1 : Nat) : Int) = 1 from rfl] at E1
    rw [show ((2 : Nat) : Int) = 2 from rfl] at E2
    rw [qd_M0 hS hR hi, E1, E2]
    rfl
  · rw [sI_nj (by decide), sI_nj (by decide), sI_nj (by decide), sI_at]
  · rw [sI_nj (by decide), sI_nj (by decide), sI_at]
  · rw [sI_nj (by decide), sI_at]
  · rw [sI_at]
theorem alike_L {S : Sc} {M : Mem} (hS : okS S) (hR : RM S M) {i j : Nat} (hi : i < cI S) (hj : j < cI S) : ∀ (d n k : Nat) (c : Bool), k + d = 4 → d < n → (c = true ↔ ∀ k', k' < k → cQd S i k' = cQd S j k') → fX5_isAlike_5L M n (i32 i) (i32 j) (i32 (bI c)) (i32 k) = some (i32 (bI (al S i j))) := by
  obtain ⟨p0, p1, p2, p3, -⟩ := hS.2.2.2.2.2.1 i hi
  obtain ⟨r0, r1, r2, r3, -⟩ := hS.2.2.2.2.2.1 j hj
  obtain ⟨s1, s2, -⟩ := id hS
  have hb : ∀ c, c < 4 → (-2147483648 ≤ cQd S i c ∧ cQd S i c ≤ 2147483647) ∧ (-2147483648 ≤ cQd S j c ∧ cQd S j c ≤ 2147483647) := fun c hc => by
    rcases j4 hc with rfl | rfl | rfl | rfl <;> omega
  intro d
  induction d with
  | zero =>
    intro n k c h1 h2 h3
    obtain ⟨n, rfl⟩ : ∃ m, n = m + 1 := ⟨n - 1, by omega⟩
    obtain rfl : k = 4 := by omega
    show fX5_isAlike_5B (fX5_isAlike_5L M n) _ _ _ _ _ = _
    unfold fX5_isAlike_5B
    rw [if_pos (by decide), gB_bI]
    have : c = al S i j := Bool.eq_iff_iff.mpr (h3.trans (al_iff S i j).symm)
    rw [this]; rfl
  | succ d ih =>
    intro n k c h1 h2 h3
    obtain ⟨n, rfl⟩ : ∃ m, n = m + 1 := ⟨n - 1, by omega⟩
    have hbk := hb k (by omega)
    have e45 : ∀ c' : Bool, fX5_isAlike_45 (fX5_isAlike_5L M n) (i32 i) (i32 j) (i32 k) (i32 (bI c')) M = fX5_isAlike_5L M n (i32 i) (i32 j) (i32 (bI c')) (i32 ((k + 1 : Nat) : Int)) := fun c' => by
      unfold fX5_isAlike_45
      rw [show (1 : Int32) = i32 1 from rfl, i32_add]; rfl
    have e44 : fX5_isAlike_44 (fX5_isAlike_5L M n) (i32 i) (i32 j) (i32 k) M = fX5_isAlike_5L M n (i32 i) (i32 j) (i32 (bI false)) (i32 ((k + 1 : Nat) : Int)) := e45 false
    have e45' : fX5_isAlike_45 (fX5_isAlike_5L M n) (i32 i) (i32 j) (i32 k) 1 M = fX5_isAlike_5L M n (i32 i) (i32 j) (i32 (bI true)) (i32 ((k + 1 : Nat) : Int)) := e45 true
    show fX5_isAlike_5B (fX5_isAlike_5L M n) _ _ _ _ _ = _
    unfold fX5_isAlike_5B
    rw [show (4 : Int32) = i32 4 from rfl, if_neg (fun z => absurd ((i32_le (by omega)).mp z) (by omega)), e44, e45', show (0 : Int32) = i32 0 from rfl, ite_bI, show (5 : Int32) = i32 5 from rfl, i32_mul, i32_mul, i32_add, i32_add, qd_M hS hR hi k (by omega), qd_M hS hR hj k (by omega)]
    simp only [Option.bind_some, Option.bind_none]
    cases hc : c with
    | false =>
      rw [if_neg (by decide)]
      refine ih n (k + 1) false (by omega) (by omega) ⟨fun h => absurd h (by decide), fun h => ?_⟩
      rw [hc] at h3
      exact h3.mpr (fun k' hk' => h k' (by omega))
    | true =>
      rw [if_pos rfl]
      rw [hc] at h3
      have h3' := h3.mp rfl
      by_cases z : cQd S i k = cQd S j k
      · rw [if_pos (by rw [z])]
        refine ih n (k + 1) true (by omega) (by omega) ⟨fun _ k' hk' => ?_, fun _ => rfl⟩
        by_cases w : k' = k
        · rw [w]; exact z
        · exact h3' k' (by omega)
      · rw [if_neg (fun q => z ((i32_inj (by omega)).mp q))]
        exact ih n (k + 1) false (by omega) (by omega) ⟨fun h => absurd h (by decide), fun h => absurd (h k (by omega)) z⟩
theorem alike_M {S : Sc} {M : Mem} (hS : okS S) (hR : RM S M) {i j : Nat} (hi : i < cI S) (hj : j < cI S) : fX5_isAlike (i32 i) (i32 j) M = some (i32 (bI (al S i j))) := alike_L hS hR hi hj 4 FU 0 true (by omega) (by unfold FU; omega) ⟨fun _ k hk => absurd hk (by omega), fun _ => rfl⟩
theorem freeIn_L {S : Sc} (hS : okS S) {i : Nat} (hi : i < cI S) {k a : Nat} {s : Int} (hk : k < 64) (hca : ca k = a) (hcs : cs k = s) (hs : -4 ≤ s ∧ s ≤ 4) (hg : gcP S i false k = true) : ∀ (d n j : Nat) (M : Mem), j + d = cI S → d < n → RM S M → (∃ t, Lk (cQd S i 0) (cQd S i 1) (cQd S i 2) t M) → ∃ M', fX5_freeIn_6L n (i32 i) (i32 a) (i32 s) (acc (fun j => al S i j && gcP S j true k) j) (i32 j) M = some (frm S i k, M') ∧ Vk M M' ∧ RM S M' ∧ ∃ t, Lk (cQd S i 0) (cQd S i 1) (cQd S i 2) t M' := by
  have h10 := hS.2.2.2.1
  have hab := ca_b k hk
  intro d
  induction d with
  | zero =>
    intro n j M h1 h2 hR hL
    obtain ⟨n, rfl⟩ : ∃ m, n = m + 1 := ⟨n - 1, by omega⟩
    obtain rfl : j = cI S := by omega
    refine ⟨M, ?_, Vk.rf, hR, hL⟩
    show fX5_freeIn_6B (fX5_freeIn_6L n) _ _ _ _ _ _ = _
    unfold fX5_freeIn_6B
    rw [show (0 : Int32) = i32 ((0 : Nat) : Int) from rfl, rI_ok (by omega), show (((0 : Nat) : Int)).toNat = 0 from rfl, hR.2.2.2.1]
    simp only [Option.bind_some, Option.bind_none]
    rw [if_pos ((i32_le (by omega)).mpr (by omega))]; rfl
  | succ d ih =>
    intro n j M h1 h2 hR hL
    obtain ⟨n, rfl⟩ : ∃ m, n = m + 1 := ⟨n - 1, by omega⟩
    have hj : j < cI S := by omega
    have e90 : ∀ z Mx, fX5_freeIn_90 (fX5_freeIn_6L n) (i32 i) (i32 a) (i32 s) z (i32 j) Mx = fX5_freeIn_6L n (i32 i) (i32 a) (i32 s) z (i32 ((j + 1 : Nat) : Int)) Mx := fun z Mx => by
      unfold fX5_freeIn_90
      rw [show (1 : Int32) = i32 1 from rfl, i32_add]; rfl
    have hM0 : fX5_freeIn_6L (n + 1) (i32 i) (i32 a) (i32 s) (acc (fun j => al S i j && gcP S j true k) j) (i32 j) M = fX5_freeIn_6B (fX5_freeIn_6L n) (i32 i) (i32 a) (i32 s) (acc (fun j => al S i j && gcP S j true k) j) (i32 j) M := rfl
    have r49 : rI M 49 2 0 = some (i32 (cI S)) := by
      rw [show (0 : Int32) = i32 ((0 : Nat) : Int) from rfl, rI_ok (by omega), show (((0 : Nat) : Int)).toNat = 0 from rfl, hR.2.2.2.1]
    cases ha : al S i j with
    | false =>
      obtain ⟨M', g1, g2, g3, g4⟩ := ih n (j + 1) M (by omega) (by omega) hR hL
      rw [acc_s, ha, Bool.false_and, if_neg (by decide), or_0] at g1
      refine ⟨M', ?_, g2, g3, g4⟩
      rw [hM0]
      unfold fX5_freeIn_6B
      rw [r49]
      simp only [Option.bind_some, Option.bind_none]
      rw [if_neg (fun z => absurd ((i32_le (by omega)).mp z) (by omega)), alike_M hS hR hi hj, ha]
      simp only [Option.bind_some, Option.bind_none]
      rw [if_pos (by decide), e90]
      exact g1
    | true =>
      have hal := (al_iff S i j).mp ha
      obtain ⟨q0, q1, q2, q3, q4⟩ := hS.2.2.2.2.2.1 j hj
      obtain ⟨s1, s2, -⟩ := id hS
      obtain ⟨M1, k1, k2, k3, k4⟩ := lookAs_K hS hR hj (cQd S j 4)
      have hL1 : Lk (cQd S i 0) (cQd S i 1) (cQd S i 2) (cQd S j 4) M1 := by
        rw [hal 0 (by decide), hal 1 (by decide), hal 2 (by decide)]; exact k2
      obtain ⟨M', g1, g2, g3, g4⟩ := ih n (j + 1) M1 (by omega) (by omega) k4 ⟨_, hL1⟩
      refine ⟨M', ?_, k3.tr g2, g3, g4⟩
      have bx := vx_b (cQd S j 2) (a := (a : Int)) (s := s) (by omega)
      have by' := vy_b (cQd S j 2) (a := (a : Int)) (s := s) (by omega)
      have h3 : 1 ≤ hides S (cQd S j 0) (cQd S j 1) (cQd S j 2) (cQd S j 4) (a : Int) s ∧ hides S (cQd S j 0) (cQd S j 1) (cQd S j 2) (cQd S j 4) (a : Int) s ≤ 3 := hides_3 S _ _ _ _ _ _ _ _
      have hgj : grd S (cQd S j 0) (cQd S j 1) (cQd S j 2) k = true := by
        have : grd S (cQd S i 0) (cQd S i 1) (cQd S i 2) k = true := hg
        rw [hal 0 (by decide), hal 1 (by decide), hal 2 (by decide)] at this
        exact this
      have hemp : gcP S j true k = (decide (onS S (cQd S j 0 + vx (cQd S j 2) a s) (cQd S j 1 + vy (cQd S j 2) a s) (cQd S j 4) = i32 0) && decide (hides S (cQd S j 0) (cQd S j 1) (cQd S j 2) (cQd S j 4) (a : Int) s = 1)) := by
        show emp S (cQd S j 0) (cQd S j 1) (cQd S j 2) (cQd S j 4) k = _
        unfold emp
        rw [hgj, Bool.true_and, hca, hcs]
        unfold gX gY
        rw [hca, hcs]
      have E4 := qd_M hS hR hj 4 (by decide)
      rw [show ((4 : Nat) : Int) = 4 from rfl] at E4
      rw [hM0]
      unfold fX5_freeIn_6B fX5_freeIn_86 fX5_freeIn_87
      rw [r49]
      simp only [Option.bind_some, Option.bind_none]
      rw [if_neg (fun z => absurd ((i32_le (by omega)).mp z) (by omega)), alike_M hS hR hi hj, ha]
      simp only [Option.bind_some, Option.bind_none]
      rw [if_neg (by decide), show (5 : Int32) = i32 5 from rfl, show (4 : Int32) = i32 4 from rfl, i32_mul, i32_add, E4]
      simp only [Option.bind_some, Option.bind_none]
      rw [k1]
      simp only [Option.bind_some, Option.bind_none]
      rw [xAt_M k2 q2, yAt_M k2 q2, k2.2.2.2]
      simp only [Option.bind_some, Option.bind_none]
      rw [thoseOn_M hS k4 (by omega) (by omega), hides_M hS k4 k2 (vw_q hS hj) (by omega) (by omega) hs]
      simp only [Option.bind_some, Option.bind_none, e90]
      rw [acc_s, ha, Bool.true_and, hemp] at g1
      by_cases z : onS S (cQd S j 0 + vx (cQd S j 2) a s) (cQd S j 1 + vy (cQd S j 2) a s) (cQd S j 4) = i32 0
      · rw [if_pos (show onS S (cQd S j 0 + vx (cQd S j 2) a s) (cQd S j 1 + vy (cQd S j 2) a s) (cQd S j 4) = 0 from z)]
        rw [decide_eq_true z, Bool.true_and] at g1
        by_cases y : hides S (cQd S j 0) (cQd S j 1) (cQd S j 2) (cQd S j 4) (a : Int) s = 1
        · rw [decide_eq_true y, if_pos rfl] at g1
          rw [if_pos (by rw [y]; rfl)]
          exact g1
        · rw [decide_eq_false y, if_neg (by decide)] at g1
          rw [if_neg (show ¬ i32 (hides S (cQd S j 0) (cQd S j 1) (cQd S j 2) (cQd S j 4) (a : Int) s) = 1 from fun q => y ((i32_inj (b := 1) (by omega)).mp q))]
          exact g1
      · rw [if_neg (show ¬ onS S (cQd S j 0 + vx (cQd S j 2) a s) (cQd S j 1 + vy (cQd S j 2) a s) (cQd S j 4) = 0 from z)]
        rw [decide_eq_false z, Bool.false_and, if_neg (by decide)] at g1
        exact g1
/-- the row of free cells so far -/
def FF (S : Sc) (i k : Nat) (M : Mem) : Prop := M.1 42 36 = i32 ((fb_ct (gcP S i false) k : Nat) : Int) ∧ ∀ k', k' < k → gcP S i false k' = true → M.1 66 (fb_ct (gcP S i false) k') = frm S i k'
theorem ct_lt {p : Nat → Bool} {k' k : Nat} (h : k' < k) (hp : p k' = true) : fb_ct p k' < fb_ct p k := by
  have e1 := fb_ct_succ p k'
  have e2 := fb_ct_mono p (show k' + 1 ≤ k by omega)
  rw [e1, hp, if_pos rfl] at e2
  omega
theorem fIn_L {S : Sc} (hS : okS S) {i : Nat} (hi : i < cI S) {k13 : Int32 → Int32 → Mem → Option Mem} {a : Nat} (ha : 1 ≤ a ∧ a ≤ 9) : ∀ (d n j : Nat) (M : Mem), j + d = 2 * (a / 2) + 1 → d < n → RM S M → (∃ t, Lk (cQd S i 0) (cQd S i 1) (cQd S i 2) t M) → FF S i (off a + j) M → ∃ M', fX5_findFree_32L k13 n (i32 i) (i32 a) (i32 ((j : Int) - ((a / 2 : Nat) : Int))) M = k13 (i32 i) (i32 ((a + 1 : Nat) : Int)) M' ∧ Vm M M' ∧ RM S M' ∧ (∃ t, Lk (cQd S i 0) (cQd S i 1) (cQd S i 2) t M') ∧ FF S i (off (a + 1)) M' := by
  obtain ⟨o1, o2⟩ := off_s a (by omega) ha.1
  have o40 := off_le a (by omega) ha.1
  have hdiv : i32 (a : Int) / 2 = i32 ((a / 2 : Nat) : Int) := by
    rw [show (2 : Int32) = i32 2 from rfl, i32_div (by omega), Int.tdiv_eq_ediv_of_nonneg (by omega)]; rfl
  obtain ⟨q0, q1, q2, q3, q4⟩ := hS.2.2.2.2.2.1 i hi
  obtain ⟨s1, s2, -⟩ := id hS
  intro d
  induction d with
  | zero =>
    intro n j M h1 h2 hR hL hF
    obtain ⟨n, rfl⟩ : ∃ m, n = m + 1 := ⟨n - 1, by omega⟩
    refine ⟨M, ?_, Vm.rf, hR, hL, by rw [show off (a + 1) = off a + j by omega]; exact hF⟩
    show fX5_findFree_32B k13 (fX5_findFree_32L k13 n) _ _ _ _ = _
    unfold fX5_findFree_32B
    rw [hdiv, if_pos ((i32_lt (by omega)).mpr (by omega)), show (1 : Int32) = i32 1 from rfl, i32_add]; rfl
  | succ d ih =>
    intro n j M h1 h2 hR hL hF
    obtain ⟨n, rfl⟩ : ∃ m, n = m + 1 := ⟨n - 1, by omega⟩
    obtain ⟨p1, p2⟩ := o2 j (by omega) (by omega)
    obtain ⟨t, hLt⟩ := id hL
    have bx := vx_b (cQd S i 2) (a := (a : Int)) (s := (j : Int) - ((a / 2 : Nat) : Int)) (by omega)
    have by' := vy_b (cQd S i 2) (a := (a : Int)) (s := (j : Int) - ((a / 2 : Nat) : Int)) (by omega)
    have e103 : ∀ Mx, fX5_findFree_103 k13 (fX5_findFree_32L k13 n) (i32 i) (i32 a) (i32 ((j : Int) - ((a / 2 : Nat) : Int))) Mx = fX5_findFree_32L k13 n (i32 i) (i32 a) (i32 (((j + 1 : Nat) : Int) - ((a / 2 : Nat) : Int))) Mx := fun Mx => by
      unfold fX5_findFree_103
      rw [show (1 : Int32) = i32 1 from rfl, i32_add, show (j : Int) - ((a / 2 : Nat) : Int) + 1 = ((j + 1 : Nat) : Int) - ((a / 2 : Nat) : Int) by omega]
    have hgr : gcP S i false (off a + j) = (sCell S (cQd S i 0 + vx (cQd S i 2) a ((j : Int) - ((a / 2 : Nat) : Int))) (cQd S i 1 + vy (cQd S i 2) a ((j : Int) - ((a / 2 : Nat) : Int))) && !cWl S (cQd S i 0 + vx (cQd S i 2) a ((j : Int) - ((a / 2 : Nat) : Int))) (cQd S i 1 + vy (cQd S i 2) a ((j : Int) - ((a / 2 : Nat) : Int)))) := by
      show grd S _ _ _ _ = _
      unfold grd gX gY
      rw [p1, p2]
    have e0 : fX5_findFree_32L k13 (n + 1) (i32 i) (i32 a) (i32 ((j : Int) - ((a / 2 : Nat) : Int))) M = (if gcP S i false (off a + j) = true then (fX5_freeIn (i32 i) (i32 a) (i32 ((j : Int) - ((a / 2 : Nat) : Int))) M).bind fun v7 => (wI v7.2 66 81 (M.1 42 36) v7.1).bind fun M8 => (wF M8 42 36 (M8.1 42 36 + 1)).bind fun M9 => fX5_findFree_32L k13 n (i32 i) (i32 a) (i32 (((j + 1 : Nat) : Int) - ((a / 2 : Nat) : Int))) M9 else fX5_findFree_32L k13 n (i32 i) (i32 a) (i32 (((j + 1 : Nat) : Int) - ((a / 2 : Nat) : Int))) M) := by
      show fX5_findFree_32B k13 (fX5_findFree_32L k13 n) _ _ _ _ = _
      unfold fX5_findFree_32B
      rw [hdiv, if_neg (fun z => absurd ((i32_lt (by omega)).mp z) (by omega)), xAt_M hLt q2, yAt_M hLt q2]
      simp only [Option.bind_some, Option.bind_none, e103]
      rw [isOn_M hS hR (by omega), isWall_M hS hR (by omega)]
      simp only [Option.bind_some, Option.bind_none, L0, ite_bI]
      rw [hgr]
      cases sCell S (cQd S i 0 + vx (cQd S i 2) a ((j : Int) - ((a / 2 : Nat) : Int))) (cQd S i 1 + vy (cQd S i 2) a ((j : Int) - ((a / 2 : Nat) : Int)))
      · rfl
      · cases cWl S (cQd S i 0 + vx (cQd S i 2) a ((j : Int) - ((a / 2 : Nat) : Int))) (cQd S i 1 + vy (cQd S i 2) a ((j : Int) - ((a / 2 : Nat) : Int)))
        · rfl
        · rfl
    rw [e0]
    cases hg : gcP S i false (off a + j) with
    | false =>
      rw [if_neg (by decide)]
      refine ih n (j + 1) M (by omega) (by omega) hR hL ⟨?_, fun k' hk' hgk => ?_⟩
      · rw [hF.1, show off a + (j + 1) = off a + j + 1 from rfl, fb_ct_succ, hg]; rfl
      · by_cases z : k' = off a + j
        · rw [z, hg] at hgk; exact absurd hgk (by decide)
        · exact hF.2 k' (by omega) hgk
    | true =>
      rw [if_pos rfl]
      obtain ⟨M1, k1, k2, k3, k4⟩ := freeIn_L hS hi (k := off a + j) (by omega) p1 p2 (by omega) hg (cI S) FU 0 M (by omega) (by have := hS.2.2.2.1; unfold FU; omega) hR hL
      have k1' : fX5_freeIn (i32 i) (i32 a) (i32 ((j : Int) - ((a / 2 : Nat) : Int))) M = some (frm S i (off a + j), M1) := k1
      have hcle := fb_ct_le (gcP S i false) (off a + j)
      have hv2 : Vm M1 (sI (sI M1 66 (fb_ct (gcP S i false) (off a + j)) (frm S i (off a + j))) 42 36 (i32 ((fb_ct (gcP S i false) (off a + j) : Nat) : Int) + 1)) := ⟨rfl, fun b b1 b2 b3 b4 b5 b6 => by rw [sI_ne b1, sI_ne b5], fun c c1 c2 => by rw [sI_nj c2, sI_ne (by decide)], by rw [sI_ne (by decide), sI_ne (by decide), sI_ne (by decide), sI_ne (by decide)]⟩
      have hc36 : M1.1 42 36 = i32 ((fb_ct (gcP S i false) (off a + j) : Nat) : Int) := by rw [k2.2.2 36 (by decide)]; exact hF.1
      obtain ⟨t', hLt'⟩ := k4
      obtain ⟨M', g1, g2, g3, g4, g5⟩ := ih n (j + 1) (sI (sI M1 66 (fb_ct (gcP S i false) (off a + j)) (frm S i (off a + j))) 42 36 (i32 ((fb_ct (gcP S i false) (off a + j) : Nat) : Int) + 1)) (by omega) (by omega) (k3.vm hv2) ⟨t', by
        obtain ⟨l1, l2, l3, l4⟩ := hLt'
        refine ⟨?_, ?_, ?_, ?_⟩
        · rw [sI_nj (by decide), sI_ne (by decide)]; exact l1
        · rw [sI_nj (by decide), sI_ne (by decide)]; exact l2
        · rw [sI_nj (by decide), sI_ne (by decide)]; exact l3
        · rw [sI_nj (by decide), sI_ne (by decide)]; exact l4⟩ ⟨by
        rw [sI_at, show off a + (j + 1) = off a + j + 1 from rfl, fb_ct_succ, hg, if_pos rfl, show (1 : Int32) = i32 1 from rfl, i32_add]; rfl, fun k' hk' hgk => by
        rw [sI_ne (by decide)]
        by_cases z : k' = off a + j
        · rw [z, sI_at]
        · have := ct_lt (p := gcP S i false) (show k' < off a + j by omega) hgk
          rw [sI_nj (by omega), k2.2.1 66 (by decide)]
          exact hF.2 k' (by omega) hgk⟩
      refine ⟨M', ?_, (k2.vm.tr hv2).tr g2, g3, g4, g5⟩
      rw [k1']
      simp only [Option.bind_some, Option.bind_none]
      rw [hF.1, wI_ok (by omega), show ((fb_ct (gcP S i false) (off a + j) : Nat) : Int).toNat = fb_ct (gcP S i false) (off a + j) by omega]
      unfold wF
      simp only [Option.bind_some, Option.bind_none]
      rw [sI_ne (by decide), hc36]
      exact g1
theorem fOut_L {S : Sc} (hS : okS S) {i : Nat} (hi : i < cI S) : ∀ (d n a : Nat) (M : Mem), a + d = rr S i + 1 → d < n → 1 ≤ a → RM S M → (∃ t, Lk (cQd S i 0) (cQd S i 1) (cQd S i 2) t M) → FF S i (off a) M → ∃ M', fX5_findFree_13L n (i32 i) (i32 a) M = some M' ∧ Vm M M' ∧ RM S M' ∧ FF S i (Tn S i) M' := by
  have hq := (hS.2.2.2.2.2.1 i hi).2.2.2.1
  have hrr : cQd S i 3 = (rr S i : Int) := by unfold rr; omega
  intro d
  induction d with
  | zero =>
    intro n a M h1 h2 h3 hR hL hF
    obtain ⟨n, rfl⟩ : ∃ m, n = m + 1 := ⟨n - 1, by omega⟩
    obtain rfl : a = rr S i + 1 := by omega
    refine ⟨M, ?_, Vm.rf, hR, hF⟩
    have E3 := qd_M hS hR hi 3 (by decide)
    rw [show ((3 : Nat) : Int) = 3 from rfl] at E3
    show fX5_findFree_13B (fX5_findFree_13L n) _ _ _ = _
    unfold fX5_findFree_13B
    rw [show (5 : Int32) = i32 5 from rfl, show (3 : Int32) = i32 3 from rfl, i32_mul, i32_add, E3]
    simp only [Option.bind_some, Option.bind_none]
    rw [if_pos ((i32_lt (by omega)).mpr (by omega))]
  | succ d ih =>
    intro n a M h1 h2 h3 hR hL hF
    obtain ⟨n, rfl⟩ : ∃ m, n = m + 1 := ⟨n - 1, by omega⟩
    have E3 := qd_M hS hR hi 3 (by decide)
    rw [show ((3 : Nat) : Int) = 3 from rfl] at E3
    have hdiv : i32 (a : Int) / 2 = i32 ((a / 2 : Nat) : Int) := by
      rw [show (2 : Int32) = i32 2 from rfl, i32_div (by omega), Int.tdiv_eq_ediv_of_nonneg (by omega)]; rfl
    obtain ⟨M1, k1, k2, k3, k4, k5⟩ := fIn_L hS hi (k13 := fX5_findFree_13L n) (a := a) (by omega) (2 * (a / 2) + 1) FU 0 M (by omega) (by unfold FU; omega) hR hL hF
    obtain ⟨M', g1, g2, g3, g4⟩ := ih n (a + 1) M1 (by omega) (by omega) (by omega) k3 k4 k5
    refine ⟨M', ?_, k2.tr g2, g3, g4⟩
    rw [show ((0 : Nat) : Int) - ((a / 2 : Nat) : Int) = -((a / 2 : Nat) : Int) by omega] at k1
    show fX5_findFree_13B (fX5_findFree_13L n) _ _ _ = _
    unfold fX5_findFree_13B
    rw [show (5 : Int32) = i32 5 from rfl, show (3 : Int32) = i32 3 from rfl, i32_mul, i32_add, E3]
    simp only [Option.bind_some, Option.bind_none]
    rw [if_neg (fun z => absurd ((i32_lt (by omega)).mp z) (by omega)), hdiv, i32_neg, k1]
    exact g1
theorem findFree_M {S : Sc} (hS : okS S) {i : Nat} (hi : i < cI S) {M : Mem} (hR : RM S M) : ∃ M', fX5_findFree (i32 i) M = some M' ∧ Vm M M' ∧ RM S M' ∧ FF S i (Tn S i) M' := by
  have hv : Vm M (sI M 42 36 0) := Vm.f (by decide)
  obtain ⟨M1, k1, k2, k3, k4⟩ := lookAs_K hS (hR.vm hv) hi 0
  have hq := (hS.2.2.2.2.2.1 i hi).2.2.2.1
  obtain ⟨M', g1, g2, g3, g4⟩ := fOut_L hS hi (rr S i) FU 1 M1 (by omega) (by unfold FU rr; omega) (by decide) k4 ⟨0, k2⟩ ⟨by rw [k3.2.2 36 (by decide), sI_at]; rfl, fun k' hk' => absurd hk' (by rw [show off 1 = 0 from rfl]; omega)⟩
  refine ⟨M', ?_, (hv.tr k3.vm).tr g2, g3, g4⟩
  unfold fX5_findFree wF
  simp only [Option.bind_some, Option.bind_none]
  have k1' : fX5_lookAs (i32 i) 0 (sI M 42 36 0) = some M1 := k1
  rw [k1']
  simp only [Option.bind_some, Option.bind_none]
  exact g1

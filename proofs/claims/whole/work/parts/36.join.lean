/-! joined: the fewest chains. -/
theorem sub_next : ∀ (k m s t : Nat), m < 2 ^ k → s &&& m = s → t &&& m = t → t < s → t ≤ (s - 1) &&& m := by
  intro k
  induction k with
  | zero =>
    intro m s t hm hs ht h
    have : m = 0 := by omega
    subst this
    rw [Nat.and_zero] at hs ht
    omega
  | succ k ih =>
    intro m s t hm hs ht h
    have hm2 : m / 2 < 2 ^ k := by have := Nat.pow_succ 2 k; omega
    have hs2 : s / 2 &&& m / 2 = s / 2 := by rw [← Nat.and_div_two, hs]
    have ht2 : t / 2 &&& m / 2 = t / 2 := by rw [← Nat.and_div_two, ht]
    have hd : ((s - 1) &&& m) / 2 = (s - 1) / 2 &&& m / 2 := Nat.and_div_two
    by_cases q : s % 2 = 1
    · have e1 : (s - 1) / 2 = s / 2 := by omega
      rw [e1, hs2] at hd
      omega
    · have e1 : (s - 1) / 2 = s / 2 - 1 := by omega
      rw [e1] at hd
      by_cases r : t / 2 < s / 2
      · have := ih (m / 2) (s / 2) (t / 2) hm2 hs2 ht2 r
        have hm0 : ((s - 1) &&& m) % 2 = ((s - 1) % 2) &&& (m % 2) := Nat.and_mod_two_pow (n := 1)
        have ht0 : (t &&& m) % 2 = (t % 2) &&& (m % 2) := Nat.and_mod_two_pow (n := 1)
        rw [ht] at ht0
        rw [show (s - 1) % 2 = 1 by omega] at hm0
        have g1 : t % 2 ≤ m % 2 := by rw [ht0]; exact Nat.and_le_right
        have g2 : 1 &&& (m % 2) = m % 2 := by
          rcases Nat.mod_two_eq_zero_or_one m with z | z <;> rw [z] <;> rfl
        rw [g2] at hm0
        omega
      · omega
def md (m s : Nat) : Nat := m &&& (255 ^^^ s)
theorem tb_255 : ∀ i, (255 : Nat).testBit i = decide (i < 8) := fun i => by
  rw [show (255 : Nat) = 2 ^ 8 - 1 from rfl, Nat.testBit_two_pow_sub_one]
theorem tb_md {m s : Nat} (hm : m < 256) (i : Nat) : (md m s).testBit i = (m.testBit i && !s.testBit i) := by
  unfold md
  rw [Nat.testBit_and, Nat.testBit_xor, tb_255]
  by_cases z : i < 8
  · rw [decide_eq_true z, Bool.true_xor]
  · have : m.testBit i = false := by
      cases hb : m.testBit i with
      | false => rfl
      | true => exact absurd (tb_lt (k := 8) hm hb) z
    rw [this, Bool.false_and, Bool.false_and]
theorem md_lt {m s : Nat} (hm : m < 256) (hs : s &&& m = s) (h0 : 0 < s) : md m s < m := by
  have h1 : md m s ≤ m := Nat.and_le_left
  have h2 : md m s ≠ m := fun z => by
    have : s = 0 := Nat.eq_of_testBit_eq fun i => by
      rw [Nat.zero_testBit]
      cases hb : s.testBit i with
      | false => rfl
      | true =>
        have h3 : (s &&& m).testBit i = true := by rw [hs]; exact hb
        rw [Nat.testBit_and, hb, Bool.true_and] at h3
        have := tb_md (s := s) hm i
        rw [z, h3, hb] at this
        exact absurd this (by decide)
    omega
  omega
theorem i32_md {m s : Nat} (hm : m < 256) : i32 (m : Int) &&& (i32 (s : Int) ^^^ (-1)) = i32 ((md m s : Nat) : Int) := by
  apply b_ext
  intro i hi
  rw [b_and, bt_nx hi, i32_nI, i32_nI, i32_nI, bt_nI hi, bt_nI hi, bt_nI hi, tb_md hm]
theorem i32_an (a b : Nat) : i32 (a : Int) &&& i32 (b : Int) = i32 ((a &&& b : Nat) : Int) := by
  apply b_ext
  intro i hi
  rw [b_and, i32_nI, i32_nI, i32_nI, bt_nI hi, bt_nI hi, bt_nI hi, Nat.testBit_and]
/-- the width of a set of sightings: as many unlike ones, as few chains -/
def Wd (N : Nt) (W : Nat → Nat) : Prop := ∀ m, m < 256 → ∃ e c, Anti (lj N) (fun x => m.testBit x = true) (W m) e ∧ Colr (lj N) (fun x => m.testBit x = true) (W m) c
theorem Wd_ex (N : Nt) : ∃ W, Wd N W := by
  have : ∀ m, ∃ k, m < 256 → ∃ e c, Anti (lj N) (fun x => m.testBit x = true) k e ∧ Colr (lj N) (fun x => m.testBit x = true) k c := fun m => by
    by_cases hm : m < 256
    · obtain ⟨k, e, c, h1, h2⟩ := dil (lj_irr N) (lj_tr N) (n := 8) (fb_ct (fun x => m.testBit x) 8) (fun x => m.testBit x) rfl (fun x hx => tb_lt (k := 8) hm hx)
      exact ⟨k, fun _ => ⟨e, c, h1, h2⟩⟩
    · exact ⟨0, fun h => absurd h hm⟩
  exact Classical.axiomOfChoice this
theorem Wd_le8 {N : Nt} {W : Nat → Nat} (hW : Wd N W) {m : Nat} (hm : m < 256) : W m ≤ 8 := by
  obtain ⟨e, c, h1, h2⟩ := hW m hm
  exact fb_holes 8 (W m) e (fun i hi => tb_lt (k := 8) hm (h1.1 i hi)) (fun i j hij hj => (h1.2 i j (by omega) hj (by omega)).1)
theorem Wd_up {N : Nt} {W : Nat → Nat} (hW : Wd N W) {m s : Nat} (hm : m < 256) (hs : s &&& m = s) (h0 : 0 < s) (hc : chn N s) : W m ≤ W (md m s) + 1 := by
  have hlt := md_lt hm hs h0
  obtain ⟨e, c, h1, h2⟩ := hW m hm
  obtain ⟨e', c', g1, g2⟩ := hW (md m s) (by omega)
  have tm := tb_md (s := s) hm
  have tmx : ∀ x, m.testBit x = true → ¬ s.testBit x = true → (md m s).testBit x = true := fun x hx z => by rw [tm, hx, Bool.eq_false_iff.mpr z]; rfl
  refine anti_le h1 (c := fun x => if s.testBit x = true then W (md m s) else c' x) ⟨fun x hx => ?_, fun x y hx hy hxy hne => ?_⟩
  · show (if s.testBit x = true then W (md m s) else c' x) < _
    by_cases z : s.testBit x = true
    · rw [if_pos z]; omega
    · rw [if_neg z]
      have := g2.1 x (tmx x hx z)
      omega
  · have hxy' : (if s.testBit x = true then W (md m s) else c' x) = (if s.testBit y = true then W (md m s) else c' y) := hxy
    by_cases z : s.testBit x = true
    · by_cases w : s.testBit y = true
      · exact lj_of N hne (hc x y z w hne)
      · rw [if_pos z, if_neg w] at hxy'
        have := g2.1 y (tmx y hy w)
        omega
    · by_cases w : s.testBit y = true
      · rw [if_neg z, if_pos w] at hxy'
        have := g2.1 x (tmx x hx z)
        omega
      · rw [if_neg z, if_neg w] at hxy'
        exact g2.2 x y (tmx x hx z) (tmx y hy w) hxy' hne
theorem mask_of {n : Nat} (hn : n ≤ 31) (p : Nat → Bool) : ∃ s, s < 2 ^ n ∧ ∀ i, s.testBit i = (decide (i < n) && p i) := by
  have h1 : ∀ i, i < 32 → bt (acc p n) i = (decide (i < n) && p i) := fun i hi => bt_acc (by omega) hi
  have tb : ∀ i, (acc p n).toBitVec.toNat.testBit i = (decide (i < n) && p i) := fun i => by
    by_cases z : i < 32
    · exact h1 i z
    · rw [decide_eq_false (show ¬ i < n by omega), Bool.false_and]
      exact Nat.testBit_lt_two_pow (Nat.lt_of_lt_of_le (acc p n).toBitVec.isLt (Nat.pow_le_pow_right (by decide) (by omega)))
  refine ⟨(acc p n).toBitVec.toNat, Nat.lt_pow_two_of_testBit _ (fun i hi => ?_), tb⟩
  rw [tb, decide_eq_false (by omega), Bool.false_and]
theorem Wd_ex_sub {N : Nt} {W : Nat → Nat} (hW : Wd N W) {m : Nat} (hm : m < 256) (h0 : 0 < m) : ∃ s, 0 < s ∧ s &&& m = s ∧ chn N s ∧ W (md m s) + 1 ≤ W m := by
  obtain ⟨e, c, h1, h2⟩ := hW m hm
  -- a bit of m
  have hx : ∃ x, m.testBit x = true := by
    obtain ⟨x, hx⟩ := Nat.exists_testBit_of_ne_zero (show m ≠ 0 by omega)
    exact ⟨x, hx⟩
  obtain ⟨x0, hx0⟩ := hx
  have hpos : 0 < W m := Nat.lt_of_le_of_lt (Nat.zero_le _) (h2.1 x0 hx0)
  obtain ⟨s, s1, s2⟩ := mask_of (n := 8) (by decide) (fun x => m.testBit x && decide (c x = W m - 1))
  have s2' : ∀ x, s.testBit x = true ↔ m.testBit x = true ∧ c x = W m - 1 := fun x => by
    rw [s2, Bool.and_eq_true, Bool.and_eq_true, decide_eq_true_iff, decide_eq_true_iff]
    exact ⟨fun h => h.2, fun h => ⟨tb_lt (k := 8) hm h.1, h⟩⟩
  have hsm : s &&& m = s := Nat.eq_of_testBit_eq fun i => by
    rw [Nat.testBit_and]
    cases hb : s.testBit i with
    | false => rw [Bool.false_and]
    | true => rw [((s2' i).mp hb).1]; rfl
  have hch : chn N s := fun i j hi hj hij => by
    rcases h2.2 i j ((s2' i).mp hi).1 ((s2' j).mp hj).1 (((s2' i).mp hi).2.trans ((s2' j).mp hj).2.symm) hij with q | q
    · exact q.1
    · rw [one_sym]; exact q.1
  have hs0 : 0 < s := by
    by_cases z : 0 < s
    · exact z
    · have hz : s = 0 := by omega
      have := anti_le h1 (k' := W m - 1) (c := c) ⟨fun x hx => by
        have a1 := h2.1 x hx
        have a2 : c x ≠ W m - 1 := fun w => by
          have := (s2' x).mpr ⟨hx, w⟩
          rw [hz, Nat.zero_testBit] at this; exact absurd this (by decide)
        omega, h2.2⟩
      omega
  have hlt := md_lt hm hsm hs0
  obtain ⟨e', c', g1, g2⟩ := hW (md m s) (by omega)
  have tm := tb_md (s := s) hm
  have hmd : ∀ x, (md m s).testBit x = true → m.testBit x = true ∧ s.testBit x = false := fun x hx => by
    rw [tm, Bool.and_eq_true, Bool.not_eq_true'] at hx; exact hx
  have := anti_le g1 (k' := W m - 1) (c := c) ⟨fun x hx => by
      have a1 := h2.1 x (hmd x hx).1
      have a2 : c x ≠ W m - 1 := fun w => by
        have := (s2' x).mpr ⟨(hmd x hx).1, w⟩
        rw [(hmd x hx).2] at this; exact absurd this (by decide)
      omega, fun x y hx hy => h2.2 x y (hmd x hx).1 (hmd y hy).1⟩
  exact ⟨s, hs0, hsm, hch, by omega⟩
def Dp (W : Nat → Nat) (m v : Nat) (M : Mem) : Prop := (∀ r, r < m → M.1 65 r = i32 (W r)) ∧ M.1 65 m = i32 v ∧ W m ≤ v ∧ v ≤ 99
theorem Vm.r65 {M : Mem} {m : Nat} {x : Int32} (h : 0 < m) : Vm M (sI M 65 m x) := ⟨rfl, fun a _ _ _ h65 _ _ => sI_ne h65, fun j _ _ => by rw [sI_ne (by decide)], by rw [sI_nj (by omega), sI_ne (by decide)]⟩
theorem and_lt {m s n : Nat} (hs : s &&& m = s) (hm : m < n) : s < n := by
  have : s &&& m ≤ m := Nat.and_le_right
  omega
theorem sub_L {N : Nt} (hN : okN N) {W : Nat → Nat} (hW : Wd N W) {k13 : Int32 → Int32 → Mem → Option (Int32 × Mem)} {F m : Nat} (hm : m < 2 ^ nS N) (hm0 : 0 < m) : ∀ (s n v : Nat) (M : Mem), s < n → s &&& m = s → RNm 0 N M → Dp W m v M → (∀ t, t &&& m = t → s < t → chn N t → v ≤ W (md m t) + 1) → ∃ M', fX5_joined_28L k13 n (i32 F) (i32 m) (i32 s) M = k13 (i32 F) (i32 ((m + 1 : Nat) : Int)) M' ∧ Vm M M' ∧ Dp W m (W m) M' := by
  have h8 := hN.2.2.1
  have h256 : m < 256 := Nat.lt_of_lt_of_le hm (pow8 (nS N) h8).2
  intro s
  induction s using Nat.strongRecOn with
  | ind s ih =>
  intro n v M hn hs hr hD hv
  obtain ⟨n, rfl⟩ : ∃ m, n = m + 1 := ⟨n - 1, by omega⟩
  have hs256 : s < 256 := and_lt hs h256
  have hW8 := Wd_le8 hW h256
  obtain ⟨d1, d2, d3, d4⟩ := id hD
  by_cases q : s = 0
  · subst q
    obtain ⟨t, t1, t2, t3, t4⟩ := Wd_ex_sub hW h256 hm0
    have := hv t t2 t1 t3
    have hvW : v = W m := by omega
    refine ⟨M, ?_, Vm.rf, by rw [← hvW]; rw [← hvW] at d3; exact ⟨d1, d2, by omega, d4⟩⟩
    show fX5_joined_28B k13 (fX5_joined_28L k13 n) _ _ _ _ = _
    unfold fX5_joined_28B
    rw [if_pos (by decide), show (1 : Int32) = i32 1 from rfl, i32_add]; rfl
  · have hlt := md_lt h256 hs (by omega)
    have hnext : (s - 1) &&& m < s := by
      have : (s - 1) &&& m ≤ s - 1 := Nat.and_le_left
      omega
    have hnm : (s - 1) &&& m &&& m = (s - 1) &&& m := by rw [Nat.and_assoc, Nat.and_self]
    have e73 : ∀ Mx, fX5_joined_73 k13 (fX5_joined_28L k13 n) (i32 F) (i32 m) (i32 s) Mx = fX5_joined_28L k13 n (i32 F) (i32 m) (i32 (((s - 1) &&& m : Nat) : Int)) Mx := fun Mx => by
      unfold fX5_joined_73
      rw [show (1 : Int32) = i32 1 from rfl, i32_sub, show (s : Int) - 1 = ((s - 1 : Nat) : Int) by omega, i32_an]
    have visit : ∀ w, (∀ t, t &&& m = t → s < t → chn N t → w ≤ W (md m t) + 1) → (chn N s → w ≤ W (md m s) + 1) → ∀ t, t &&& m = t → (s - 1) &&& m < t → chn N t → w ≤ W (md m t) + 1 := by
      intro w c1 c2 t t1 t2 t3
      by_cases z : t = s
      · rw [z]; exact c2 (z ▸ t3)
      · by_cases z2 : s < t
        · exact c1 t t1 z2 t3
        · have := sub_next 8 m s t h256 hs t1 (by omega)
          omega
    obtain ⟨b, b1, b2⟩ := isChain_M hN hr (s := s) (and_lt hs hm)
    have hWr : W (md m s) ≤ 8 := Wd_le8 hW (by omega)
    have e0 : fX5_joined_28L k13 (n + 1) (i32 F) (i32 m) (i32 s) M = (if v ≤ W (md m s) + 1 then fX5_joined_28L k13 n (i32 F) (i32 m) (i32 (((s - 1) &&& m : Nat) : Int)) M else if b = true then fX5_joined_28L k13 n (i32 F) (i32 m) (i32 (((s - 1) &&& m : Nat) : Int)) (sI M 65 m (i32 ((W (md m s) + 1 : Nat) : Int))) else fX5_joined_28L k13 n (i32 F) (i32 m) (i32 (((s - 1) &&& m : Nat) : Int)) M) := by
      show fX5_joined_28B k13 (fX5_joined_28L k13 n) _ _ _ _ = _
      unfold fX5_joined_28B
      rw [show (0 : Int32) = i32 0 from rfl, if_neg (fun z => absurd ((i32_le (by omega)).mp z) (by omega)), i32_md h256, rI_ok (by omega), show ((md m s : Nat) : Int).toNat = md m s by omega, d1 _ hlt, rI_ok (by omega), show ((m : Nat) : Int).toNat = m by omega, d2, b1]
      simp only [Option.bind_some, Option.bind_none, e73]
      rw [show (1 : Int32) = i32 1 from rfl, i32_add, wI_ok (by omega), show ((m : Nat) : Int).toNat = m by omega, ite_bI]
      simp only [Option.bind_some, Option.bind_none]
      by_cases z : v ≤ W (md m s) + 1
      · rw [if_pos z, if_pos ((i32_le (by omega)).mpr (by omega))]
      · rw [if_neg z, if_neg (fun w => absurd ((i32_le (by omega)).mp w) (by omega))]; rfl
    rw [e0]
    by_cases z : v ≤ W (md m s) + 1
    · rw [if_pos z]
      exact ih _ hnext n v M (by omega) hnm hr hD (visit v hv (fun _ => z))
    · rw [if_neg z]
      cases hb : b with
      | false =>
        rw [if_neg (by decide)]
        exact ih _ hnext n v M (by omega) hnm hr hD (visit v hv (fun c => by rw [b2.mpr c] at hb; exact absurd hb (by decide)))
      | true =>
        rw [if_pos rfl]
        have hup := Wd_up hW h256 hs (by omega) (b2.mp hb)
        have hvm : Vm M (sI M 65 m (i32 ((W (md m s) + 1 : Nat) : Int))) := Vm.r65 hm0
        obtain ⟨M', g1, g2, g3⟩ := ih _ hnext n (W (md m s) + 1) (sI M 65 m (i32 ((W (md m s) + 1 : Nat) : Int))) (by omega) hnm (hr.vm hvm) ⟨fun r hr => by rw [sI_nj (by omega)]; exact d1 r hr, sI_at _ _ _ _, hup, by omega⟩ (visit _ (fun t t1 t2 t3 => by have := hv t t1 t2 t3; omega) (fun _ => Nat.le_refl _))
        exact ⟨M', g1, hvm.tr g2, g3⟩
theorem dp_L {N : Nt} (hN : okN N) {W : Nat → Nat} (hW : Wd N W) : ∀ (d n m : Nat) (M : Mem), m + d = 2 ^ nS N → d < n → 0 < m → RNm 0 N M → (∀ r, r < m → M.1 65 r = i32 (W r)) → ∃ M', fX5_joined_13L n (i32 ((2 ^ nS N - 1 : Nat) : Int)) (i32 m) M = some (i32 (W (2 ^ nS N - 1)), M') ∧ Vm M M' := by
  have h8 := hN.2.2.1
  have h256 := (pow8 (nS N) h8).2
  intro d
  induction d with
  | zero =>
    intro n m M h1 h2 h3 h4 h5
    obtain ⟨n, rfl⟩ : ∃ m, n = m + 1 := ⟨n - 1, by omega⟩
    refine ⟨M, ?_, Vm.rf⟩
    show fX5_joined_13B (fX5_joined_13L n) _ _ _ = _
    unfold fX5_joined_13B
    rw [if_pos ((i32_lt (by omega)).mpr (by omega)), rI_ok (by omega), show ((2 ^ nS N - 1 : Nat) : Int).toNat = 2 ^ nS N - 1 by omega, h5 _ (by omega)]
    rfl
  | succ d ih =>
    intro n m M h1 h2 h3 h4 h5
    obtain ⟨n, rfl⟩ : ∃ m, n = m + 1 := ⟨n - 1, by omega⟩
    have hv0 : Vm M (sI M 65 m (i32 ((99 : Nat) : Int))) := Vm.r65 h3
    have hW8 := Wd_le8 hW (show m < 256 by omega)
    obtain ⟨M1, g1, g2, g3⟩ := sub_L hN hW (k13 := fX5_joined_13L n) (F := 2 ^ nS N - 1) (m := m) (by omega) h3 m FU 99 (sI M 65 m (i32 ((99 : Nat) : Int))) (by unfold FU; omega) (Nat.and_self m) (h4.vm hv0) ⟨fun r hr => by rw [sI_nj (by omega)]; exact h5 r hr, sI_at _ _ _ _, by omega, by omega⟩ (fun t t1 t2 _ => by have : t &&& m ≤ m := Nat.and_le_right; omega)
    obtain ⟨M', k1, k2⟩ := ih n (m + 1) M1 (by omega) (by omega) (by omega) ((h4.vm hv0).vm g2) (fun r hr => by
      by_cases z : r = m
      · rw [z]; exact g3.2.1
      · exact g3.1 r (by omega))
    refine ⟨M', ?_, (hv0.tr g2).tr k2⟩
    show fX5_joined_13B (fX5_joined_13L n) _ _ _ = _
    unfold fX5_joined_13B
    rw [if_neg (fun z => absurd ((i32_lt (by omega)).mp z) (by omega)), wI_ok (by omega), show ((m : Nat) : Int).toNat = m by omega]
    simp only [Option.bind_some, Option.bind_none]
    exact g1.trans k1
theorem o_joined {M : Mem} (h : Inv M) : ∃ v M1 M2, fX4_joined M = some (v, M1) ∧ fX5_joined M1 = some (v, M2) ∧ Inv M2 := by
  obtain ⟨b, sp, S, N, K0, K1, N0, N1, L, h⟩ := h
  obtain ⟨a1, i1, c1, d1, ⟨p1, p2, p3⟩, f1, g1, h1, j1, k1⟩ := id h
  have h8 := p1.2.2.1
  obtain ⟨W, hW⟩ := Wd_ex N
  have h256 := (pow8 (nS N) h8).2
  have hpos : 0 < 2 ^ nS N := Nat.pow_pos (by decide)
  obtain ⟨e, c, hA, hC⟩ := hW (2 ^ nS N - 1) (by omega)
  have tF : ∀ i, (2 ^ nS N - 1).testBit i = decide (i < nS N) := fun i => Nat.testBit_two_pow_sub_one _ _
  -- the class
  obtain ⟨M1, t1, t2, t3⟩ := fj2_L p1 (nS N) FU 0 M (by omega) (by unfold FU; omega) p2 (fun r hr => absurd hr (by omega))
  have hp2 : RNc 4 N M1 := p2.o8 t2
  have hle : ∀ y, y < 2 ^ nS N → ul N (nI y) (nS N) = true → pcI (nI y) ≤ W (2 ^ nS N - 1) := by
    intro y hy hu
    have hu' := (ul_iff p1 (nI y)).mp hu
    have hk : ∀ i, ∃ x, i < pcI (nI y) → x < 10 ∧ bt (nI y) x = true ∧ fb_ct (fun i => bt (nI y) i) x = i := fun i => by
      by_cases z : i < pcI (nI y)
      · obtain ⟨x, x1, x2, x3⟩ := fb_ct_kth (p := fun i => bt (nI y) i) (n := 10) z
        exact ⟨x, fun _ => ⟨x1, x2, x3⟩⟩
      · exact ⟨0, fun w => absurd w z⟩
    obtain ⟨f, hf⟩ := Classical.axiomOfChoice hk
    have hfl : ∀ i, i < pcI (nI y) → f i < nS N := fun i hi => by
      have := (hf i hi).2.1
      rw [bt_nI (by have := (hf i hi).1; omega)] at this
      exact tb_lt hy this
    refine anti_le (lt := lj N) (P := fun x => (2 ^ nS N - 1).testBit x = true) (e := f) ⟨fun i hi => ?_, fun i j hi hj hij => ?_⟩ hC
    · show (2 ^ nS N - 1).testBit (f i) = true
      rw [tF]; exact decide_eq_true (hfl i hi)
    · have hne : f i ≠ f j := fun z => hij (by rw [← (hf i hi).2.2, z, (hf j hj).2.2])
      refine ⟨hne, fun hl => ?_⟩
      have := hu' (f i) (f j) (hfl i hi) (hfl j hj) hne (hf i hi).2.1 (hf j hj).2.1
      rw [hl.1] at this; exact absurd this (by decide)
  have hW8 := Wd_le8 hW (show 2 ^ nS N - 1 < 256 by omega)
  obtain ⟨b', u1, u2, u3⟩ := few_L p1 hp2 t3 (k := W (2 ^ nS N - 1)) (by omega) hle (2 ^ nS N) FU 0 0 (by omega) (by unfold FU; omega) (by omega) (fun z hz => absurd hz (by omega))
  -- the widest set is among them
  have hge : W (2 ^ nS N - 1) ≤ b' := by
    obtain ⟨s, s1, s2⟩ := mask_of (n := nS N) (by omega) (fun x => decide (∃ i, i < W (2 ^ nS N - 1) ∧ e i = x))
    have hel : ∀ i, i < W (2 ^ nS N - 1) → e i < nS N := fun i hi => by
      have t := tF (e i)
      have t2 : (2 ^ nS N - 1).testBit (e i) = true := hA.1 i hi
      rw [t2] at t
      exact of_decide_eq_true t.symm
    have hs : ∀ x, x < 32 → (bt (nI s) x = true ↔ ∃ i, i < W (2 ^ nS N - 1) ∧ e i = x) := fun x hx => by
      rw [bt_nI hx, s2, Bool.and_eq_true, decide_eq_true_iff, decide_eq_true_iff]
      exact ⟨fun h => h.2, fun ⟨i, i1, i2⟩ => ⟨by rw [← i2]; exact hel i i1, i, i1, i2⟩⟩
    have hul : ul N (nI s) (nS N) = true := (ul_iff p1 (nI s)).mpr fun i j hi hj hij hbi hbj => by
      obtain ⟨i', i1, i2⟩ := (hs i (by omega)).mp hbi
      obtain ⟨j', j1, j2⟩ := (hs j (by omega)).mp hbj
      have hne : i' ≠ j' := fun z => hij (by rw [← i2, z, j2])
      cases ho : one N i j with
      | false => rfl
      | true =>
        rcases lj_of N hij ho with q | q
        · rw [← i2, ← j2] at q; exact absurd q (hA.2 i' j' i1 j1 hne).2
        · rw [← i2, ← j2] at q; exact absurd q (hA.2 j' i' j1 i1 (Ne.symm hne)).2
    have hcnt : W (2 ^ nS N - 1) ≤ pcI (nI s) := by
      unfold pcI
      refine fb_holes _ _ (fun i => fb_ct (fun i => bt (nI s) i) (e i)) (fun i hi => ?_) (fun i j hij hj he => ?_)
      · have hb := (hs (e i) (by have := hel i hi; omega)).mpr ⟨i, hi, rfl⟩
        have e1 := fb_ct_succ (fun i => bt (nI s) i) (e i)
        have e2 := fb_ct_mono (fun i => bt (nI s) i) (show e i + 1 ≤ 10 by have := hel i hi; omega)
        rw [e1, hb, if_pos rfl] at e2
        show fb_ct (fun i => bt (nI s) i) (e i) < _
        omega
      · have hb1 := (hs (e i) (by have := hel i (by omega); omega)).mpr ⟨i, by omega, rfl⟩
        have hb2 := (hs (e j) (by have := hel j (by omega); omega)).mpr ⟨j, by omega, rfl⟩
        exact (hA.2 i j (by omega) hj (by omega)).1 (fb_ct_kth_one (p := fun i => bt (nI s) i) hb1 hb2 he)
    exact Nat.le_trans hcnt (u3 s s1 hul)
  have hbW : b' = W (2 ^ nS N - 1) := by omega
  -- the model
  have hq : QC b M M1 := ⟨by rw [t2.1], fun a _ => by rw [t2.1], fun a _ _ _ _ z8 _ _ _ => t2.2 a z8, fun j _ => by have := sc_b a1.1; rw [t2.2 b (by omega)]⟩
  have hcc : Cached b S M1 := i1.2.2.2.1.mv (by have := sc_b a1.1; rw [t2.2 b (by omega)]) (t2.2 _ (by have := sc_b a1.1; omega)) (t2.2 _ (by have := sc_b a1.1; omega))
  have hm1 : RNm 0 N M1 := p3.mv (fun a h1 h2 => t2.2 a (by omega))
  have hW0 : W 0 = 0 := by
    obtain ⟨e0, c0, x1, x2⟩ := hW 0 (by decide)
    by_cases z : W 0 = 0
    · exact z
    · have this : (0 : Nat).testBit (e0 0) = true := x1.1 0 (by omega)
      rw [show (0 : Nat).testBit (e0 0) = false from Nat.zero_testBit _] at this
      exact absurd this (by decide)
  obtain ⟨M2, v1, v2⟩ := dp_L p1 hW (2 ^ nS N - 1) FU 1 M1 (by omega) (by unfold FU; omega) (by decide) hm1 (fun r hr => by
    obtain rfl : r = 0 := by omega
    rw [t2.2 65 (by decide), show M.1 65 0 = 0 from congrArg Prod.fst k1, hW0]; rfl)
  refine ⟨i32 (W (2 ^ nS N - 1)), M1, M2, ?_, ?_, b, sp, S, N, K0, K1, N0, N1, L, h.q hq hcc v2⟩
  · unfold fX4_joined fX1_fewestPeople fX1_findJoinable
    have t1' : fX1_findJoinable_2L 4 FU 0 M = some M1 := t1
    have u1' : fX1_fewestPeople_8L 4 FU 0 0 M1 = some (i32 b', M1) := u1
    rw [t1']
    simp only [Option.bind_some, Option.bind_none]
    rw [u1', hbW]
    rfl
  · unfold fX5_joined
    rw [show (0 : Int32) = i32 ((0 : Nat) : Int) from rfl, rI_ok (by omega)]
    simp only [Option.bind_some, Option.bind_none]
    rw [show (((0 : Nat) : Int)).toNat = 0 from rfl, hm1.2.1, (pow8 (nS N) h8).1, show (1 : Int32) = i32 1 from rfl, i32_sub, show ((2 ^ nS N : Nat) : Int) - 1 = ((2 ^ nS N - 1 : Nat) : Int) by omega]
    exact v1

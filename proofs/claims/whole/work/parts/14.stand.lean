/-! Who stands where at one second: the class's row of cells and its crowd. -/
theorem sW_ne {M : Mem} {a a' : Nat} {f : Nat → Int32} (h : a' ≠ a) : (sW M a f).1 a' = M.1 a' := if_neg h
theorem Sm.row {b : Nat} {M : Mem} {a : Nat} {f : Nat → Int32} (h : a = b + 4 ∨ a = b + 5) : Sm b M (sW M a f) := by
  refine ⟨rfl, rfl, fun a' q1 q2 q3 => sW_ne (by omega), fun j' _ => ?_⟩
  rw [sW_ne (by omega)]
def onB (S : Sc) (x y t : Int) (p : Nat) : Bool := there S p t && decide (px S p t = x ∧ py S p t = y)
def onS (S : Sc) (x y t : Int) : Int32 := acc (onB S x y t) (cP S)
/-- the scene stands at second t -/
def At (b : Nat) (S : Sc) (t : Int) (M : Mem) : Prop := M.1 b 10 = i32 t ∧ (∀ p, p < cP S → M.1 (b + 4) p = i32 (cellN S p t)) ∧ (∀ x y : Int, sCell S x y = true → M.1 (b + 5) (cW S * y + x).toNat = onS S x y t)
def Cached (b : Nat) (S : Sc) (M : Mem) : Prop := M.1 b 10 = i32 (-9) ∨ ∃ t : Int, (0 ≤ t ∧ t ≤ 1000) ∧ At b S t M
theorem there_cell {S : Sc} {p : Nat} {t : Int} (h : there S p t = true) : sCell S (px S p t) (py S p t) = true := by
  unfold there at h
  simp only [Bool.and_eq_true] at h
  exact h.2.1
theorem cellN_t {S : Sc} {p : Nat} {t : Int} (h : there S p t = true) : cellN S p t = cW S * py S p t + px S p t := by unfold cellN; rw [h]; rfl
theorem cellN_f {S : Sc} {p : Nat} {t : Int} (h : there S p t = false) : cellN S p t = -9 := by unfold cellN; rw [h]; rfl
theorem stand_L {b : Nat} {S : Sc} (hS : okS S) {t : Int} (ht : 0 ≤ t ∧ t ≤ 1000) : ∀ (d n p : Nat) (M : Mem), p + d = cP S → d < n → RC b S M → (∀ q, q < p → M.1 (b + 4) q = i32 (cellN S q t)) → (∀ x y : Int, sCell S x y = true → M.1 (b + 5) (cW S * y + x).toNat = acc (onB S x y t) p) →
    ∃ M', fX2_standAt_19L b n (i32 t) (i32 p) M = some M' ∧ At b S t M' ∧ Sm b M M' := by
  have h8 := hS.2.2.1
  intro d
  induction d with
  | zero =>
    intro n p M hp hn hR hc ho
    obtain ⟨n, rfl⟩ : ∃ m, n = m + 1 := ⟨n - 1, by omega⟩
    refine ⟨sI M b 10 (i32 t), ?_, ⟨sI_at _ _ _ _, ?_, ?_⟩, Sm.f⟩
    · show fX2_standAt_19B _ b (i32 t) (i32 p) M = _
      unfold fX2_standAt_19B
      rw [hR.2.2.1, if_pos ((i32_le (by omega)).mpr (by omega))]
      rfl
    · intro q hq
      rw [sI_ne (by omega)]; exact hc q (by omega)
    · intro x y hxy
      rw [sI_ne (by omega), ho x y hxy, show p = cP S by omega]; rfl
  | succ d ih =>
    intro n p M hp hn hR hc ho
    obtain ⟨n, rfl⟩ : ∃ m, n = m + 1 := ⟨n - 1, by omega⟩
    show ∃ M', fX2_standAt_19B (fX2_standAt_19L b n) b (i32 t) (i32 p) M = some M' ∧ _
    have hpP : p < cP S := by omega
    unfold fX2_standAt_19B
    rw [hR.2.2.1, if_neg (fun q => absurd ((i32_le (by omega)).mp q) (by omega)), cellOf_C hS hR hpP (by omega)]
    simp only [Option.bind_some, Option.bind_none]
    rw [wI_ok (by omega)]
    simp only [Option.bind_some, Option.bind_none]
    rw [rI_ok (by omega), show ((p : Int)).toNat = p by omega, sI_at]
    simp only [Option.bind_some, Option.bind_none]
    have hSm1 : Sm b M (sI M (b + 4) p (i32 (cellN S p t))) := Sm.w (Or.inl rfl)
    have e1 : (p : Int) + 1 = ((p + 1 : Nat) : Int) := by omega
    cases hth : there S p t with
    | false =>
      rw [cellN_f hth] at hSm1 ⊢
      rw [show (0 : Int32) = i32 0 from rfl, if_pos ((i32_lt (by omega)).mpr (by omega))]
      unfold fX2_standAt_65
      simp only [L0, L1, L2, L3, L4, L5, L6, L7, L8, L9, L10, L11, L12, L13, L15, L16, L20, L24, L31, L32, L40, L41, L48, L50, L57, L59, L63, L80, L81, L96, L97, L99, L100, L122, L144, L199, L255, L400, L1681, L68921, L1000000, i32_add, i32_sub, i32_mul, i32_neg, Option.bind_some, Option.bind_none]
      rw [e1]
      obtain ⟨M', g1, g2, g3⟩ := ih n (p + 1) _ (by omega) (by omega) (hR.sm hSm1) (fun q hq => by
        by_cases hqp : q = p
        · subst hqp; rw [sI_at, cellN_f hth]
        · rw [sI_nj hqp]; exact hc q (by omega)) (fun x y hxy => by
        rw [sI_ne (by omega), ho x y hxy, acc_s, if_neg (by unfold onB; rw [hth]; simp), or_0])
      exact ⟨M', g1, g2, hSm1.tr g3⟩
    | true =>
      have hcell := there_cell hth
      have hb := cell_b hS hcell
      rw [cellN_t hth] at hSm1 ⊢
      rw [show (0 : Int32) = i32 0 from rfl, if_neg (fun q => absurd ((i32_lt (by omega)).mp q) (by omega))]
      rw [rI_ok (by omega), sI_ne (by omega), ho _ _ hcell]
      simp only [Option.bind_some, Option.bind_none]
      rw [wI_ok (by omega)]
      simp only [Option.bind_some, Option.bind_none]
      unfold fX2_standAt_65
      simp only [L0, L1, L2, L3, L4, L5, L6, L7, L8, L9, L10, L11, L12, L13, L15, L16, L20, L24, L31, L32, L40, L41, L48, L50, L57, L59, L63, L80, L81, L96, L97, L99, L100, L122, L144, L199, L255, L400, L1681, L68921, L1000000, i32_add, i32_sub, i32_mul, i32_neg, Option.bind_some, Option.bind_none]
      rw [e1]
      have hSm2 := hSm1.tr (Sm.w (b := b) (a := b + 5) (j := (cW S * py S p t + px S p t).toNat) (x := acc (onB S (px S p t) (py S p t) t) p ||| (i32 1 <<< (i32 (p : Int) &&& i32 31))) (Or.inr rfl))
      obtain ⟨M', g1, g2, g3⟩ := ih n (p + 1) _ (by omega) (by omega) (hR.sm hSm2) (fun q hq => by
        rw [sI_ne (by omega)]
        by_cases hqp : q = p
        · subst hqp; rw [sI_at, cellN_t hth]
        · rw [sI_nj hqp]; exact hc q (by omega)) (fun x y hxy => by
        by_cases hx : px S p t = x ∧ py S p t = y
        · obtain ⟨rfl, rfl⟩ := hx
          rw [sI_at, acc_s, if_pos (by unfold onB; rw [hth]; simp)]
          rfl
        · have hne : (cW S * y + x).toNat ≠ (cW S * py S p t + px S p t).toNat := by
            intro q
            have hb2 := cell_b hS hxy
            have := cell_inj (sCell_iff.mp hxy).1 (sCell_iff.mp hcell).1 (show cW S * y + x = cW S * py S p t + px S p t by omega)
            exact hx ⟨this.1.symm, this.2.symm⟩
          rw [sI_nj hne, sI_ne (by omega), ho x y hxy, acc_s, if_neg (by unfold onB; rw [hth]; simp; intro h1 h2; exact hx ⟨h1, h2⟩), or_0])
      exact ⟨M', g1, g2, hSm2.tr g3⟩
theorem standAt_C {b : Nat} {S : Sc} {M : Mem} (hS : okS S) (hR : RC b S M) (hC : Cached b S M) {t : Int} (ht : 0 ≤ t ∧ t ≤ 1000) : ∃ M', fX2_standAt b (i32 t) M = some M' ∧ At b S t M' ∧ Sm b M M' ∧ RC b S M' := by
  unfold fX2_standAt
  by_cases h : i32 t = M.1 b 10
  · rw [if_pos h]
    refine ⟨M, rfl, ?_, Sm.rf, hR⟩
    rcases hC with h9 | ⟨t', h1, h2⟩
    · rw [h9] at h
      exact absurd ((i32_inj (by omega)).mp h) (by omega)
    · have : t = t' := by
        rw [h2.1] at h
        exact (i32_inj (by omega)).mp h
      subst this
      exact h2
  · rw [if_neg h, fill_C (by decide)]
    simp only [Option.bind_some, Option.bind_none]
    have hSm1 : Sm b M (sW M (b + 5) (fun j => if j < 144 then 0 else M.1 (b + 5) j)) := Sm.row (Or.inr rfl)
    obtain ⟨M', g1, g2, g3⟩ := stand_L hS ht (cP S) FU 0 _ (by omega) (by have := hS.2.2.1; unfold FU; omega) (hR.sm hSm1) (fun q hq => absurd hq (Nat.not_lt_zero q)) (fun x y hxy => by
      have hb2 := cell_b hS hxy
      rw [sW_k, if_pos (by omega)]; rfl)
    exact ⟨M', g1, g2, hSm1.tr g3, hR.sm (hSm1.tr g3)⟩
theorem At.cached {b : Nat} {S : Sc} {t : Int} {M : Mem} (ht : 0 ≤ t ∧ t ≤ 1000) (h : At b S t M) : Cached b S M := Or.inr ⟨t, ht, h⟩
theorem peopleOn_C {b : Nat} {S : Sc} {M : Mem} (hS : okS S) (hR : RC b S M) (hC : Cached b S M) {t x y : Int} (ht : 0 ≤ t ∧ t ≤ 1000) (hxy : sCell S x y = true) : ∃ M', fX2_peopleOn b (i32 x) (i32 y) (i32 t) M = some (onS S x y t, M') ∧ At b S t M' ∧ Sm b M M' ∧ RC b S M' := by
  obtain ⟨M', g1, g2, g3, g4⟩ := standAt_C hS hR hC ht
  have hb := cell_b hS hxy
  have hc := sCell_iff.mp hxy
  have := hS.1
  have := hS.2.1
  refine ⟨M', ?_, g2, g3, g4⟩
  unfold fX2_peopleOn
  rw [g1]
  simp only [Option.bind_some, Option.bind_none]
  rw [isCell_C hS g4 (by omega), hxy, g4.1]
  simp only [L0, L1, L2, L3, L4, L5, L6, L7, L8, L9, L10, L11, L12, L13, L15, L16, L20, L24, L31, L32, L40, L41, L48, L50, L57, L59, L63, L80, L81, L96, L97, L99, L100, L122, L144, L199, L255, L400, L1681, L68921, L1000000, i32_add, i32_sub, i32_mul, i32_neg, Option.bind_some, Option.bind_none, ite_bI]
  rw [if_pos trivial, rI_ok (by omega), g2.2.2 x y hxy]
  rfl

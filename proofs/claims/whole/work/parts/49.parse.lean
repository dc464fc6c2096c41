/-! square: how items are read. -/
abbrev Ps : Type := Sum Nat Nat
theorem en_b {t : Nat → Int} {L p : Nat} (hp : p ≤ L) : p ≤ en t L p ∧ en t L p ≤ L ∧ (tk t L p ≠ 10 → tk t L p ≠ 13 → p < en t L p) := by
  have h1 := sT_b t hp
  have h2 := eD_b t (s := sT t L p) h1.2
  have h3 := eL_b t (s := sT t L p) h1.2
  unfold en tk
  by_cases q1 : L ≤ sT t L p
  · rw [if_pos q1, if_pos q1]; exact ⟨h1.1, h1.2, fun h => absurd rfl h⟩
  · rw [if_neg q1, if_neg q1]
    by_cases q2 : t (sT t L p) = 59
    · rw [if_pos q2, if_pos q2]; exact ⟨by omega, by omega, fun _ _ => by omega⟩
    · rw [if_neg q2, if_neg q2]
      obtain ⟨d, hd⟩ : ∃ d, L - sT t L p = d + 1 := ⟨L - sT t L p - 1, by omega⟩
      cases q3 : isDg (t (sT t L p)) with
      | true =>
        rw [if_pos rfl, if_pos rfl]
        have h4 : sT t L p + 1 ≤ eDg t L (sT t L p) := by
          unfold eDg; rw [hd, run_s q3]; exact (run_b d _).1
        exact ⟨by omega, by omega, fun _ _ => by omega⟩
      | false =>
        rw [if_neg (show ¬ false = true by decide), if_neg (show ¬ false = true by decide)]
        cases q4 : isLt (t (sT t L p)) with
        | true =>
          rw [if_pos rfl, if_pos rfl]
          have h4 : sT t L p + 1 ≤ eLt t L (sT t L p) := by
            unfold eLt; rw [hd, run_s q4]; exact (run_b d _).1
          exact ⟨by omega, by omega, fun _ _ => by omega⟩
        | false =>
          rw [if_neg (show ¬ false = true by decide), if_neg (show ¬ false = true by decide)]
          exact ⟨h1.1, h1.2, fun _ h => absurd rfl h⟩
theorem tk_b (t : Nat → Int) (L p : Nat) : 0 ≤ tk t L p ∧ tk t L p ≤ 13 := by
  unfold tk nTk
  have := (wk_n12 (fun i => t (sT t L p + i)) (eLt t L (sT t L p) - sT t L p)).2.2.2
  split
  · decide
  · split
    · decide
    · split
      · split <;> decide
      · split
        · omega
        · decide
theorem vl_b {t : Nat → Int} {L p : Nat} (hp : p ≤ L) : 0 ≤ vl t L p ∧ vl t L p ≤ 100 := by
  have h1 := sT_b t hp
  have h2 := eD_b t (s := sT t L p) h1.2
  exact vC_b _ (fun j q1 q2 => run_in (c := isDg) (L - sT t L p) (sT t L p) j q1 (by
    have : run isDg t (L - sT t L p) (sT t L p) = eDg t L (sT t L p) := rfl
    rw [this]; omega))
def good (t : Nat → Int) (L : Nat) (lo hi : Int) (p : Nat) : Bool := decide (tk t L p = 12) && btw (vl t L p) lo hi
def nl (k : Nat) : Nat := if k = 0 then 2 else if k = 1 then 2 else if k = 2 then 6 else 5
def rlo (k j : Nat) : Int := if k = 0 then 3 else if k = 3 ∧ j = 3 then 1 else 0
def rhi (S : Sc) (k j : Nat) : Int := if k = 0 then 12 else if j = 0 then cW S - 1 else if j = 1 then cH S - 1 else if k = 2 then (if j = 2 then 4 else if j = 5 then 9 else 99) else (if j = 2 then 3 else if j = 3 then 9 else 99)
def rdF (t : Nat → Int) (L : Nat) (S : Sc) (k : Nat) : Nat → Nat → Nat → (Nat → Int) → Ps × (Nat → Int)
  | 0, _, p, w => (.inl p, w)
  | d + 1, j, p, w => if good t L (rlo k j) (rhi S k j) p = true then rdF t L S k d (j + 1) (en t L p) (fun i => if i = j then vl t L p else w i) else (.inr (sT t L p), w)
def addI (S : Sc) (k : Nat) (w : Nat → Int) : Sc := if k = 0 then (w 0, w 1, cWl S, cP S, cPd S, cI S, cQd S) else if k = 1 then (cW S, cH S, fun x y => decide (x = w 0 ∧ y = w 1) || cWl S x y, cP S, cPd S, cI S, cQd S) else if k = 2 then (cW S, cH S, cWl S, cP S + 1, fun p j => if p = cP S then w j else cPd S p j, cI S, cQd S) else (cW S, cH S, cWl S, cP S, cPd S, cI S + 1, fun p j => if p = cI S then w j else cQd S p j)
/-- may this item begin here? -/
def may (S : Sc) (i : Nat) (k : Int) : Bool := btw k 0 3 && (!(decide (k = 2) && decide (8 ≤ cP S)) && (!(decide (k = 3) && decide (10 ≤ cI S)) && !(decide (k = 0) && !decide (i = 0))))
def itm (t : Nat → Int) (L : Nat) (S : Sc) (i p : Nat) : Ps × Sc :=
  if may S i (tk t L p) = true then
    (match rdF t L S (tk t L p).toNat (nl (tk t L p).toNat) 0 (en t L p) (fun _ => 0) with
      | (.inl p', w) => if tk t L p' = 11 then (.inl (en t L p'), addI S (tk t L p).toNat w) else (.inr (sT t L p'), S)
      | (.inr q, _) => (.inr q, S))
  else (.inr (sT t L p), S)
def prs (t : Nat → Int) (L : Nat) : Nat → Nat → Sc → Nat → Int × Option Sc
  | 0, _, _, _ => (-10, none)
  | n + 1, i, S, p => if tk t L p = 10 then ((i : Int), some S) else
      (match itm t L S i p with
        | (.inl p', S') => prs t L n (i + 1) S' p'
        | (.inr q, _) => (-10 - (q : Int), none))
def S0 : Sc := (8, 8, fun _ _ => false, 0, fun _ _ => 0, 0, fun _ _ => 0)
theorem rdF_out {t : Nat → Int} {L : Nat} {S : Sc} {k : Nat} : ∀ (d j p : Nat) (w w' : Nat → Int) (p' : Nat), p ≤ L → rdF t L S k d j p w = (.inl p', w') → (∀ i, i < j → w' i = w i) ∧ (∀ i, j ≤ i → i < j + d → rlo k i ≤ w' i ∧ w' i ≤ rhi S k i) ∧ p ≤ p' ∧ p' ≤ L
  | 0, j, p, w, w', p', hp, h => by
    have h' : (Sum.inl p, w) = (Sum.inl p', w') := h
    injection h' with h1 h2
    injection h1 with h1
    subst h1; subst h2
    exact ⟨fun _ _ => rfl, fun i q1 q2 => absurd q2 (by omega), Nat.le_refl _, hp⟩
  | d + 1, j, p, w, w', p', hp, h => by
    have h' : (if good t L (rlo k j) (rhi S k j) p = true then rdF t L S k d (j + 1) (en t L p) (fun i => if i = j then vl t L p else w i) else (.inr (sT t L p), w)) = (.inl p', w') := h
    by_cases q : good t L (rlo k j) (rhi S k j) p = true
    · rw [if_pos q] at h'
      have hen := en_b (t := t) hp
      obtain ⟨i1, i2, i3, i4⟩ := rdF_out d (j + 1) (en t L p) _ w' p' hen.2.1 h'
      have hg := btw_t ((Bool.and_eq_true _ _).mp q).2
      refine ⟨fun i hi => ?_, fun i q1 q2 => ?_, by omega, i4⟩
      · rw [i1 i (by omega)]; exact if_neg (by omega)
      · by_cases z : i = j
        · rw [i1 i (by omega)]
          show rlo k i ≤ (if i = j then vl t L p else w i) ∧ (if i = j then vl t L p else w i) ≤ rhi S k i
          rw [if_pos z, z]; exact hg
        · exact i2 i (by omega) (by omega)
    · rw [if_neg q] at h'
      injection h' with h1 h2
      injection h1
/-- the rows that reading touches, besides the scene -/
def F3 (M M' : Mem) : Prop := M'.2 = M.2 ∧ (∀ a, a ≠ 1 → a ≠ 3 → M'.1 a = M.1 a) ∧ M'.1 1 2 = M.1 1 2
theorem F3.rf {M : Mem} : F3 M M := ⟨rfl, fun _ _ _ => rfl, rfl⟩
theorem F3.tr {M M1 M2 : Mem} (h : F3 M M1) (k : F3 M1 M2) : F3 M M2 := ⟨k.1.trans h.1, fun a q q' => (k.2.1 a q q').trans (h.2.1 a q q'), k.2.2.trans h.2.2⟩
theorem F1.f3 {M M' : Mem} (h : F1 M M') : F3 M M' := ⟨h.1, fun a q _ => h.2.1 a q, h.2.2⟩
theorem F3.w {M : Mem} {j : Nat} {x : Int32} : F3 M (sI M 3 j x) := ⟨rfl, fun a _ q => sI_ne q, by rw [sI_ne (by decide)]⟩
theorem TxC.f3 {t : Nat → Int} {L : Nat} {M M' : Mem} (h : TxC t L M) (k : F3 M M') : TxC t L M' := ⟨k.2.2.trans h.1, fun j hj => by rw [k.2.1 2 (by decide) (by decide)]; exact h.2 j hj⟩
theorem readN_C {t : Nat → Int} {L : Nat} (hT : okT t L) {p : Nat} (hp : p ≤ L) {M : Mem} (hx : TxC t L M) (h3 : M.1 1 3 = i32 (p : Int)) {lo hi : Int} (hlo : -1000 ≤ lo ∧ lo ≤ 1000) (hhi : -1000 ≤ hi ∧ hi ≤ 1000) : ∃ M', fX3_readNumber (i32 lo) (i32 hi) M = some (i32 (bI (good t L lo hi p)), M') ∧ F1 M M' ∧ Rd t L p M' := by
  obtain ⟨M', g1, g2, g3⟩ := nextT_C hT hp hx h3
  refine ⟨M', ?_, g2, g3⟩
  have hb := tk_b t L p
  have hv := vl_b (t := t) hp
  unfold fX3_readNumber good
  rw [g1]
  simp only [Option.bind_some, Option.bind_none]
  rw [g3.2.1]
  by_cases z : tk t L p = 12
  · rw [if_pos (show i32 (tk t L p) = 12 by rw [z]; rfl), g3.2.2.2 z, isBetween_C (by omega), decide_eq_true z, Bool.true_and]
    simp only [Option.bind_some, Option.bind_none]
    rw [show (0 : Int32) = i32 0 from rfl, ite_bI]
    cases btw (vl t L p) lo hi <;> rfl
  · rw [if_neg (show ¬ i32 (tk t L p) = 12 from fun q => z ((i32_inj (b := 12) (by omega)).mp q)), decide_eq_false z, Bool.false_and]; rfl
theorem rT_lo : ∀ k : Nat, k < 4 → ∀ j : Nat, j < nl k → rT tLE (i32 (6 * (k : Int) + (j : Int))) = some (i32 (rlo k j)) := by decide
theorem rT_no : ∀ k : Nat, k < 4 → rT tNO (i32 (k : Int)) = some (i32 ((nl k : Nat) : Int)) := by decide
theorem rT_hi : ∀ k : Nat, k < 4 → ∀ j : Nat, j < nl k → rT tMO (i32 (6 * (k : Int) + (j : Int))) = some (i32 (if k ≠ 0 ∧ j < 2 then -1 else rhi S0 k j)) := by decide
theorem rhi_S {S : Sc} {k j : Nat} (h : ¬ (k ≠ 0 ∧ j < 2)) : rhi S k j = rhi S0 k j := by
  unfold rhi
  by_cases k0 : k = 0
  · rw [if_pos k0, if_pos k0]
  · have hj : ¬ j < 2 := fun z => h ⟨k0, z⟩
    simp only [if_neg k0, if_neg (show ¬ j = 0 by omega), if_neg (show ¬ j = 1 by omega)]
theorem rhi_b : ∀ k, k < 4 → ∀ j, j < nl k → (0 ≤ rlo k j ∧ rlo k j ≤ 3) ∧ (¬ (k ≠ 0 ∧ j < 2) → 3 ≤ rhi S0 k j ∧ rhi S0 k j ≤ 99) := by decide
theorem nl_6 : ∀ k, k < 4 → nl k ≤ 6 := by decide
theorem rItem_s {b : Nat} {S : Sc} (hS : okS S) {M : Mem} (hR : RC b S M) {k j n : Nat} (hk : k < 4) (hj : j < nl k) : fX3_readItem_35L b (n + 1) (i32 (k : Int)) (i32 (j : Int)) M = (fX3_readNumber (i32 (rlo k j)) (i32 (rhi S k j)) M).bind fun v2 => if v2.1 = 0 then some (0, v2.2) else (wI v2.2 3 6 (i32 (j : Int)) (v2.2.1 1 6)).bind fun M3 => fX3_readItem_35L b n (i32 (k : Int)) (i32 ((j + 1 : Nat) : Int)) M3 := by
  have h6 := nl_6 k hk
  obtain ⟨s1, s2, -⟩ := id hS
  have e84 : ∀ z, fX3_readItem_84 (fX3_readItem_35L b n) b (i32 (k : Int)) (i32 (j : Int)) z M = (fX3_readNumber (i32 (rlo k j)) z M).bind fun v2 => if v2.1 = 0 then some (0, v2.2) else (wI v2.2 3 6 (i32 (j : Int)) (v2.2.1 1 6)).bind fun M3 => fX3_readItem_35L b n (i32 (k : Int)) (i32 ((j + 1 : Nat) : Int)) M3 := fun z => by
    unfold fX3_readItem_84
    rw [show (6 : Int32) = i32 6 from rfl, i32_mul, i32_add, rT_lo k hk j hj, show i32 (j : Int) + 1 = i32 ((j + 1 : Nat) : Int) by rw [show (1 : Int32) = i32 1 from rfl, i32_add]; rfl]
    rfl
  show fX3_readItem_35B (fX3_readItem_35L b n) b _ _ M = _
  unfold fX3_readItem_35B fX3_readItem_80
  rw [rT_no k hk]
  simp only [Option.bind_some, Option.bind_none]
  rw [if_neg (fun z => absurd ((i32_le (by omega)).mp z) (by omega)), show (6 : Int32) = i32 6 from rfl, i32_mul, i32_add, rT_hi k hk j hj]
  simp only [Option.bind_some, Option.bind_none]
  rw [e84, e84, e84, hR.1, hR.2.1]
  by_cases z : k ≠ 0 ∧ j < 2
  · rw [if_pos z, if_pos (by rfl)]
    by_cases j0 : j = 0
    · rw [if_pos (show i32 (j : Int) = 0 by rw [j0]; rfl), show i32 (cW S) - 1 = i32 (rhi S k j) by rw [show (1 : Int32) = i32 1 from rfl, i32_sub]; unfold rhi; rw [if_neg z.1, if_pos j0]]
    · rw [if_neg (show ¬ i32 (j : Int) = 0 from fun q => j0 (by have := (i32_inj (b := 0) (by omega)).mp q; omega)), show i32 (cH S) - 1 = i32 (rhi S k j) by rw [show (1 : Int32) = i32 1 from rfl, i32_sub]; unfold rhi; rw [if_neg z.1, if_neg j0, if_pos (by omega)]]
  · have hb := (rhi_b k hk j hj).2 z
    rw [if_neg z, rhi_S (S := S) z, if_neg (show ¬ i32 (rhi S0 k j) = -1 from fun q => by have := (i32_inj (b := -1) (by omega)).mp q; omega)]
theorem rItem_L {t : Nat → Int} {L : Nat} (hT : okT t L) {b : Nat} (hb : 24 ≤ b) {S : Sc} (hS : okS S) {k : Nat} (hk : k < 4) : ∀ (d n j p : Nat) (w : Nat → Int) (M : Mem), j + d = nl k → d < n → p ≤ L → TxC t L M → RC b S M → M.1 1 3 = i32 (p : Int) → (∀ i, i < j → M.1 3 i = i32 (w i)) → ∃ M', F3 M M' ∧ ((∃ q, (rdF t L S k d j p w).1 = .inr q ∧ fX3_readItem_35L b n (i32 (k : Int)) (i32 (j : Int)) M = some (0, M') ∧ M'.1 1 5 = i32 (q : Int)) ∨ (∃ p' w', rdF t L S k d j p w = (.inl p', w') ∧ fX3_readItem_35L b n (i32 (k : Int)) (i32 (j : Int)) M = (fX3_nextToken M').bind (fun v2 => if v2.1 1 4 = 11 then (fX2_addItem b 3 6 (i32 (k : Int)) v2).bind fun v3 => some (1, v3) else some (0, v2)) ∧ M'.1 1 3 = i32 (p' : Int) ∧ ∀ i, i < nl k → M'.1 3 i = i32 (w' i))) := by
  have h6 := nl_6 k hk
  obtain ⟨s1, s2, -⟩ := id hS
  intro d
  induction d with
  | zero =>
    intro n j p w M h1 h2 hp hx hR h3 hw
    obtain ⟨n, rfl⟩ : ∃ m, n = m + 1 := ⟨n - 1, by omega⟩
    obtain rfl : j = nl k := by omega
    refine ⟨M, F3.rf, Or.inr ⟨p, w, rfl, ?_, h3, hw⟩⟩
    show fX3_readItem_35B (fX3_readItem_35L b n) b _ _ M = _
    unfold fX3_readItem_35B
    rw [rT_no k hk]
    simp only [Option.bind_some, Option.bind_none]
    rw [if_pos ((i32_le (by omega)).mpr (by omega))]
  | succ d ih =>
    intro n j p w M h1 h2 hp hx hR h3 hw
    obtain ⟨n, rfl⟩ : ∃ m, n = m + 1 := ⟨n - 1, by omega⟩
    have hj : j < nl k := by omega
    have hlo := (rhi_b k hk j hj).1
    have hhi : -1000 ≤ rhi S k j ∧ rhi S k j ≤ 1000 := by
      by_cases z : k ≠ 0 ∧ j < 2
      · unfold rhi; rw [if_neg z.1]
        by_cases j0 : j = 0
        · rw [if_pos j0]; omega
        · rw [if_neg j0, if_pos (by omega)]; omega
      · have := (rhi_b k hk j hj).2 z
        rw [rhi_S (S := S) z]; omega
    obtain ⟨M1, k1, k2, k3⟩ := readN_C hT hp hx h3 (lo := rlo k j) (hi := rhi S k j) (by omega) hhi
    have hen := en_b (t := t) hp
    rw [rItem_s hS hR hk hj, k1]
    simp only [Option.bind_some, Option.bind_none]
    show ∃ M', F3 M M' ∧ ((∃ q, (if good t L (rlo k j) (rhi S k j) p = true then rdF t L S k d (j + 1) (en t L p) (fun i => if i = j then vl t L p else w i) else (Sum.inr (sT t L p), w)).1 = .inr q ∧ _) ∨ (∃ p' w', (if good t L (rlo k j) (rhi S k j) p = true then rdF t L S k d (j + 1) (en t L p) (fun i => if i = j then vl t L p else w i) else (Sum.inr (sT t L p), w)) = (.inl p', w') ∧ _))
    cases hg : good t L (rlo k j) (rhi S k j) p with
    | false =>
      rw [if_neg (by decide), if_pos (by decide)]
      exact ⟨M1, k2.f3, Or.inl ⟨sT t L p, rfl, rfl, k3.2.2.1⟩⟩
    | true =>
      have h12 : tk t L p = 12 := of_decide_eq_true ((Bool.and_eq_true _ _).mp hg).1
      rw [if_pos rfl, if_neg (by decide), k3.2.2.2 h12, wI_ok (by omega), show ((j : Int)).toNat = j by omega]
      simp only [Option.bind_some, Option.bind_none]
      have f3 : F3 M (sI M1 3 j (i32 (vl t L p))) := k2.f3.tr F3.w
      have hR1 : RC b S (sI M1 3 j (i32 (vl t L p))) := by
        unfold RC at *
        rw [f3.2.1 b (by omega) (by omega), f3.2.1 (b + 1) (by omega) (by omega), f3.2.1 (b + 2) (by omega) (by omega), f3.2.1 (b + 3) (by omega) (by omega)]
        exact hR
      obtain ⟨M', g1, g2⟩ := ih n (j + 1) (en t L p) (fun i => if i = j then vl t L p else w i) (sI M1 3 j (i32 (vl t L p))) (by omega) (by omega) hen.2.1 (hx.f3 f3) hR1 (by rw [sI_ne (by decide)]; exact k3.1) (fun i hi => by
        by_cases z : i = j
        · rw [z, sI_at]; show _ = i32 (if j = j then vl t L p else w j); rw [if_pos rfl]
        · rw [sI_nj z, k2.2.1 3 (by decide), hw i (by omega)]; show _ = i32 (if i = j then vl t L p else w i); rw [if_neg z])
      exact ⟨M', f3.tr g1, g2⟩

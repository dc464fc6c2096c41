/-! square: the model reads. -/
def St (t : Nat → Int) (L : Nat) (ps : Ps) (M : Mem) : Prop := match ps with
  | .inl p => p ≤ L ∧ M.1 42 14 = i32 (-9) ∧ Rm t L p M
  | .inr q => q ≤ 400 ∧ M.1 42 14 = i32 (q : Int)
def X (t : Nat → Int) (L : Nat) (ps : Ps) (M : Mem) : Prop := TxM t L M ∧ St t L ps M
def Fdu (M M' : Mem) : Prop := M'.2 = M.2 ∧ (∀ a, a ≠ 42 → M'.1 a = M.1 a) ∧ ∀ j, (j < 10 ∨ 14 < j) → M'.1 42 j = M.1 42 j
theorem Fdu.rf {M : Mem} : Fdu M M := ⟨rfl, fun _ _ => rfl, fun _ _ => rfl⟩
theorem Fdu.tr {M M1 M2 : Mem} (h : Fdu M M1) (k : Fdu M1 M2) : Fdu M M2 := ⟨k.1.trans h.1, fun a q => (k.2.1 a q).trans (h.2.1 a q), fun j q => (k.2.2 j q).trans (h.2.2 j q)⟩
theorem F2.fd {M M' : Mem} (h : F2 M M') : Fdu M M' := ⟨h.1, h.2.1, fun j q => h.2.2 j (by omega)⟩
theorem X.o {t : Nat → Int} {L : Nat} {ps : Ps} {M : Mem} (h : X t L ps M) {a j : Nat} {x : Int32} (ha : a ≠ 42 ∧ a ≠ 43) : X t L ps (sI M a j x) := by
  obtain ⟨⟨h1, h2⟩, h3⟩ := h
  refine ⟨⟨by rw [sI_ne (Ne.symm ha.1)]; exact h1, fun k hk => by rw [sI_ne (Ne.symm ha.2)]; exact h2 k hk⟩, ?_⟩
  cases ps with
  | inl p =>
    obtain ⟨g1, g2, g3⟩ := h3
    refine ⟨g1, by rw [sI_ne (Ne.symm ha.1)]; exact g2, ?_⟩
    unfold Rm at *
    rw [sI_ne (Ne.symm ha.1)]; exact g3
  | inr q => exact ⟨h3.1, by rw [sI_ne (Ne.symm ha.1)]; exact h3.2⟩
def nm (t : Nat → Int) (L : Nat) (lo hi : Int) : Ps → Ps
  | .inl p => if good t L lo hi p = true then .inl (en t L p) else .inr (sT t L p)
  | .inr q => .inr q
def stp (t : Nat → Int) (L : Nat) : Ps → Ps
  | .inl p => if tk t L p = 11 then .inl (en t L p) else .inr (sT t L p)
  | .inr q => .inr q
theorem due_t {t : Nat → Int} {L : Nat} (hT : okT t L) {p : Nat} {M : Mem} (h : X t L (.inl p) M) (h13 : tk t L p ≠ 13) {x : Int32} (hx : x ≠ 0) : ∃ M', fX5_due x M = some (M.1 42 13, M') ∧ Fdu M M' ∧ X t L (.inl (en t L p)) M' := by
  obtain ⟨h1, h2, h3, h4⟩ := h
  have hen := en_b (t := t) h2
  obtain ⟨M', g1, g2, g3⟩ := next_M hT hen.2.1 h1 (h4.1 h13)
  refine ⟨M', ?_, g2.fd, h1.f2 g2, hen.2.1, by rw [g2.2.2 14 (by decide)]; exact h3, g3⟩
  unfold fX5_due
  rw [if_pos (show M.1 42 14 = -9 from h3), if_neg hx, g1]
  rfl
theorem due_f {t : Nat → Int} {L : Nat} (hT : okT t L) {p : Nat} {M : Mem} (h : X t L (.inl p) M) : ∃ M', fX5_due 0 M = some (M.1 42 13, M') ∧ Fdu M M' ∧ X t L (.inr (sT t L p)) M' := by
  obtain ⟨h1, h2, h3, h4⟩ := h
  have hs := sT_b t h2
  have h400 := hT.1
  refine ⟨sI M 42 14 (i32 ((sT t L p : Nat) : Int)), ?_, ⟨rfl, fun a q => sI_ne q, fun j q => sI_nj (by omega)⟩, ⟨by rw [sI_nj (by decide)]; exact h1.1, fun j hj => by rw [sI_ne (by decide)]; exact h1.2 j hj⟩, by omega, sI_at _ _ _ _⟩
  unfold fX5_due wF
  rw [if_pos (show M.1 42 14 = -9 from h3), if_pos rfl, h4.2.2.1]
  rfl
theorem due_r {t : Nat → Int} {L : Nat} {q : Nat} {M : Mem} (h : X t L (.inr q) M) (x : Int32) : fX5_due x M = some (M.1 42 13, M) := by
  obtain ⟨h1, h2, h3⟩ := h
  unfold fX5_due
  rw [if_neg (show ¬ M.1 42 14 = -9 from fun z => by rw [h3] at z; have := (i32_inj (b := -9) (by omega)).mp z; omega)]
theorem in_any (x : Int32) {lo hi : Int} (hlo : -1000 ≤ lo ∧ lo ≤ 1000) (hhi : -1000 ≤ hi ∧ hi ≤ 1000) : ∃ c : Bool, fX5_in x (i32 lo) (i32 hi) = some (i32 (bI c)) := by
  obtain ⟨z, hz, rfl⟩ := i32_ex x
  exact ⟨_, in_M (by omega)⟩
theorem tk_c (t : Nat → Int) (L p : Nat) : (0 ≤ tk t L p ∧ tk t L p ≤ 3) ∨ (10 ≤ tk t L p ∧ tk t L p ≤ 13) := by
  have hw := (wk_n12 (fun i => t (sT t L p + i)) (eLt t L (sT t L p) - sT t L p)).2.2.2
  unfold tk nTk
  split
  · omega
  · split
    · omega
    · split
      · split <;> omega
      · split
        · omega
        · omega
theorem mt_c {k : Int} (h : (0 ≤ k ∧ k ≤ 3) ∨ (10 ≤ k ∧ k ≤ 13)) : (0 ≤ k ∧ k ≤ 3 ∧ mt k = k) ∨ (k = 10 ∧ mt k = 4) ∨ (k = 12 ∧ mt k = 5) ∨ (k = 11 ∧ mt k = 6) ∨ (k = 13 ∧ mt k = 7) := by
  unfold mt
  by_cases k0 : k = 10
  · rw [if_pos k0]; omega
  · rw [if_neg k0]
    by_cases k1 : k = 12
    · rw [if_pos k1]; omega
    · rw [if_neg k1]
      by_cases k2 : k = 11
      · rw [if_pos k2]; omega
      · rw [if_neg k2]
        by_cases k3 : k = 13
        · rw [if_pos k3]; omega
        · rw [if_neg k3]; omega
theorem number_M {t : Nat → Int} {L : Nat} (hT : okT t L) {ps : Ps} {M : Mem} (h : X t L ps M) {lo hi : Int} (hlo : -1000 ≤ lo ∧ lo ≤ 1000) (hhi : -1000 ≤ hi ∧ hi ≤ 1000) : ∃ v M', fX5_number (i32 lo) (i32 hi) M = some (v, M') ∧ Fdu M M' ∧ X t L (nm t L lo hi ps) M' ∧ ∀ p, ps = .inl p → good t L lo hi p = true → v = i32 (vl t L p) := by
  cases ps with
  | inr q =>
    refine ⟨M.1 42 13, M, ?_, Fdu.rf, h, fun p hp => by injection hp⟩
    unfold fX5_number fX5_number_25 fX5_number_26
    obtain ⟨c, hc⟩ := in_any (M.1 42 13) hlo hhi
    rw [hc, due_r h, due_r h]
    simp only [Option.bind_some, Option.bind_none]
    split
    · split <;> rfl
    · rfl
  | inl p =>
    obtain ⟨h1, h2, h3, h4⟩ := id h
    have hb := tk_b t L p
    have hv := vl_b (t := t) h2
    obtain ⟨Mf, f1, f2, f3⟩ := due_f hT h
    have bad : good t L lo hi p = false → fX5_number (i32 lo) (i32 hi) M = some (M.1 42 13, Mf) → ∃ v M', fX5_number (i32 lo) (i32 hi) M = some (v, M') ∧ Fdu M M' ∧ X t L (nm t L lo hi (.inl p)) M' ∧ ∀ p', Sum.inl p = (Sum.inl p' : Ps) → good t L lo hi p' = true → v = i32 (vl t L p') := by
      intro hg e
      refine ⟨M.1 42 13, Mf, e, f2, ?_, fun p' hp' hg' => ?_⟩
      · show X t L (if good t L lo hi p = true then .inl (en t L p) else .inr (sT t L p)) Mf
        rw [hg, if_neg (by decide)]; exact f3
      · injection hp' with hp'
        rw [← hp', hg] at hg'; exact absurd hg' (by decide)
    by_cases z : tk t L p = 12
    · have hmt : M.1 42 12 = 5 := by rw [h4.2.1, z]; rfl
      have hval := h4.2.2.2 z
      have e0 : fX5_number (i32 lo) (i32 hi) M = if btw (vl t L p) lo hi = true then (fX5_due 1 M).bind fun v1 => some (v1.1, v1.2) else (fX5_due 0 M).bind fun v1 => some (v1.1, v1.2) := by
        unfold fX5_number fX5_number_25 fX5_number_26
        rw [if_pos hmt, hval, in_M (by omega)]
        simp only [Option.bind_some, Option.bind_none]
        rw [show (0 : Int32) = i32 0 from rfl, ite_bI]
      have hgd : good t L lo hi p = btw (vl t L p) lo hi := by unfold good; rw [decide_eq_true z, Bool.true_and]
      cases hg : btw (vl t L p) lo hi with
      | false =>
        refine bad (by rw [hgd]; exact hg) ?_
        rw [e0, hg, if_neg (by decide), f1]; rfl
      | true =>
        obtain ⟨Mt, g1, g2, g3⟩ := due_t hT h (by omega) (x := 1) (by decide)
        refine ⟨M.1 42 13, Mt, ?_, g2, ?_, fun p' hp' _ => ?_⟩
        · rw [e0, hg, if_pos rfl, g1]; rfl
        · show X t L (if good t L lo hi p = true then .inl (en t L p) else .inr (sT t L p)) Mt
          rw [hgd, hg, if_pos rfl]; exact g3
        · injection hp' with hp'
          rw [← hp', hval]
    · have hmt : ¬ M.1 42 12 = 5 := by
        rw [h4.2.1]
        intro q
        have hmc := mt_c (tk_c t L p)
        have q' := (i32_inj (b := 5) (by omega)).mp q
        omega
      refine bad (by unfold good; rw [decide_eq_false z, Bool.false_and]) ?_
      unfold fX5_number fX5_number_25 fX5_number_26
      rw [if_neg hmt, f1]; rfl
theorem stop_M {t : Nat → Int} {L : Nat} (hT : okT t L) {ps : Ps} {M : Mem} (h : X t L ps M) : ∃ M', fX5_item_377 M = some M' ∧ Fdu M M' ∧ X t L (stp t L ps) M' := by
  unfold fX5_item_377 fX5_item_392
  cases ps with
  | inr q =>
    refine ⟨M, ?_, Fdu.rf, h⟩
    rw [due_r h, due_r h]
    simp only [Option.bind_some, Option.bind_none]
    split <;> rfl
  | inl p =>
    obtain ⟨h1, h2, h3, h4⟩ := id h
    have hc := tk_c t L p
    have hm := mt_c hc
    rw [h4.2.1]
    by_cases z : tk t L p = 11
    · rw [if_pos (show i32 (mt (tk t L p)) = 6 by rw [z]; rfl)]
      obtain ⟨Mt, g1, g2, g3⟩ := due_t hT h (by omega) (x := 1) (by decide)
      refine ⟨Mt, by rw [g1]; rfl, g2, ?_⟩
      show X t L (if tk t L p = 11 then .inl (en t L p) else .inr (sT t L p)) Mt
      rw [if_pos z]; exact g3
    · rw [if_neg (show ¬ i32 (mt (tk t L p)) = 6 from fun q => by have := (i32_inj (b := 6) (by omega)).mp q; omega)]
      obtain ⟨Mf, f1, f2, f3⟩ := due_f hT h
      refine ⟨Mf, by rw [f1]; rfl, f2, ?_⟩
      show X t L (if tk t L p = 11 then .inl (en t L p) else .inr (sT t L p)) Mf
      rw [if_neg z]; exact f3
/-- the numbers of an item, one after another -/
def psq (t : Nat → Int) (L : Nat) (S : Sc) (k p : Nat) : Nat → Ps
  | 0 => .inl p
  | j + 1 => nm t L (rlo k j) (rhi S k j) (psq t L S k p j)
theorem psq_r {t : Nat → Int} {L : Nat} {S : Sc} {k p j q : Nat} (h : psq t L S k p j = .inr q) : ∀ d, psq t L S k p (j + d) = .inr q
  | 0 => h
  | d + 1 => by
    show nm t L (rlo k (j + d)) (rhi S k (j + d)) (psq t L S k p (j + d)) = _
    rw [psq_r h d]; rfl
theorem psq_rd {t : Nat → Int} {L : Nat} {S : Sc} {k p0 : Nat} {v : Nat → Int32} {n0 : Nat} (hv : ∀ j p, j < n0 → psq t L S k p0 j = .inl p → good t L (rlo k j) (rhi S k j) p = true → v j = i32 (vl t L p)) : ∀ (d j p : Nat) (w : Nat → Int), j + d ≤ n0 → psq t L S k p0 j = .inl p → (∀ i, i < j → v i = i32 (w i)) → ((∃ q w', rdF t L S k d j p w = (.inr q, w') ∧ psq t L S k p0 (j + d) = .inr q) ∨ (∃ p' w', rdF t L S k d j p w = (.inl p', w') ∧ psq t L S k p0 (j + d) = .inl p' ∧ ∀ i, i < j + d → v i = i32 (w' i)))
  | 0, j, p, w, _, h, hw => Or.inr ⟨p, w, rfl, h, hw⟩
  | d + 1, j, p, w, hn, h, hw => by
    have e : rdF t L S k (d + 1) j p w = if good t L (rlo k j) (rhi S k j) p = true then rdF t L S k d (j + 1) (en t L p) (fun i => if i = j then vl t L p else w i) else (.inr (sT t L p), w) := rfl
    have es : psq t L S k p0 (j + 1) = if good t L (rlo k j) (rhi S k j) p = true then .inl (en t L p) else .inr (sT t L p) := by
      show nm t L (rlo k j) (rhi S k j) (psq t L S k p0 j) = _
      rw [h]; rfl
    rw [e, show j + (d + 1) = j + 1 + d by omega]
    by_cases g : good t L (rlo k j) (rhi S k j) p = true
    · rw [if_pos g]
      rw [if_pos g] at es
      refine psq_rd hv d (j + 1) (en t L p) _ (by omega) es (fun i hi => ?_)
      show v i = i32 (if i = j then vl t L p else w i)
      by_cases z : i = j
      · rw [if_pos z, z]; exact hv j p (by omega) h g
      · rw [if_neg z]; exact hw i (by omega)
    · rw [if_neg g]
      rw [if_neg g] at es
      exact Or.inl ⟨sT t L p, w, rfl, psq_r es d⟩

/-! The notes, the text, the invariant. -/
abbrev Nt : Type := Nat × (Nat → Nat → Int) × Nat × (Nat → Nat → Int) × (Nat → Int)
def nF (N : Nt) : Nat := N.1
def nFd (N : Nt) : Nat → Nat → Int := N.2.1
def nS (N : Nt) : Nat := N.2.2.1
def nSd (N : Nt) : Nat → Nat → Int := N.2.2.2.1
def nH (N : Nt) : Nat → Int := N.2.2.2.2
def okN (N : Nt) : Prop := nF N ≤ 20 ∧ (∀ f, f < nF N → ((0 ≤ nFd N f 0 ∧ nFd N f 0 ≤ 3) ∧ (0 ≤ nFd N f 1 ∧ nFd N f 1 ≤ 99) ∧ (0 ≤ nFd N f 2 ∧ nFd N f 2 ≤ 3) ∧ (0 ≤ nFd N f 3 ∧ nFd N f 3 ≤ 99) ∧ nFd N f 0 ≠ nFd N f 2)) ∧
  nS N ≤ 8 ∧ (∀ s, s < nS N → ((0 ≤ nSd N s 0 ∧ nSd N s 0 ≤ 11) ∧ (0 ≤ nSd N s 1 ∧ nSd N s 1 ≤ 11) ∧ (0 ≤ nSd N s 2 ∧ nSd N s 2 ≤ 99) ∧ (0 ≤ nSd N s 3 ∧ nSd N s 3 ≤ 9))) ∧ (∀ i, i < 10 → 0 ≤ nH N i ∧ nH N i ≤ 2)
def RNc (c : Nat) (N : Nt) (M : Mem) : Prop := M.1 c 4 = i32 (nF N) ∧ M.1 c 5 = i32 (nS N) ∧ (∀ f j, f < nF N → j < 4 → M.1 (c + 1) (4 * f + j) = i32 (nFd N f j)) ∧ (∀ s j, s < nS N → j < 4 → M.1 (c + 2) (4 * s + j) = i32 (nSd N s j)) ∧ (∀ i, i < 10 → M.1 (c + 3) i = i32 (nH N i))
def RNm (k : Nat) (N : Nt) (M : Mem) : Prop := M.1 51 k = i32 (nF N) ∧ M.1 56 k = i32 (nS N) ∧ (∀ f j, f < nF N → j < 4 → M.1 (52 + j) (20 * k + f) = i32 (nFd N f j)) ∧ (∀ s j, s < nS N → j < 4 → M.1 (57 + j) (8 * k + s) = i32 (nSd N s j)) ∧ (∀ i, i < 10 → M.1 61 (10 * k + i) = i32 (nH N i))
def Im (k : Nat) (K : Bool) (N : Nt) (M : Mem) : Prop := M.1 20 k = i32 (bI K) ∧ M.1 62 k = i32 (bI K) ∧ (K = true → okN N ∧ RNc (10 + 5 * k) N M ∧ RNm (1 + k) N M)
def isBy (x : Int32) : Prop := ∃ z : Int, (-128 ≤ z ∧ z ≤ 127) ∧ x = i32 z
def Tx (L : Nat) (M : Mem) : Prop := L ≤ 400 ∧ M.1 1 2 = i32 L ∧ M.1 42 2 = i32 L ∧ ∀ j, j < L → M.1 2 j = M.1 43 j ∧ isBy (M.1 2 j)
def wc (S : Sc) : Nat := fb_ct (fun k => cWl S ((k % 12 : Nat) : Int) ((k / 12 : Nat) : Int)) 144
def IV (b sp : Nat) (S : Sc) (N : Nt) (K0 K1 : Bool) (N0 N1 : Nt) (L : Nat) (M : Mem) : Prop :=
  (isSc b ∧ isSc sp ∧ b ≠ sp ∧ M.2.2 0 5 = b ∧ M.2.2 0 6 = sp) ∧ IC b S M ∧ M.1 b 5 = i32 (wc S) ∧ RM S M ∧ (okN N ∧ RNc 4 N M ∧ RNm 0 N M) ∧ Im 0 K0 N0 M ∧ Im 1 K1 N1 M ∧ Tx L M ∧ M.2.1 0 7 = M.2.1 42 0 ∧ (M.1 65 0, M.1 63 0) = ((0 : Int32), (0 : Int32))
def Inv (M : Mem) : Prop := ∃ (b sp : Nat) (S : Sc) (N : Nt) (K0 K1 : Bool) (N0 N1 : Nt) (L : Nat), IV b sp S N K0 K1 N0 N1 L M
theorem RNc.mv {c : Nat} {N : Nt} {M M' : Mem} (h : RNc c N M) (e4 : M'.1 c 4 = M.1 c 4) (e5 : M'.1 c 5 = M.1 c 5) (r1 : M'.1 (c + 1) = M.1 (c + 1)) (r2 : M'.1 (c + 2) = M.1 (c + 2)) (r3 : M'.1 (c + 3) = M.1 (c + 3)) : RNc c N M' := by
  unfold RNc at *
  rw [e4, e5, r1, r2, r3]
  exact h
theorem RNm.mv {k : Nat} {N : Nt} {M M' : Mem} (h : RNm k N M) (r : ∀ a, 51 ≤ a → a ≤ 61 → M'.1 a = M.1 a) : RNm k N M' := by
  obtain ⟨h1, h2, h3, h4, h5⟩ := h
  refine ⟨by rw [r 51 (by decide) (by decide)]; exact h1, by rw [r 56 (by decide) (by decide)]; exact h2, fun f j q1 q2 => ?_, fun s j q1 q2 => ?_, fun i q => ?_⟩
  · rw [r (52 + j) (by omega) (by omega)]; exact h3 f j q1 q2
  · rw [r (57 + j) (by omega) (by omega)]; exact h4 s j q1 q2
  · rw [r 61 (by decide) (by decide)]; exact h5 i q
theorem Im.mv {k : Nat} (hk : k ≤ 1) {K : Bool} {N : Nt} {M M' : Mem} (h : Im k K N M) (r : ∀ a, (10 ≤ a ∧ a ≤ 20) ∨ (51 ≤ a ∧ a ≤ 62) → M'.1 a = M.1 a) : Im k K N M' := by
  obtain ⟨h1, h2, h3⟩ := h
  refine ⟨by rw [r 20 (by decide)]; exact h1, by rw [r 62 (by decide)]; exact h2, fun q => ?_⟩
  obtain ⟨g1, g2, g3⟩ := h3 q
  exact ⟨g1, g2.mv (by rw [r _ (by omega)]) (by rw [r _ (by omega)]) (r _ (by omega)) (r _ (by omega)) (r _ (by omega)), g3.mv (fun a a1 a2 => r a (by omega))⟩
theorem Tx.mv {L : Nat} {M M' : Mem} (h : Tx L M) (e1 : M'.1 1 2 = M.1 1 2) (e2 : M'.1 42 2 = M.1 42 2) (r2 : M'.1 2 = M.1 2) (r3 : M'.1 43 = M.1 43) : Tx L M' := by
  unfold Tx at *
  rw [e1, e2, r2, r3]
  exact h
theorem RM.mv {S : Sc} {M M' : Mem} (h : RM S M) (r : ∀ a, 44 ≤ a → a ≤ 50 → M'.1 a = M.1 a) : RM S M' := by
  unfold RM at *
  rw [r 44 (by decide) (by decide), r 45 (by decide) (by decide), r 46 (by decide) (by decide), r 47 (by decide) (by decide), r 48 (by decide) (by decide), r 49 (by decide) (by decide), r 50 (by decide) (by decide)]
  exact h
theorem Cached.mv {b : Nat} {S : Sc} {M M' : Mem} (h : Cached b S M) (e : M'.1 b 10 = M.1 b 10) (r4 : M'.1 (b + 4) = M.1 (b + 4)) (r5 : M'.1 (b + 5) = M.1 (b + 5)) : Cached b S M' := by
  unfold Cached At at *
  rw [e, r4, r5]
  exact h
theorem IC.mv {b : Nat} {S : Sc} {M M' : Mem} (h : IC b S M) (r : ∀ a, b ≤ a → a ≤ b + 6 → M'.1 a = M.1 a) : IC b S M' := by
  obtain ⟨h1, h2, h3, h4, h5⟩ := h
  refine ⟨h1, h2, ?_, h4.mv (by rw [r b (by omega) (by omega)]) (r _ (by omega) (by omega)) (r _ (by omega) (by omega)), fun i hi => by rw [r (b + 6) (by omega) (by omega)]; exact h5 i hi⟩
  unfold RC at *
  rw [r b (by omega) (by omega), r (b + 1) (by omega) (by omega), r (b + 2) (by omega) (by omega), r (b + 3) (by omega) (by omega)]
  exact h3
/-- asking calls keep the invariant -/
theorem IV.q {b sp : Nat} {S : Sc} {N : Nt} {K0 K1 : Bool} {N0 N1 : Nt} {L : Nat} {M M1 M2 : Mem} (h : IV b sp S N K0 K1 N0 N1 L M) (hq : QC b M M1) (hc : Cached b S M1) (hv : Vm M1 M2) : IV b sp S N K0 K1 N0 N1 L M2 := by
  obtain ⟨⟨a1, a2, a3, a4, a5⟩, ⟨i1, i2, i3, i4, i5⟩, c1, d1, ⟨e1, e2, e3⟩, f1, g1, h1, j1, k1⟩ := h
  have hb := sc_b a1
  obtain ⟨q1, q2, q3, q4⟩ := id hq
  obtain ⟨v1, v2, v3, v4⟩ := hv
  -- rows that neither touches
  have R : ∀ a, a ≠ b → a ≠ b + 4 → a ≠ b + 5 → a ≠ b + 7 → a ≠ 8 → a ≠ 21 → a ≠ 22 → a ≠ 23 → a ≠ 42 → a ≠ 63 → a ≠ 64 → a ≠ 65 → a ≠ 66 → a ≠ 67 → M2.1 a = M.1 a := fun a z1 z2 z3 z4 z5 z6 z7 z8 z9 z10 z11 z12 z13 z14 => (v2 a z9 z10 z11 z12 z13 z14).trans (q3 a z1 z2 z3 z4 z5 z6 z7 z8)
  have Rb : ∀ a, b ≤ a → a ≤ b + 8 → M2.1 a = M1.1 a := fun a z1 z2 => v2 a (by omega) (by omega) (by omega) (by omega) (by omega) (by omega)
  have hb33 : b = 24 ∨ b = 33 := a1
  refine ⟨⟨a1, a2, a3, ?_, ?_⟩, ⟨i1, i2, ?_, hc.mv (by rw [Rb b (by omega) (by omega)]) (Rb _ (by omega) (by omega)) (Rb _ (by omega) (by omega)), fun i hi => ?_⟩, ?_, d1.mv (fun a z1 z2 => R a (by omega) (by omega) (by omega) (by omega) (by omega) (by omega) (by omega) (by omega) (by omega) (by omega) (by omega) (by omega) (by omega) (by omega)), ⟨e1, ?_, e3.mv (fun a z1 z2 => R a (by omega) (by omega) (by omega) (by omega) (by omega) (by omega) (by omega) (by omega) (by omega) (by omega) (by omega) (by omega) (by omega) (by omega))⟩, ?_, ?_, ?_, ?_, ?_⟩
  · rw [v1, q1]; exact a4
  · rw [v1, q1]; exact a5
  · have r1 := i3.qc a1 hq
    unfold RC at *
    rw [Rb b (by omega) (by omega), Rb (b + 1) (by omega) (by omega), Rb (b + 2) (by omega) (by omega), Rb (b + 3) (by omega) (by omega)]
    exact r1
  · rw [Rb (b + 6) (by omega) (by omega), q3 (b + 6) (by omega) (by omega) (by omega) (by omega) (by omega) (by omega) (by omega) (by omega)]; exact i5 i hi
  · rw [Rb b (by omega) (by omega), q4 5 (by decide)]; exact c1
  · have r : ∀ a, 4 ≤ a → a ≤ 7 → M2.1 a = M.1 a := fun a z1 z2 => R a (by omega) (by omega) (by omega) (by omega) (by omega) (by omega) (by omega) (by omega) (by omega) (by omega) (by omega) (by omega) (by omega) (by omega)
    exact e2.mv (by rw [r 4 (by decide) (by decide)]) (by rw [r 4 (by decide) (by decide)]) (r 5 (by decide) (by decide)) (r 6 (by decide) (by decide)) (r 7 (by decide) (by decide))
  · exact f1.mv (by decide) (fun a z => R a (by omega) (by omega) (by omega) (by omega) (by omega) (by omega) (by omega) (by omega) (by omega) (by omega) (by omega) (by omega) (by omega) (by omega))
  · exact g1.mv (by decide) (fun a z => R a (by omega) (by omega) (by omega) (by omega) (by omega) (by omega) (by omega) (by omega) (by omega) (by omega) (by omega) (by omega) (by omega) (by omega))
  · refine h1.mv ?_ ?_ ?_ ?_
    · rw [R 1 (by omega) (by omega) (by omega) (by omega) (by omega) (by omega) (by omega) (by omega) (by omega) (by omega) (by omega) (by omega) (by omega) (by omega)]
    · rw [v3 2 (by decide) (by decide), q3 42 (by omega) (by omega) (by omega) (by omega) (by omega) (by omega) (by omega) (by omega)]
    · exact R 2 (by omega) (by omega) (by omega) (by omega) (by omega) (by omega) (by omega) (by omega) (by omega) (by omega) (by omega) (by omega) (by omega) (by omega)
    · exact R 43 (by omega) (by omega) (by omega) (by omega) (by omega) (by omega) (by omega) (by omega) (by omega) (by omega) (by omega) (by omega) (by omega) (by omega)
  · rw [v1, q2 0 (by omega), q2 42 (by omega)]; exact j1
  · rw [v4, q3 65 (by omega) (by omega) (by omega) (by omega) (by omega) (by omega) (by omega) (by omega), q3 63 (by omega) (by omega) (by omega) (by omega) (by omega) (by omega) (by omega) (by omega)]; exact k1
theorem IV.rm {b sp : Nat} {S : Sc} {N : Nt} {K0 K1 : Bool} {N0 N1 : Nt} {L : Nat} {M M1 : Mem} (h : IV b sp S N K0 K1 N0 N1 L M) (hq : QC b M M1) : RM S M1 := by
  obtain ⟨⟨a1, a2, a3, a4, a5⟩, -, -, d1, -⟩ := h
  have hb := sc_b a1
  have hb33 : b = 24 ∨ b = 33 := a1
  exact d1.mv (fun a z1 z2 => hq.2.2.1 a (by omega) (by omega) (by omega) (by omega) (by omega) (by omega) (by omega) (by omega))

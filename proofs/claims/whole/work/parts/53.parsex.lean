/-! square: the model's items. -/
def RM1 (S : Sc) (M : Mem) : Prop := M.1 44 1 = i32 (cW S) ∧ M.1 45 1 = i32 (cH S) ∧ M.1 47 1 = i32 ((cP S : Nat) : Int) ∧ M.1 49 1 = i32 ((cI S : Nat) : Int) ∧
  (∀ x y : Nat, x < 12 → y < 12 → M.1 46 (144 + 12 * y + x) = i32 (bI (cWl S (x : Int) (y : Int)))) ∧
  (∀ p j : Nat, p < cP S → j < 6 → M.1 48 (48 + 6 * p + j) = i32 (cPd S p j)) ∧ (∀ i j : Nat, i < cI S → j < 5 → M.1 50 (50 + 5 * i + j) = i32 (cQd S i j))
def Fi (M M' : Mem) : Prop := M'.2 = M.2 ∧ (∀ a, (a < 42 ∨ a = 43 ∨ 50 < a) → M'.1 a = M.1 a) ∧ (∀ j, (j < 10 ∨ 14 < j) → M'.1 42 j = M.1 42 j) ∧ (M'.1 44 0 = M.1 44 0 ∧ M'.1 45 0 = M.1 45 0 ∧ M'.1 47 0 = M.1 47 0 ∧ M'.1 49 0 = M.1 49 0) ∧ (∀ j, j < 144 → M'.1 46 j = M.1 46 j) ∧ (∀ j, j < 48 → M'.1 48 j = M.1 48 j) ∧ (∀ j, j < 50 → M'.1 50 j = M.1 50 j)
theorem Fi.rf {M : Mem} : Fi M M := ⟨rfl, fun _ _ => rfl, fun _ _ => rfl, ⟨rfl, rfl, rfl, rfl⟩, fun _ _ => rfl, fun _ _ => rfl, fun _ _ => rfl⟩
theorem Fi.tr {M M1 M2 : Mem} (h : Fi M M1) (k : Fi M1 M2) : Fi M M2 := ⟨k.1.trans h.1, fun a q => (k.2.1 a q).trans (h.2.1 a q), fun j q => (k.2.2.1 j q).trans (h.2.2.1 j q), ⟨k.2.2.2.1.1.trans h.2.2.2.1.1, k.2.2.2.1.2.1.trans h.2.2.2.1.2.1, k.2.2.2.1.2.2.1.trans h.2.2.2.1.2.2.1, k.2.2.2.1.2.2.2.trans h.2.2.2.1.2.2.2⟩, fun j q => (k.2.2.2.2.1 j q).trans (h.2.2.2.2.1 j q), fun j q => (k.2.2.2.2.2.1 j q).trans (h.2.2.2.2.2.1 j q), fun j q => (k.2.2.2.2.2.2 j q).trans (h.2.2.2.2.2.2 j q)⟩
theorem Fdu.fi {M M' : Mem} (h : Fdu M M') : Fi M M' := by
  obtain ⟨h1, h2, h3⟩ := h
  exact ⟨h1, fun a q => h2 a (by omega), h3, ⟨by rw [h2 44 (by decide)], by rw [h2 45 (by decide)], by rw [h2 47 (by decide)], by rw [h2 49 (by decide)]⟩, fun j _ => by rw [h2 46 (by decide)], fun j _ => by rw [h2 48 (by decide)], fun j _ => by rw [h2 50 (by decide)]⟩
theorem RM1.fdu {S : Sc} {M M' : Mem} (h : RM1 S M) (k : Fdu M M') : RM1 S M' := by
  unfold RM1 at *
  rw [k.2.1 44 (by decide), k.2.1 45 (by decide), k.2.1 46 (by decide), k.2.1 47 (by decide), k.2.1 48 (by decide), k.2.1 49 (by decide), k.2.1 50 (by decide)]
  exact h
theorem Fi.w1 {M : Mem} {a : Nat} {x : Int32} (h : a = 44 ∨ a = 45 ∨ a = 47 ∨ a = 49) : Fi M (sI M a 1 x) := by
  have o : ∀ b, b ≠ a → (sI M a 1 x).1 b = M.1 b := fun b hb => sI_ne hb
  have z : ∀ b, (sI M a 1 x).1 b 0 = M.1 b 0 := fun b => by
    by_cases q : b = a
    · rw [q, sI_nj (by decide)]
    · rw [o b q]
  exact ⟨rfl, fun b q => o b (by omega), fun j _ => by rw [o 42 (by omega)], ⟨z _, z _, z _, z _⟩, fun j _ => by rw [o 46 (by omega)], fun j _ => by rw [o 48 (by omega)], fun j _ => by rw [o 50 (by omega)]⟩
theorem Fi.w8 {M : Mem} {a j : Nat} {x : Int32} (h : (a = 46 ∧ 144 ≤ j) ∨ (a = 48 ∧ 48 ≤ j) ∨ (a = 50 ∧ 50 ≤ j)) : Fi M (sI M a j x) := by
  have o : ∀ b, b ≠ a → (sI M a j x).1 b = M.1 b := fun b hb => sI_ne hb
  have z : ∀ b i, (b = a → i ≠ j) → (sI M a j x).1 b i = M.1 b i := fun b i q => by
    by_cases e : b = a
    · rw [e, sI_nj (q e)]
    · rw [o b e]
  exact ⟨rfl, fun b q => o b (by omega), fun j _ => by rw [o 42 (by omega)], ⟨z _ _ (by omega), z _ _ (by omega), z _ _ (by omega), z _ _ (by omega)⟩, fun i _ => z _ _ (by omega), fun i _ => z _ _ (by omega), fun i _ => z _ _ (by omega)⟩
/-- what comes of an item, from its numbers -/
theorem itm_of {t : Nat → Int} {L : Nat} {S : Sc} {i p : Nat} (hm : may S i (tk t L p) = true) {k : Nat} (hk : tk t L p = (k : Int)) {v : Nat → Int32} (hv : ∀ j q, j < nl k → psq t L S k (en t L p) j = .inl q → good t L (rlo k j) (rhi S k j) q = true → v j = i32 (vl t L q)) {M' : Mem} (hX : X t L (stp t L (psq t L S k (en t L p) (nl k))) M') (hR : ∀ w, (∀ j, j < nl k → v j = i32 (w j)) → (∀ j, j < nl k → rlo k j ≤ w j ∧ w j ≤ rhi S k j) → RM1 (addI S k w) M') (hp : en t L p ≤ L) : (∃ q, (itm t L S i p).1 = .inr q ∧ X t L (.inr q) M') ∨ (∃ p' S', itm t L S i p = (.inl p', S') ∧ X t L (.inl p') M' ∧ RM1 S' M') := by
  unfold itm
  rw [if_pos hm, hk, show ((k : Int)).toNat = k by omega]
  rcases psq_rd hv (nl k) 0 (en t L p) (fun _ => 0) (by omega) rfl (fun i hi => absurd hi (by omega)) with ⟨q, w', h1, h2⟩ | ⟨p', w', h1, h2, h3⟩
  · rw [Nat.zero_add] at h2
    rw [h2] at hX
    rw [h1]
    exact Or.inl ⟨q, rfl, hX⟩
  · rw [Nat.zero_add] at h2 h3
    rw [h2] at hX
    obtain ⟨-, o2, -⟩ := rdF_out _ _ _ _ _ _ hp h1
    rw [h1]
    have hX' : X t L (if tk t L p' = 11 then .inl (en t L p') else .inr (sT t L p')) M' := hX
    show (∃ q, (if tk t L p' = 11 then (Sum.inl (en t L p'), addI S k w') else (Sum.inr (sT t L p'), S)).1 = .inr q ∧ _) ∨ (∃ p'' S', (if tk t L p' = 11 then (Sum.inl (en t L p'), addI S k w') else (Sum.inr (sT t L p'), S)) = (.inl p'', S') ∧ _)
    by_cases z : tk t L p' = 11
    · rw [if_pos z] at hX' ⊢
      exact Or.inr ⟨en t L p', addI S k w', rfl, hX', hR w' h3 (fun j hj => o2 j (Nat.zero_le _) (by omega))⟩
    · rw [if_neg z] at hX' ⊢
      exact Or.inl ⟨sT t L p', rfl, hX'⟩
theorem rhi_r {S : Sc} (hS : okS S) {k j : Nat} (hk : k < 4) (hj : j < nl k) : (-1000 ≤ rlo k j ∧ rlo k j ≤ 1000) ∧ (-1000 ≤ rhi S k j ∧ rhi S k j ≤ 1000) := by
  obtain ⟨s1, s2, -⟩ := id hS
  have hlo := (rhi_b k hk j hj).1
  refine ⟨by omega, ?_⟩
  by_cases z : k ≠ 0 ∧ j < 2
  · unfold rhi; rw [if_neg z.1]
    by_cases j0 : j = 0
    · rw [if_pos j0]; omega
    · rw [if_neg j0, if_pos (by omega)]; omega
  · have := (rhi_b k hk j hj).2 z
    rw [rhi_S (S := S) z]; omega
/-- one number of an item -/
theorem num_s {t : Nat → Int} {L : Nat} (hT : okT t L) {S : Sc} (hS : okS S) {k p j : Nat} (hk : k < 4) (hj : j < nl k) {M : Mem} (h : X t L (psq t L S k p j) M) : ∃ v M', fX5_number (i32 (rlo k j)) (i32 (rhi S k j)) M = some (v, M') ∧ Fdu M M' ∧ X t L (psq t L S k p (j + 1)) M' ∧ ∀ q, psq t L S k p j = .inl q → good t L (rlo k j) (rhi S k j) q = true → v = i32 (vl t L q) := by
  obtain ⟨r1, r2⟩ := rhi_r hS hk hj
  exact number_M hT h r1 r2
def vv6 (a0 a1 a2 a3 a4 a5 : Int32) (j : Nat) : Int32 := if j = 0 then a0 else if j = 1 then a1 else if j = 2 then a2 else if j = 3 then a3 else if j = 4 then a4 else a5
theorem j6 {j : Nat} (h : j < 6) : j = 0 ∨ j = 1 ∨ j = 2 ∨ j = 3 ∨ j = 4 ∨ j = 5 := by omega
theorem one_M {t : Nat → Int} {L : Nat} {S : Sc} {M : Mem} (a : Nat) (h : a = 44 ∨ a = 45 ∨ a = 47 ∨ a = 49) : rI M a 2 1 = some (M.1 a 1) := by
  rw [show (1 : Int32) = i32 ((1 : Nat) : Int) from rfl, rI_ok (by omega)]; rfl

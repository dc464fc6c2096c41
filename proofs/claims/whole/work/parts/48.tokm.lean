/-! square: tokens, the model. -/
def ub (z : Int) : Int := if z < 0 then z + 256 else z
theorem and255 : ∀ n : Nat, n < 256 → i32 ((n : Int) - 128) &&& 255 = i32 (ub ((n : Int) - 128)) := by decide +kernel
theorem ub_e {z : Int} (h : -128 ≤ z ∧ z ≤ 127) : i32 z &&& 255 = i32 (ub z) := by
  have := and255 (z + 128).toNat (by omega)
  rw [show (((z + 128).toNat : Nat) : Int) - 128 = z by omega] at this
  exact this
theorem ub_b {z : Int} (h : -128 ≤ z ∧ z ≤ 127) : (0 ≤ z ∧ ub z = z) ∨ (z < 0 ∧ 128 ≤ ub z ∧ ub z ≤ 255) := by
  unfold ub
  by_cases q : z < 0
  · rw [if_pos q]; omega
  · rw [if_neg q]; omega
theorem ub_btw {z lo hi : Int} (h : -128 ≤ z ∧ z ≤ 127) (h1 : 0 ≤ lo ∧ hi ≤ 127) : btw (ub z) lo hi = btw z lo hi := by
  have := ub_b h
  unfold btw
  exact decide_eq_decide.mpr ⟨fun q => by omega, fun q => by omega⟩
def hr (t : Nat → Int) (L p : Nat) : Int := if L ≤ p then -1 else ub (t p)
def TxM (t : Nat → Int) (L : Nat) (M : Mem) : Prop := M.1 42 2 = i32 L ∧ ∀ j, j < L → M.1 43 j = i32 (t j)
def F2 (M M' : Mem) : Prop := M'.2 = M.2 ∧ (∀ a, a ≠ 42 → M'.1 a = M.1 a) ∧ ∀ j, (j < 10 ∨ 13 < j) → M'.1 42 j = M.1 42 j
theorem F2.rf {M : Mem} : F2 M M := ⟨rfl, fun _ _ => rfl, fun _ _ => rfl⟩
theorem F2.tr {M M1 M2 : Mem} (h : F2 M M1) (k : F2 M1 M2) : F2 M M2 := ⟨k.1.trans h.1, fun a q => (k.2.1 a q).trans (h.2.1 a q), fun j q => (k.2.2 j q).trans (h.2.2 j q)⟩
theorem F2.w {M : Mem} {j : Nat} {x : Int32} (h : 10 ≤ j ∧ j ≤ 13) : F2 M (sI M 42 j x) := ⟨rfl, fun a q => sI_ne q, fun j' q => sI_nj (by omega)⟩
theorem TxM.f2 {t : Nat → Int} {L : Nat} {M M' : Mem} (h : TxM t L M) (k : F2 M M') : TxM t L M' := ⟨(k.2.2 2 (by decide)).trans h.1, fun j hj => by rw [k.2.1 43 (by decide)]; exact h.2 j hj⟩
theorem here_M {t : Nat → Int} {L : Nat} (hT : okT t L) {M : Mem} (hx : TxM t L M) {p : Nat} (hp : p ≤ L) (h : M.1 42 10 = i32 (p : Int)) : fX5_here M = some (i32 (hr t L p)) := by
  have h400 := hT.1
  unfold fX5_here hr
  rw [hx.1, h]
  by_cases z : L ≤ p
  · rw [if_pos ((i32_le (by omega)).mpr (by omega)), if_pos z]; rfl
  · rw [if_neg (fun q => absurd ((i32_le (by omega)).mp q) (by omega)), if_neg z, rI_ok (by omega), show ((p : Int)).toNat = p by omega, hx.2 p (by omega)]
    simp only [Option.bind_some, Option.bind_none]
    rw [ub_e (hT.2 p (by omega))]
theorem hr_b {t : Nat → Int} {L : Nat} (hT : okT t L) (p : Nat) : -1 ≤ hr t L p ∧ hr t L p ≤ 255 := by
  unfold hr
  by_cases z : L ≤ p
  · rw [if_pos z]; decide
  · rw [if_neg z]
    have := ub_b (hT.2 p (by omega))
    have := hT.2 p (by omega)
    omega
def vM (t : Nat → Int) (s : Nat) : Nat → Int
  | 0 => 0
  | n + 1 => if vM t s n ≤ 99 then 10 * vM t s n + t (s + n) - 48 else vM t s n
theorem vCM {t : Nat → Int} {s : Nat} : ∀ n, (∀ j, s ≤ j → j < s + n → isDg (t j) = true) → (0 ≤ vC t s n ∧ vC t s n ≤ 99 ∧ vM t s n = vC t s n) ∨ (vC t s n = 100 ∧ 99 < vM t s n ∧ vM t s n ≤ 999)
  | 0, _ => Or.inl ⟨Int.le_refl 0, by rw [show vC t s 0 = 0 from rfl]; decide, rfl⟩
  | n + 1, h => by
    have ih := vCM n (fun j h1 h2 => h j h1 (by omega))
    have hd := btw_t (h (s + n) (by omega) (by omega))
    have e1 : vC t s (n + 1) = mn (10 * vC t s n + t (s + n) - 48) 100 := rfl
    have e2 : vM t s (n + 1) = if vM t s n ≤ 99 then 10 * vM t s n + t (s + n) - 48 else vM t s n := rfl
    unfold mn at e1
    rcases ih with ⟨i0, i1, i2⟩ | ⟨i1, i2, i3⟩
    · rw [if_pos (by omega), i2] at e2
      by_cases q : 100 < 10 * vC t s n + t (s + n) - 48
      · rw [if_pos q] at e1; right; omega
      · rw [if_neg q] at e1
        by_cases q2 : 10 * vC t s n + t (s + n) - 48 = 100
        · right; omega
        · left; omega
    · rw [if_neg (by omega)] at e2
      rw [if_pos (by omega)] at e1
      right; omega
theorem numM_L {t : Nat → Int} {L : Nat} (hT : okT t L) {s : Nat} (hs : s < L) : ∀ (d n p : Nat) (M : Mem), p + d = L → d < n → TxM t L M → s ≤ p → (∀ j, s ≤ j → j < p → isDg (t j) = true) → M.1 42 10 = i32 (p : Int) → M.1 42 11 = i32 (s : Int) → M.1 42 13 = i32 (vM t s (p - s)) → ∃ M', fX5_next_183L n (i32 (ub (t s))) M = some M' ∧ F2 M M' ∧ M'.1 42 10 = i32 ((run isDg t d p : Nat) : Int) ∧ M'.1 42 11 = i32 (s : Int) ∧ M'.1 42 12 = i32 (if 99 < vM t s (run isDg t d p - s) ∨ (1 < run isDg t d p - s ∧ t s = 48) then 7 else 5) ∧ M'.1 42 13 = i32 (vM t s (run isDg t d p - s)) := by
  have h400 := hT.1
  have hsb := hT.2 s hs
  have hub := ub_b hsb
  -- the end
  have fin : ∀ (n p : Nat) (M : Mem), p ≤ L → TxM t L M → s ≤ p → (∀ j, s ≤ j → j < p → isDg (t j) = true) → btw (hr t L p) 48 57 = false → M.1 42 10 = i32 (p : Int) → M.1 42 11 = i32 (s : Int) → M.1 42 13 = i32 (vM t s (p - s)) → ∃ M', fX5_next_183L (n + 1) (i32 (ub (t s))) M = some M' ∧ F2 M M' ∧ M'.1 42 10 = i32 (p : Int) ∧ M'.1 42 11 = i32 (s : Int) ∧ M'.1 42 12 = i32 (if 99 < vM t s (p - s) ∨ (1 < p - s ∧ t s = 48) then 7 else 5) ∧ M'.1 42 13 = i32 (vM t s (p - s)) := by
    intro n p M hp hx hsp hdg hno h10 h11 h13
    have hv := vCM (t := t) (s := s) (p - s) (fun j q1 q2 => hdg j q1 (by omega))
    have hhb := hr_b hT p
    refine ⟨sI M 42 12 (i32 (if 99 < vM t s (p - s) ∨ (1 < p - s ∧ t s = 48) then 7 else 5)), ?_, F2.w (by decide), by rw [sI_nj (by decide)]; exact h10, by rw [sI_nj (by decide)]; exact h11, sI_at _ _ _ _, by rw [sI_nj (by decide)]; exact h13⟩
    show fX5_next_183B (fX5_next_183L n) _ M = _
    unfold fX5_next_183B fX5_next_279 fX5_next_274 fX5_next_280 wF
    rw [here_M hT hx hp h10, h10, h11, h13]
    simp only [Option.bind_some, Option.bind_none]
    rw [show (48 : Int32) = i32 48 from rfl, show (57 : Int32) = i32 57 from rfl, in_M (by omega), hno]
    simp only [Option.bind_some, Option.bind_none]
    rw [if_pos (by decide), show (99 : Int32) = i32 99 from rfl, i32_sub]
    by_cases z : 99 < vM t s (p - s)
    · rw [if_pos ((i32_lt (by omega)).mpr z), if_pos (Or.inl z)]; rfl
    · rw [if_neg (fun q => z ((i32_lt (by omega)).mp q))]
      by_cases y : t s = 48
      · rw [if_pos (show i32 (ub (t s)) = i32 48 by rw [show ub (t s) = 48 by omega])]
        by_cases w : p - s ≤ 1
        · rw [if_pos (show i32 ((p : Int) - (s : Int)) ≤ 1 from (i32_le (b := 1) (by omega)).mpr (by omega)), if_neg (fun q => q.elim z (fun r => absurd r.1 (by omega)))]; rfl
        · rw [if_neg (show ¬ i32 ((p : Int) - (s : Int)) ≤ 1 from fun q => absurd ((i32_le (b := 1) (by omega)).mp q) (by omega)), if_pos (Or.inr ⟨by omega, y⟩)]; rfl
      · rw [if_neg (show ¬ i32 (ub (t s)) = i32 48 from fun q => by have := (i32_inj (by omega)).mp q; omega), if_neg (fun q => q.elim z (fun r => y r.2))]; rfl
  intro d
  induction d with
  | zero =>
    intro n p M h1 h2 hx hsp hdg h10 h11 h13
    obtain ⟨n, rfl⟩ : ∃ m, n = m + 1 := ⟨n - 1, by omega⟩
    have hno : btw (hr t L p) 48 57 = false := by
      unfold hr; rw [if_pos (by omega)]; rfl
    exact fin n p M (by omega) hx hsp hdg hno h10 h11 h13
  | succ d ih =>
    intro n p M h1 h2 hx hsp hdg h10 h11 h13
    obtain ⟨n, rfl⟩ : ∃ m, n = m + 1 := ⟨n - 1, by omega⟩
    have hpb := hT.2 p (by omega)
    have hhr : hr t L p = ub (t p) := by unfold hr; rw [if_neg (by omega)]
    cases hd : isDg (t p) with
    | false =>
      rw [run_f hd]
      exact fin n p M (by omega) hx hsp hdg (by rw [hhr, ub_btw hpb (by decide)]; exact hd) h10 h11 h13
    | true =>
      rw [run_s hd]
      have hl := btw_t hd
      have hv := vCM (t := t) (s := s) (p - s) (fun j q1 q2 => hdg j q1 (by omega))
      have hub' : ub (t p) = t p := by have := ub_b hpb; omega
      have f2 : F2 M (sI (sI M 42 13 (i32 (vM t s (p + 1 - s)))) 42 10 (i32 ((p + 1 : Nat) : Int))) := (F2.w (by decide)).tr (F2.w (by decide))
      obtain ⟨M', g1, g2, g3, g4, g5, g6⟩ := ih n (p + 1) _ (by omega) (by omega) (hx.f2 f2) (by omega) (fun j q1 q2 => by
        by_cases z : j = p
        · rw [z]; exact hd
        · exact hdg j q1 (by omega)) (sI_at _ _ _ _) (by rw [sI_nj (by decide), sI_nj (by decide)]; exact h11) (by rw [sI_nj (by decide), sI_at])
      refine ⟨M', ?_, f2.tr g2, g3, g4, g5, g6⟩
      rw [← g1]
      show fX5_next_183B (fX5_next_183L n) _ M = _
      unfold fX5_next_183B fX5_next_229 wF
      rw [here_M hT hx (by omega) h10, hhr, hub', h13]
      simp only [Option.bind_some, Option.bind_none]
      rw [show (48 : Int32) = i32 48 from rfl, show (57 : Int32) = i32 57 from rfl, in_M (by omega), show btw (t p) 48 57 = true from hd]
      simp only [Option.bind_some, Option.bind_none]
      rw [if_neg (by decide), show (99 : Int32) = i32 99 from rfl, show (10 : Int32) = i32 10 from rfl, i32_mul, i32_add, i32_sub, sI_nj (by decide), sI_nj (by decide), h10, show (1 : Int32) = i32 1 from rfl, i32_add]
      have e : vM t s (p + 1 - s) = if vM t s (p - s) ≤ 99 then 10 * vM t s (p - s) + t p - 48 else vM t s (p - s) := by
        rw [show p + 1 - s = (p - s) + 1 by omega]
        show (if vM t s (p - s) ≤ 99 then 10 * vM t s (p - s) + t (s + (p - s)) - 48 else vM t s (p - s)) = _
        rw [show s + (p - s) = p by omega]
      rw [e]
      by_cases z : vM t s (p - s) ≤ 99
      · rw [if_pos ((i32_le (by omega)).mpr z), if_pos z]; rfl
      · rw [if_neg (fun q => z ((i32_le (by omega)).mp q)), if_neg z]; rfl
theorem sv_b {l : Nat → Int} : ∀ n, ltr l n → 0 ≤ sv l n ∧ sv l n ≤ 99
  | 0, _ => by rw [show sv l 0 = 0 from rfl]; decide
  | n + 1, h => by
    have ih := sv_b n (fun i hi => h i (by omega))
    have hm := h n (by omega)
    show 0 ≤ (if n = 6 then l n - 96 else if n ≤ 6 then sv l n else 99) ∧ (if n = 6 then l n - 96 else if n ≤ 6 then sv l n else 99) ≤ 99
    by_cases q : n = 6
    · rw [if_pos q]; omega
    · rw [if_neg q]
      by_cases q2 : n ≤ 6
      · rw [if_pos q2]; exact ih
      · rw [if_neg q2]; decide
theorem wrdM_L {t : Nat → Int} {L : Nat} (hT : okT t L) {s : Nat} : ∀ (d n p : Nat) (M : Mem), p + d = L → d < n → TxM t L M → s ≤ p → (∀ j, s ≤ j → j < p → isLt (t j) = true) → M.1 42 10 = i32 (p : Int) → M.1 42 11 = i32 (s : Int) → ∃ M', fX5_next_67L n (i32 (cd (fun i => t (s + i)) (p - s))) (i32 (sv (fun i => t (s + i)) (p - s))) M = some M' ∧ F2 M M' ∧ M'.1 42 10 = i32 ((run isLt t d p : Nat) : Int) ∧ M'.1 42 11 = i32 (s : Int) ∧ M'.1 42 12 = i32 (mt (wk (fun i => t (s + i)) (run isLt t d p - s))) := by
  have h400 := hT.1
  have fin : ∀ (n p : Nat) (M : Mem), p ≤ L → TxM t L M → s ≤ p → (∀ j, s ≤ j → j < p → isLt (t j) = true) → btw (hr t L p) 97 122 = false → M.1 42 10 = i32 (p : Int) → M.1 42 11 = i32 (s : Int) → ∃ M', fX5_next_67L (n + 1) (i32 (cd (fun i => t (s + i)) (p - s))) (i32 (sv (fun i => t (s + i)) (p - s))) M = some M' ∧ F2 M M' ∧ M'.1 42 10 = i32 (p : Int) ∧ M'.1 42 11 = i32 (s : Int) ∧ M'.1 42 12 = i32 (mt (wk (fun i => t (s + i)) (p - s))) := by
    intro n p M hp hx hsp hlt hno h10 h11
    have hhb := hr_b hT p
    refine ⟨sI M 42 12 (i32 (mt (wk (fun i => t (s + i)) (p - s)))), ?_, F2.w (by decide), by rw [sI_nj (by decide)]; exact h10, by rw [sI_nj (by decide)]; exact h11, sI_at _ _ _ _⟩
    show fX5_next_67B (fX5_next_67L n) _ _ M = _
    unfold fX5_next_67B wF
    rw [here_M hT hx hp h10]
    simp only [Option.bind_some, Option.bind_none]
    rw [show (97 : Int32) = i32 97 from rfl, show (122 : Int32) = i32 122 from rfl, in_M (by omega), hno, meaning_M (fun i hi => btw_t (hlt (s + i) (by omega) (by omega)))]
    simp only [Option.bind_some, Option.bind_none]
    rw [if_pos (by decide)]
  intro d
  induction d with
  | zero =>
    intro n p M h1 h2 hx hsp hlt h10 h11
    obtain ⟨n, rfl⟩ : ∃ m, n = m + 1 := ⟨n - 1, by omega⟩
    have hno : btw (hr t L p) 97 122 = false := by
      unfold hr; rw [if_pos (by omega)]; rfl
    exact fin n p M (by omega) hx hsp hlt hno h10 h11
  | succ d ih =>
    intro n p M h1 h2 hx hsp hlt h10 h11
    obtain ⟨n, rfl⟩ : ∃ m, n = m + 1 := ⟨n - 1, by omega⟩
    have hpb := hT.2 p (by omega)
    have hhr : hr t L p = ub (t p) := by unfold hr; rw [if_neg (by omega)]
    cases hd : isLt (t p) with
    | false =>
      rw [run_f hd]
      exact fin n p M (by omega) hx hsp hlt (by rw [hhr, ub_btw hpb (by decide)]; exact hd) h10 h11
    | true =>
      rw [run_s hd]
      have hl := btw_t hd
      have hub' : ub (t p) = t p := by have := ub_b hpb; omega
      have f2 : F2 M (sI M 42 10 (i32 ((p + 1 : Nat) : Int))) := F2.w (by decide)
      obtain ⟨M', g1, g2, g3, g4, g5⟩ := ih n (p + 1) _ (by omega) (by omega) (hx.f2 f2) (by omega) (fun j q1 q2 => by
        by_cases z : j = p
        · rw [z]; exact hd
        · exact hlt j q1 (by omega)) (sI_at _ _ _ _) (by rw [sI_nj (by decide)]; exact h11)
      refine ⟨M', ?_, f2.tr g2, g3, g4, g5⟩
      rw [← g1]
      have hs1 : s + (p - s) = p := by omega
      have ec : cd (fun i => t (s + i)) (p + 1 - s) = if 6 ≤ p - s then cd (fun i => t (s + i)) (p - s) else 27 * cd (fun i => t (s + i)) (p - s) + t p - 96 := by
        rw [show p + 1 - s = (p - s) + 1 by omega]
        show (if 6 ≤ p - s then cd (fun i => t (s + i)) (p - s) else 27 * cd (fun i => t (s + i)) (p - s) + t (s + (p - s)) - 96) = _
        rw [hs1]
      have ev : sv (fun i => t (s + i)) (p + 1 - s) = if p - s = 6 then t p - 96 else if p - s ≤ 6 then sv (fun i => t (s + i)) (p - s) else 99 := by
        rw [show p + 1 - s = (p - s) + 1 by omega]
        show (if p - s = 6 then t (s + (p - s)) - 96 else if p - s ≤ 6 then sv (fun i => t (s + i)) (p - s) else 99) = _
        rw [hs1]
      have e115 : ∀ c : Int32, fX5_next_115 (fX5_next_67L n) (i32 (sv (fun i => t (s + i)) (p - s))) (i32 ((p : Int) - (s : Int))) c M = fX5_next_67L n c (i32 (sv (fun i => t (s + i)) (p + 1 - s))) (sI M 42 10 (i32 ((p + 1 : Nat) : Int))) := fun c => by
        unfold fX5_next_115 fX5_next_146 wF
        rw [here_M hT hx (by omega) h10, hhr, hub', h10, ev]
        simp only [Option.bind_some, Option.bind_none]
        rw [show (96 : Int32) = i32 96 from rfl, i32_sub, show (1 : Int32) = i32 1 from rfl, i32_add, show (6 : Int32) = i32 6 from rfl]
        by_cases z6 : p - s = 6
        · rw [if_pos (by rw [show (p : Int) - (s : Int) = 6 by omega]), if_pos z6]; rfl
        · rw [if_neg (fun q => by have := (i32_inj (by omega)).mp q; omega), if_neg z6]
          by_cases z7 : p - s ≤ 6
          · rw [if_pos ((i32_le (by omega)).mpr (by omega)), if_pos z7]; rfl
          · rw [if_neg (fun q => by have := (i32_le (by omega)).mp q; omega), if_neg z7]; rfl
      show fX5_next_67B (fX5_next_67L n) _ _ M = _
      unfold fX5_next_67B
      rw [here_M hT hx (by omega) h10, hhr, hub', h10, h11]
      simp only [Option.bind_some, Option.bind_none]
      rw [show (97 : Int32) = i32 97 from rfl, show (122 : Int32) = i32 122 from rfl, in_M (by omega), show btw (t p) 97 122 = true from hd, i32_sub]
      simp only [Option.bind_some, Option.bind_none]
      rw [if_neg (by decide), e115, e115, show (6 : Int32) = i32 6 from rfl, show (27 : Int32) = i32 27 from rfl, show (96 : Int32) = i32 96 from rfl, i32_mul, i32_add, i32_sub, ec]
      by_cases z6 : 6 ≤ p - s
      · rw [if_pos ((i32_le (by omega)).mpr (by omega)), if_pos z6]
      · rw [if_neg (fun q => absurd ((i32_le (by omega)).mp q) (by omega)), if_neg z6]
/-- what a token leaves in the model -/
def Rm (t : Nat → Int) (L p : Nat) (M : Mem) : Prop := (tk t L p ≠ 13 → M.1 42 10 = i32 ((en t L p : Nat) : Int)) ∧ M.1 42 12 = i32 (mt (tk t L p)) ∧ M.1 42 11 = i32 ((sT t L p : Nat) : Int) ∧ (tk t L p = 12 → M.1 42 13 = i32 (vl t L p))
theorem nextM_L {t : Nat → Int} {L : Nat} (hT : okT t L) {p0 : Nat} (hp0 : p0 ≤ L) : ∀ (d n p : Nat) (M : Mem), p + d = L → d < n → run isSp t d p = sT t L p0 → TxM t L M → M.1 42 10 = i32 (p : Int) → ∃ M', fX5_next_0L n M = some M' ∧ F2 M M' ∧ Rm t L p0 M' := by
  have h400 := hT.1
  have fin : ∀ (n p : Nat) (M : Mem), p ≤ L → p = sT t L p0 → ¬ hr t L p = 32 → TxM t L M → M.1 42 10 = i32 (p : Int) → ∃ M', fX5_next_0L (n + 1) M = some M' ∧ F2 M M' ∧ Rm t L p0 M' := by
    intro n p M hp hps hno hx h10
    have hhb := hr_b hT p
    have f3 : F2 M (sI (sI M 42 11 (i32 (p : Int))) 42 13 0) := (F2.w (by decide)).tr (F2.w (by decide))
    have hx3 := hx.f2 f3
    have g10 : (sI (sI M 42 11 (i32 (p : Int))) 42 13 0).1 42 10 = i32 (p : Int) := by rw [sI_nj (by decide), sI_nj (by decide)]; exact h10
    have g11 : (sI (sI M 42 11 (i32 (p : Int))) 42 13 0).1 42 11 = i32 (p : Int) := by rw [sI_nj (by decide), sI_at]
    have g13 : (sI (sI M 42 11 (i32 (p : Int))) 42 13 0).1 42 13 = 0 := sI_at _ _ _ _
    generalize hM3 : sI (sI M 42 11 (i32 (p : Int))) 42 13 0 = M3 at *
    have e0 : fX5_next_0L (n + 1) M = if 0 ≤ i32 (hr t L p) then (fX5_in (i32 (hr t L p)) 97 122).bind fun v5 => if v5 = 0 then (fX5_in (i32 (hr t L p)) 48 57).bind fun v6 => if v6 = 0 then (if i32 (hr t L p) = 59 then some (sI (sI M3 42 10 (M3.1 42 10 + 1)) 42 12 6) else some (sI (sI M3 42 10 (M3.1 42 10 + 1)) 42 12 7)) else fX5_next_183L FU (i32 (hr t L p)) M3 else fX5_next_67L FU 0 0 M3 else some (sI M3 42 12 4) := by
      show fX5_next_0B (fX5_next_0L n) M = _
      unfold fX5_next_0B wF
      rw [here_M hT hx hp h10]
      simp only [Option.bind_some, Option.bind_none]
      rw [if_neg (show ¬ i32 (hr t L p) = 32 from fun q => hno ((i32_inj (b := 32) (by omega)).mp q)), h10, hM3, here_M hT hx3 hp g10]
      rfl
    rw [e0]
    unfold Rm
    by_cases hL : L ≤ p
    · have hhr : hr t L p = -1 := by unfold hr; rw [if_pos hL]
      have htk : tk t L p0 = 10 := by unfold tk; rw [← hps, if_pos hL]
      have hen : en t L p0 = p := by unfold en; rw [← hps, if_pos hL]
      rw [hhr, if_neg (by decide), htk, hen, ← hps]
      exact ⟨_, rfl, f3.tr (F2.w (by decide)), fun _ => by rw [sI_nj (by decide)]; exact g10, by rw [sI_at]; rfl, by rw [sI_nj (by decide)]; exact g11, fun h => absurd h (by decide)⟩
    · have hhr : hr t L p = ub (t p) := by unfold hr; rw [if_neg hL]
      have hpb := hT.2 p (by omega)
      have hub := ub_b hpb
      rw [hhr, if_pos (show 0 ≤ i32 (ub (t p)) from (i32_le (a := 0) (by omega)).mpr (by omega)), show fX5_in (i32 (ub (t p))) 97 122 = some (i32 (bI (btw (ub (t p)) 97 122))) from in_M (l := 97) (h := 122) (by omega), show fX5_in (i32 (ub (t p))) 48 57 = some (i32 (bI (btw (ub (t p)) 48 57))) from in_M (l := 48) (h := 57) (by omega), ub_btw hpb (by decide), ub_btw hpb (by decide)]
      simp only [Option.bind_some, Option.bind_none]
      rw [show (0 : Int32) = i32 0 from rfl, ite_bI, ite_bI]
      show ∃ M', (if isLt (t p) = true then _ else (if isDg (t p) = true then _ else _)) = _ ∧ _
      cases hlt : isLt (t p) with
      | true =>
        have hl := btw_t hlt
        have hdg : isDg (t p) = false := decide_eq_false (by omega)
        rw [if_pos rfl]
        obtain ⟨M4, n1, n2, n3, n4, n5⟩ := wrdM_L hT (s := p) (L - p) FU p M3 (by omega) (by unfold FU; omega) hx3 (Nat.le_refl _) (fun j q1 q2 => absurd q2 (by omega)) g10 g11
        rw [Nat.sub_self, show cd (fun i => t (p + i)) 0 = 0 from rfl, show sv (fun i => t (p + i)) 0 = 0 from rfl] at n1
        have hrun : run isLt t (L - p) p = eLt t L p := rfl
        rw [hrun] at n3 n5
        have htk : tk t L p0 = wk (fun i => t (p + i)) (eLt t L p - p) := by unfold tk; rw [← hps, if_neg hL, if_neg (by omega), hdg, if_neg (by decide), hlt, if_pos rfl]
        have hen : en t L p0 = eLt t L p := by unfold en; rw [← hps, if_neg hL, if_neg (by omega), hdg, if_neg (by decide), hlt, if_pos rfl]
        rw [htk, hen, ← hps]
        exact ⟨M4, n1, f3.tr n2, fun _ => n3, n5, n4, fun h => absurd h (wk_n12 _ _).1⟩
      | false =>
        rw [if_neg (by decide)]
        cases hdg : isDg (t p) with
        | true =>
          have hl := btw_t hdg
          rw [if_pos rfl]
          obtain ⟨M4, n1, n2, n3, n4, n5, n6⟩ := numM_L hT (s := p) (by omega) (L - p) FU p M3 (by omega) (by unfold FU; omega) hx3 (Nat.le_refl _) (fun j q1 q2 => absurd q2 (by omega)) g10 g11 (by rw [Nat.sub_self]; exact g13)
          have hrun : run isDg t (L - p) p = eDg t L p := rfl
          rw [hrun] at n3 n5 n6
          have heb := eD_b t (show p ≤ L by omega)
          have hv := vCM (t := t) (s := p) (eDg t L p - p) (fun j q1 q2 => run_in (c := isDg) (L - p) p j q1 (by rw [hrun]; omega))
          have htk : tk t L p0 = nTk t L p := by unfold tk; rw [← hps, if_neg hL, if_neg (by omega), hdg, if_pos rfl]
          have hen : en t L p0 = eDg t L p := by unfold en; rw [← hps, if_neg hL, if_neg (by omega), hdg, if_pos rfl]
          have hvl : vl t L p0 = vC t p (eDg t L p - p) := by unfold vl; rw [← hps]
          rw [htk, hen, hvl, ← hps]
          refine ⟨M4, n1, f3.tr n2, fun _ => n3, ?_, n4, fun h => ?_⟩
          · rw [n5]
            unfold nTk
            by_cases q : 99 < vC t p (eDg t L p - p) ∨ (1 < eDg t L p - p ∧ t p = 48)
            · rw [if_pos q, if_pos (q.elim (fun a => Or.inl (by omega)) Or.inr)]; rfl
            · rw [if_neg q, if_neg (fun w => q (w.elim (fun a => Or.inl (by omega)) Or.inr))]; rfl
          · rw [n6]
            unfold nTk at h
            by_cases q : 99 < vC t p (eDg t L p - p) ∨ (1 < eDg t L p - p ∧ t p = 48)
            · rw [if_pos q] at h; exact absurd h (by decide)
            · have : ¬ 99 < vC t p (eDg t L p - p) := fun z => q (Or.inl z)
              rw [show vM t p (eDg t L p - p) = vC t p (eDg t L p - p) by omega]
        | false =>
          rw [if_neg (by decide), g10]
          by_cases h59 : t p = 59
          · have htk : tk t L p0 = 11 := by unfold tk; rw [← hps, if_neg hL, if_pos h59]
            have hen : en t L p0 = p + 1 := by unfold en; rw [← hps, if_neg hL, if_pos h59]
            rw [if_pos (show i32 (ub (t p)) = 59 by rw [show ub (t p) = 59 by omega]; rfl), htk, hen, ← hps]
            exact ⟨_, rfl, (f3.tr (F2.w (by decide))).tr (F2.w (by decide)), fun _ => by rw [sI_nj (by decide), sI_at, show (1 : Int32) = i32 1 from rfl, i32_add]; rfl, by rw [sI_at]; rfl, by rw [sI_nj (by decide), sI_nj (by decide)]; exact g11, fun h => absurd h (by decide)⟩
          · have htk : tk t L p0 = 13 := by unfold tk; rw [← hps, if_neg hL, if_neg h59, hdg, if_neg (by decide), hlt, if_neg (by decide)]
            rw [if_neg (show ¬ i32 (ub (t p)) = 59 from fun q => by have := (i32_inj (b := 59) (by omega)).mp q; omega), htk, ← hps]
            exact ⟨_, rfl, (f3.tr (F2.w (by decide))).tr (F2.w (by decide)), fun h => absurd rfl h, by rw [sI_at]; rfl, by rw [sI_nj (by decide), sI_nj (by decide)]; exact g11, fun h => absurd h (by decide)⟩
  intro d
  induction d with
  | zero =>
    intro n p M h1 h2 hr' hx h10
    obtain ⟨n, rfl⟩ : ∃ m, n = m + 1 := ⟨n - 1, by omega⟩
    exact fin n p M (by omega) hr' (by unfold hr; rw [if_pos (by omega)]; decide) hx h10
  | succ d ih =>
    intro n p M h1 h2 hr' hx h10
    obtain ⟨n, rfl⟩ : ∃ m, n = m + 1 := ⟨n - 1, by omega⟩
    have hpb := hT.2 p (by omega)
    have hub := ub_b hpb
    have hhr : hr t L p = ub (t p) := by unfold hr; rw [if_neg (by omega)]
    cases hs : isSp (t p) with
    | false =>
      rw [run_f hs] at hr'
      have : ¬ t p = 32 := of_decide_eq_false hs
      exact fin n p M (by omega) hr' (by rw [hhr]; omega) hx h10
    | true =>
      rw [run_s hs] at hr'
      have h32 : t p = 32 := of_decide_eq_true hs
      have f2 : F2 M (sI M 42 10 (i32 ((p + 1 : Nat) : Int))) := F2.w (by decide)
      obtain ⟨M', g1, g2, g3⟩ := ih n (p + 1) _ (by omega) (by omega) hr' (hx.f2 f2) (sI_at _ _ _ _)
      refine ⟨M', ?_, f2.tr g2, g3⟩
      rw [← g1]
      show fX5_next_0B (fX5_next_0L n) M = _
      unfold fX5_next_0B wF
      rw [here_M hT hx (by omega) h10, hhr]
      simp only [Option.bind_some, Option.bind_none]
      rw [if_pos (show i32 (ub (t p)) = 32 by rw [show ub (t p) = 32 by omega]; rfl), h10, show (1 : Int32) = i32 1 from rfl, i32_add]
      rfl
theorem next_M {t : Nat → Int} {L : Nat} (hT : okT t L) {p : Nat} (hp : p ≤ L) {M : Mem} (hx : TxM t L M) (h10 : M.1 42 10 = i32 (p : Int)) : ∃ M', fX5_next M = some M' ∧ F2 M M' ∧ Rm t L p M' :=
  nextM_L hT hp (L - p) FU p M (by omega) (by have := hT.1; unfold FU; omega) rfl hx h10

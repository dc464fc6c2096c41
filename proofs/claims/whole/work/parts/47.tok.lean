/-! square: tokens, the class. -/
def run (c : Int → Bool) (t : Nat → Int) : Nat → Nat → Nat
  | 0, p => p
  | d + 1, p => if c (t p) = true then run c t d (p + 1) else p
theorem run_b {c : Int → Bool} {t : Nat → Int} : ∀ (d p : Nat), p ≤ run c t d p ∧ run c t d p ≤ p + d
  | 0, p => ⟨Nat.le_refl _, Nat.le_refl _⟩
  | d + 1, p => by
    have ih := run_b (c := c) (t := t) d (p + 1)
    show p ≤ (if c (t p) = true then run c t d (p + 1) else p) ∧ (if c (t p) = true then run c t d (p + 1) else p) ≤ p + (d + 1)
    by_cases h : c (t p) = true
    · rw [if_pos h]; omega
    · rw [if_neg h]; omega
theorem run_in {c : Int → Bool} {t : Nat → Int} : ∀ (d p j : Nat), p ≤ j → j < run c t d p → c (t j) = true
  | 0, p, j, h1, h2 => absurd (show j < p from h2) (by omega)
  | d + 1, p, j, h1, h2 => by
    have h2' : j < (if c (t p) = true then run c t d (p + 1) else p) := h2
    by_cases h : c (t p) = true
    · rw [if_pos h] at h2'
      by_cases q : j = p
      · rw [q]; exact h
      · exact run_in d (p + 1) j (by omega) h2'
    · rw [if_neg h] at h2'; omega
theorem run_s {c : Int → Bool} {t : Nat → Int} {d p : Nat} (h : c (t p) = true) : run c t (d + 1) p = run c t d (p + 1) := if_pos h
theorem run_f {c : Int → Bool} {t : Nat → Int} {d p : Nat} (h : c (t p) = false) : run c t d p = p := by
  cases d with
  | zero => rfl
  | succ d => show (if c (t p) = true then _ else p) = p; rw [h]; rfl
def isSp (z : Int) : Bool := decide (z = 32)
def isDg (z : Int) : Bool := btw z 48 57
def isLt (z : Int) : Bool := btw z 97 122
def vC (t : Nat → Int) (s : Nat) : Nat → Int
  | 0 => 0
  | n + 1 => mn (10 * vC t s n + t (s + n) - 48) 100
def sT (t : Nat → Int) (L p : Nat) : Nat := run isSp t (L - p) p
def eDg (t : Nat → Int) (L s : Nat) : Nat := run isDg t (L - s) s
def eLt (t : Nat → Int) (L s : Nat) : Nat := run isLt t (L - s) s
def nTk (t : Nat → Int) (L s : Nat) : Int := if 99 < vC t s (eDg t L s - s) ∨ (1 < eDg t L s - s ∧ t s = 48) then 13 else 12
def tk (t : Nat → Int) (L p : Nat) : Int := if L ≤ sT t L p then 10 else if t (sT t L p) = 59 then 11 else if isDg (t (sT t L p)) = true then nTk t L (sT t L p) else if isLt (t (sT t L p)) = true then wk (fun i => t (sT t L p + i)) (eLt t L (sT t L p) - sT t L p) else 13
def en (t : Nat → Int) (L p : Nat) : Nat := if L ≤ sT t L p then sT t L p else if t (sT t L p) = 59 then sT t L p + 1 else if isDg (t (sT t L p)) = true then eDg t L (sT t L p) else if isLt (t (sT t L p)) = true then eLt t L (sT t L p) else sT t L p
def vl (t : Nat → Int) (L p : Nat) : Int := vC t (sT t L p) (eDg t L (sT t L p) - sT t L p)
def okT (t : Nat → Int) (L : Nat) : Prop := L ≤ 400 ∧ ∀ j, j < L → -128 ≤ t j ∧ t j ≤ 127
def TxC (t : Nat → Int) (L : Nat) (M : Mem) : Prop := M.1 1 2 = i32 L ∧ ∀ j, j < L → M.1 2 j = i32 (t j)
def F1 (M M' : Mem) : Prop := M'.2 = M.2 ∧ (∀ a, a ≠ 1 → M'.1 a = M.1 a) ∧ M'.1 1 2 = M.1 1 2
theorem F1.rf {M : Mem} : F1 M M := ⟨rfl, fun _ _ => rfl, rfl⟩
theorem F1.tr {M M1 M2 : Mem} (h : F1 M M1) (k : F1 M1 M2) : F1 M M2 := ⟨k.1.trans h.1, fun a q => (k.2.1 a q).trans (h.2.1 a q), k.2.2.trans h.2.2⟩
theorem F1.w {M : Mem} {j : Nat} {x : Int32} (h : j ≠ 2) : F1 M (sI M 1 j x) := ⟨rfl, fun a q => sI_ne q, sI_nj (Ne.symm h)⟩
theorem TxC.f1 {t : Nat → Int} {L : Nat} {M M' : Mem} (h : TxC t L M) (k : F1 M M') : TxC t L M' := ⟨k.2.2.trans h.1, fun j hj => by rw [k.2.1 2 (by decide)]; exact h.2 j hj⟩
theorem sT_b (t : Nat → Int) {L p : Nat} (hp : p ≤ L) : p ≤ sT t L p ∧ sT t L p ≤ L := by
  have := run_b (c := isSp) (t := t) (L - p) p
  unfold sT
  omega
theorem eD_b (t : Nat → Int) {L s : Nat} (hp : s ≤ L) : s ≤ eDg t L s ∧ eDg t L s ≤ L := by
  have := run_b (c := isDg) (t := t) (L - s) s
  unfold eDg
  omega
theorem eL_b (t : Nat → Int) {L s : Nat} (hp : s ≤ L) : s ≤ eLt t L s ∧ eLt t L s ≤ L := by
  have := run_b (c := isLt) (t := t) (L - s) s
  unfold eLt
  omega
theorem vC_b {t : Nat → Int} {s : Nat} : ∀ n, (∀ j, s ≤ j → j < s + n → isDg (t j) = true) → 0 ≤ vC t s n ∧ vC t s n ≤ 100
  | 0, _ => by rw [show vC t s 0 = 0 from rfl]; decide
  | n + 1, h => by
    have ih := vC_b n (fun j h1 h2 => h j h1 (by omega))
    have hd := btw_t (h (s + n) (by omega) (by omega))
    show 0 ≤ mn (10 * vC t s n + t (s + n) - 48) 100 ∧ mn (10 * vC t s n + t (s + n) - 48) 100 ≤ 100
    unfold mn
    by_cases q : 100 < 10 * vC t s n + t (s + n) - 48
    · rw [if_pos q]; omega
    · rw [if_neg q]; omega
theorem byte_C {t : Nat → Int} {L : Nat} (hT : okT t L) {M : Mem} (hx : TxC t L M) {p : Nat} (hp : p < L) : rI M 2 400 (i32 (p : Int)) = some (i32 (t p)) := by
  have := hT.1
  rw [rI_ok (by omega), show ((p : Int)).toNat = p by omega, hx.2 p hp]
theorem skip_L {t : Nat → Int} {L : Nat} (hT : okT t L) : ∀ (d n p : Nat) (M : Mem), p + d = L → d < n → TxC t L M → M.1 1 3 = i32 (p : Int) → ∃ M', fX3_nextToken_0L n M = fX3_nextToken_38 M' ∧ F1 M M' ∧ M'.1 1 3 = i32 ((run isSp t d p : Nat) : Int) := by
  have h400 := hT.1
  intro d
  induction d with
  | zero =>
    intro n p M h1 h2 hx h3
    obtain ⟨n, rfl⟩ : ∃ m, n = m + 1 := ⟨n - 1, by omega⟩
    refine ⟨M, ?_, F1.rf, h3⟩
    show fX3_nextToken_0B (fX3_nextToken_0L n) M = _
    unfold fX3_nextToken_0B
    rw [hx.1, h3, if_pos ((i32_le (by omega)).mpr (by omega))]
  | succ d ih =>
    intro n p M h1 h2 hx h3
    obtain ⟨n, rfl⟩ : ∃ m, n = m + 1 := ⟨n - 1, by omega⟩
    have hb := hT.2 p (by omega)
    have e0 : fX3_nextToken_0L (n + 1) M = if i32 (t p) = 32 then fX3_nextToken_0L n (sI M 1 3 (i32 ((p + 1 : Nat) : Int))) else fX3_nextToken_38 M := by
      show fX3_nextToken_0B (fX3_nextToken_0L n) M = _
      unfold fX3_nextToken_0B wF
      rw [hx.1, h3, if_neg (fun z => absurd ((i32_le (by omega)).mp z) (by omega)), byte_C hT hx (by omega)]
      simp only [Option.bind_some, Option.bind_none]
      rw [show (1 : Int32) = i32 1 from rfl, i32_add]
      rfl
    rw [e0]
    by_cases z : t p = 32
    · have hs : isSp (t p) = true := decide_eq_true z
      rw [if_pos (show i32 (t p) = 32 by rw [z]; rfl)]
      have f1 : F1 M (sI M 1 3 (i32 ((p + 1 : Nat) : Int))) := F1.w (by decide)
      obtain ⟨M', g1, g2, g3⟩ := ih n (p + 1) (sI M 1 3 (i32 ((p + 1 : Nat) : Int))) (by omega) (by omega) (hx.f1 f1) (sI_at _ _ _ _)
      exact ⟨M', g1, f1.tr g2, by rw [run_s hs]; exact g3⟩
    · have hs : isSp (t p) = false := decide_eq_false z
      rw [if_neg (show ¬ i32 (t p) = 32 from fun q => z ((i32_inj (b := 32) (by omega)).mp q))]
      exact ⟨M, rfl, F1.rf, by rw [run_f hs]; exact h3⟩
theorem num_L {t : Nat → Int} {L : Nat} (hT : okT t L) {s : Nat} : ∀ (d n p : Nat) (M : Mem), p + d = L → d < n → TxC t L M → s ≤ p → (∀ j, s ≤ j → j < p → isDg (t j) = true) → M.1 1 3 = i32 (p : Int) → M.1 1 5 = i32 (s : Int) → M.1 1 6 = i32 (vC t s (p - s)) → ∃ M', fX3_takeNumber_5L n M = fX3_takeNumber_77 M' ∧ F1 M M' ∧ M'.1 1 3 = i32 ((run isDg t d p : Nat) : Int) ∧ M'.1 1 5 = i32 (s : Int) ∧ M'.1 1 6 = i32 (vC t s (run isDg t d p - s)) := by
  have h400 := hT.1
  intro d
  induction d with
  | zero =>
    intro n p M h1 h2 hx hs hdg h3 h5 h6
    obtain ⟨n, rfl⟩ : ∃ m, n = m + 1 := ⟨n - 1, by omega⟩
    refine ⟨M, ?_, F1.rf, h3, h5, h6⟩
    show fX3_takeNumber_5B (fX3_takeNumber_5L n) M = _
    unfold fX3_takeNumber_5B
    rw [hx.1, h3, if_pos ((i32_le (by omega)).mpr (by omega))]
  | succ d ih =>
    intro n p M h1 h2 hx hs hdg h3 h5 h6
    obtain ⟨n, rfl⟩ : ∃ m, n = m + 1 := ⟨n - 1, by omega⟩
    have hb := hT.2 p (by omega)
    have hv := vC_b (t := t) (s := s) (p - s) (fun j q1 q2 => hdg j q1 (by omega))
    have e0 : fX3_takeNumber_5L (n + 1) M = if isDg (t p) = true then fX3_takeNumber_5L n (sI (sI M 1 6 (i32 (vC t s (p + 1 - s)))) 1 3 (i32 ((p + 1 : Nat) : Int))) else fX3_takeNumber_77 M := by
      show fX3_takeNumber_5B (fX3_takeNumber_5L n) M = _
      unfold fX3_takeNumber_5B wF
      rw [hx.1, h3, if_neg (fun z => absurd ((i32_le (by omega)).mp z) (by omega)), byte_C hT hx (by omega), h6]
      simp only [Option.bind_some, Option.bind_none]
      rw [show (48 : Int32) = i32 48 from rfl, show (57 : Int32) = i32 57 from rfl, isBetween_C (by omega), show (10 : Int32) = i32 10 from rfl, show (100 : Int32) = i32 100 from rfl, i32_mul, i32_add, i32_sub, imin_ok (by omega)]
      simp only [Option.bind_some, Option.bind_none]
      rw [sI_nj (by decide), h3, show (0 : Int32) = i32 0 from rfl, ite_bI, show (1 : Int32) = i32 1 from rfl, i32_add, show p + 1 - s = (p - s) + 1 by omega]
      show (if isDg (t p) = true then _ else _) = _
      have e : vC t s (p - s + 1) = mn (10 * vC t s (p - s) + t p - 48) 100 := by
        show mn (10 * vC t s (p - s) + t (s + (p - s)) - 48) 100 = _
        rw [show s + (p - s) = p by omega]
      rw [e]
      rfl
    rw [e0]
    cases hd : isDg (t p) with
    | true =>
      rw [if_pos rfl]
      have f1 : F1 M (sI (sI M 1 6 (i32 (vC t s (p + 1 - s)))) 1 3 (i32 ((p + 1 : Nat) : Int))) := (F1.w (by decide)).tr (F1.w (by decide))
      obtain ⟨M', g1, g2, g3, g4, g5⟩ := ih n (p + 1) _ (by omega) (by omega) (hx.f1 f1) (by omega) (fun j q1 q2 => by
        by_cases z : j = p
        · rw [z]; exact hd
        · exact hdg j q1 (by omega)) (sI_at _ _ _ _) (by rw [sI_nj (by decide), sI_nj (by decide)]; exact h5) (by rw [sI_nj (by decide), sI_at])
      exact ⟨M', g1, f1.tr g2, by rw [run_s hd]; exact g3, g4, by rw [run_s hd]; exact g5⟩
    | false =>
      rw [if_neg (by decide), run_f hd]
      exact ⟨M, rfl, F1.rf, h3, h5, h6⟩
theorem wrd_L {t : Nat → Int} {L : Nat} (hT : okT t L) {s : Nat} : ∀ (d n p : Nat) (M : Mem), p + d = L → d < n → TxC t L M → s ≤ p → M.1 1 3 = i32 (p : Int) → M.1 1 5 = i32 (s : Int) → ∃ M', fX3_takeWord_2L n (lN (wN (fun i => t (s + i)) (p - s))) M = fX3_takeWord_61 (lN (wN (fun i => t (s + i)) (run isLt t d p - s))) M' ∧ F1 M M' ∧ M'.1 1 3 = i32 ((run isLt t d p : Nat) : Int) ∧ M'.1 1 5 = i32 (s : Int) := by
  have h400 := hT.1
  intro d
  induction d with
  | zero =>
    intro n p M h1 h2 hx hs h3 h5
    obtain ⟨n, rfl⟩ : ∃ m, n = m + 1 := ⟨n - 1, by omega⟩
    refine ⟨M, ?_, F1.rf, h3, h5⟩
    show fX3_takeWord_2B (fX3_takeWord_2L n) _ M = _
    unfold fX3_takeWord_2B
    rw [hx.1, h3, if_pos ((i32_le (by omega)).mpr (by omega))]
    rfl
  | succ d ih =>
    intro n p M h1 h2 hx hs h3 h5
    obtain ⟨n, rfl⟩ : ∃ m, n = m + 1 := ⟨n - 1, by omega⟩
    have hb := hT.2 p (by omega)
    have e0 : fX3_takeWord_2L (n + 1) (lN (wN (fun i => t (s + i)) (p - s))) M = if isLt (t p) = true then fX3_takeWord_2L n ((lN (wN (fun i => t (s + i)) (p - s)) <<< ((8 : Int32).toInt64 &&& 63)) ||| (i32 (t p)).toInt64) (sI M 1 3 (i32 ((p + 1 : Nat) : Int))) else fX3_takeWord_61 (lN (wN (fun i => t (s + i)) (p - s))) M := by
      show fX3_takeWord_2B (fX3_takeWord_2L n) _ M = _
      unfold fX3_takeWord_2B wF
      rw [hx.1, h3, if_neg (fun z => absurd ((i32_le (by omega)).mp z) (by omega)), byte_C hT hx (by omega)]
      simp only [Option.bind_some, Option.bind_none]
      rw [show (97 : Int32) = i32 97 from rfl, show (122 : Int32) = i32 122 from rfl, isBetween_C (by omega)]
      simp only [Option.bind_some, Option.bind_none]
      rw [show (0 : Int32) = i32 0 from rfl, ite_bI, show (1 : Int32) = i32 1 from rfl, i32_add]
      rfl
    rw [e0]
    cases hd : isLt (t p) with
    | true =>
      have hl := btw_t hd
      rw [if_pos rfl]
      have f1 : F1 M (sI M 1 3 (i32 ((p + 1 : Nat) : Int))) := F1.w (by decide)
      obtain ⟨M', g1, g2, g3, g4⟩ := ih n (p + 1) _ (by omega) (by omega) (hx.f1 f1) (by omega) (sI_at _ _ _ _) (by rw [sI_nj (by decide)]; exact h5)
      refine ⟨M', ?_, f1.tr g2, by rw [run_s hd]; exact g3, g4⟩
      rw [run_s hd, ← g1]
      have ez : i32 (t p) = i32 (((t p).toNat : Nat) : Int) := by rw [show (((t p).toNat : Nat) : Int) = t p by omega]
      rw [ez, word_s (by omega), show p + 1 - s = (p - s) + 1 by omega]
      have ew : wN (fun i => t (s + i)) (p - s + 1) = (wN (fun i => t (s + i)) (p - s) * 256 + (t p).toNat) % 18446744073709551616 := by
        show (wN (fun i => t (s + i)) (p - s) * 256 + (t (s + (p - s))).toNat) % 18446744073709551616 = _
        rw [show s + (p - s) = p by omega]
      rw [ew]
    | false =>
      rw [if_neg (by decide), run_f hd]
      exact ⟨M, rfl, F1.rf, h3, h5⟩
theorem nTk_C {t : Nat → Int} {L : Nat} (hT : okT t L) {M : Mem} (hx : TxC t L M) {s e : Nat} (hs : s < L) (he : s ≤ e ∧ e ≤ L) (h3 : M.1 1 3 = i32 (e : Int)) (h5 : M.1 1 5 = i32 (s : Int)) {v : Int} (hv : 0 ≤ v ∧ v ≤ 100) (h6 : M.1 1 6 = i32 v) : fX3_takeNumber_77 M = some (sI M 1 4 (i32 (if 99 < v ∨ (1 < e - s ∧ t s = 48) then 13 else 12))) := by
  have h400 := hT.1
  have hb := hT.2 s hs
  have e109 : ∀ c : Bool, fX3_takeNumber_109 (i32 (bI c)) M = some (sI M 1 4 (i32 (if 99 < v ∨ c = true then 13 else 12))) := fun c => by
    unfold fX3_takeNumber_109 fX3_takeNumber_124 wF
    rw [h6, show (99 : Int32) = i32 99 from rfl]
    simp only [Option.bind_some, Option.bind_none]
    by_cases z : 99 < v
    · rw [if_pos ((i32_lt (by omega)).mpr z), if_pos (Or.inl z)]; rfl
    · rw [if_neg (fun w => z ((i32_lt (by omega)).mp w))]
      cases c with
      | true => rw [if_neg (by decide), if_pos (Or.inr rfl)]; rfl
      | false => rw [if_pos (by decide), if_neg (fun w => w.elim z (fun q => Bool.noConfusion q))]; rfl
  have e0 : fX3_takeNumber_109 0 M = some (sI M 1 4 (i32 (if 99 < v ∨ false = true then 13 else 12))) := e109 false
  have e1 : fX3_takeNumber_109 1 M = some (sI M 1 4 (i32 (if 99 < v ∨ true = true then 13 else 12))) := e109 true
  unfold fX3_takeNumber_77 fX3_takeNumber_108
  rw [h3, h5, i32_sub, e0, e1]
  by_cases z : e - s ≤ 1
  · rw [if_pos (show i32 ((e : Int) - (s : Int)) ≤ 1 from (i32_le (b := 1) (by omega)).mpr (by omega))]
    congr 3
    by_cases y : 99 < v
    · rw [if_pos (Or.inl y), if_pos (Or.inl y)]
    · rw [if_neg (fun w => w.elim y (fun q => Bool.noConfusion q)), if_neg (fun w => w.elim y (fun q => absurd q.1 (by omega)))]
  · rw [if_neg (show ¬ i32 ((e : Int) - (s : Int)) ≤ 1 from fun q => absurd ((i32_le (b := 1) (by omega)).mp q) (by omega)), byte_C hT hx hs]
    simp only [Option.bind_some, Option.bind_none]
    by_cases y : t s = 48
    · rw [if_pos (show i32 (t s) = 48 by rw [y]; rfl)]
      rw [if_pos (Or.inr trivial), if_pos (Or.inr ⟨by omega, y⟩)]
    · rw [if_neg (show ¬ i32 (t s) = 48 from fun q => y ((i32_inj (b := 48) (by omega)).mp q))]
      congr 3
      by_cases x : 99 < v
      · rw [if_pos (Or.inl x), if_pos (Or.inl x)]
      · rw [if_neg (fun w => w.elim x (fun q => Bool.noConfusion q)), if_neg (fun w => w.elim x (fun q => absurd q.2 y))]
theorem wk_n12 (l : Nat → Int) (n : Nat) : wk l n ≠ 12 ∧ wk l n ≠ 10 ∧ wk l n ≠ 11 ∧ (wk l n = 13 ∨ (0 ≤ wk l n ∧ wk l n ≤ 3)) := by
  unfold wk
  cases mB l wSq n <;> cases mB l wWa n <;> cases mB l wPe n <;> cases mB l wPi n <;> decide
/-- what a token leaves in the reader -/
def Rd (t : Nat → Int) (L p : Nat) (M : Mem) : Prop := M.1 1 3 = i32 ((en t L p : Nat) : Int) ∧ M.1 1 4 = i32 (tk t L p) ∧ M.1 1 5 = i32 ((sT t L p : Nat) : Int) ∧ (tk t L p = 12 → M.1 1 6 = i32 (vl t L p))
theorem nextT_C {t : Nat → Int} {L : Nat} (hT : okT t L) {p : Nat} (hp : p ≤ L) {M : Mem} (hx : TxC t L M) (h3 : M.1 1 3 = i32 (p : Int)) : ∃ M', fX3_nextToken M = some M' ∧ F1 M M' ∧ Rd t L p M' := by
  have h400 := hT.1
  obtain ⟨M1, k1, k2, k3⟩ := skip_L hT (L - p) FU p M (by omega) (by unfold FU; omega) hx h3
  have hsb := sT_b t hp
  have k3' : M1.1 1 3 = i32 ((sT t L p : Nat) : Int) := k3
  have f5 : F1 M1 (sI M1 1 5 (i32 ((sT t L p : Nat) : Int))) := F1.w (by decide)
  have hx1 := (hx.f1 k2).f1 f5
  have h33 : (sI M1 1 5 (i32 ((sT t L p : Nat) : Int))).1 1 3 = i32 ((sT t L p : Nat) : Int) := by rw [sI_nj (by decide)]; exact k3'
  have h55 : (sI M1 1 5 (i32 ((sT t L p : Nat) : Int))).1 1 5 = i32 ((sT t L p : Nat) : Int) := sI_at _ _ _ _
  generalize hM2 : sI M1 1 5 (i32 ((sT t L p : Nat) : Int)) = M2 at *
  have e38 : fX3_nextToken_38 M1 = if M2.1 1 3 < M2.1 1 2 then (rI M2 2 400 (M2.1 1 3)).bind fun v2 => if v2 = 59 then some (sI (sI M2 1 4 11) 1 3 ((sI M2 1 4 11).1 1 3 + 1)) else (rI M2 2 400 (M2.1 1 3)).bind fun v3 => (fX4_isBetween v3 48 57).bind fun v4 => if v4 = 0 then (rI M2 2 400 (M2.1 1 3)).bind fun v5 => (fX4_isBetween v5 97 122).bind fun v6 => if v6 = 0 then some (sI M2 1 4 13) else (fX3_takeWord M2).bind fun v8 => some v8 else (fX3_takeNumber M2).bind fun v9 => some v9 else some (sI M2 1 4 10) := by
    unfold fX3_nextToken_38 wF
    simp only [Option.bind_some, Option.bind_none]
    rw [k3', hM2]
  have k1' : fX3_nextToken M = fX3_nextToken_38 M1 := k1
  rw [k1', e38, h33, hx1.1]
  have fm := k2.tr f5
  by_cases hL : L ≤ sT t L p
  · rw [if_neg (fun z => absurd ((i32_lt (by omega)).mp z) (by omega))]
    refine ⟨_, rfl, fm.tr (F1.w (by decide)), ?_, ?_, ?_, fun h => ?_⟩
    · rw [sI_nj (by decide), h33]; unfold en; rw [if_pos hL]
    · rw [sI_at]; unfold tk; rw [if_pos hL]; rfl
    · rw [sI_nj (by decide), h55]
    · unfold tk at h; rw [if_pos hL] at h; exact absurd h (by decide)
  · have hb := hT.2 (sT t L p) (by omega)
    rw [if_pos ((i32_lt (by omega)).mpr (by omega)), byte_C hT hx1 (by omega)]
    simp only [Option.bind_some, Option.bind_none]
    by_cases h59 : t (sT t L p) = 59
    · rw [if_pos (show i32 (t (sT t L p)) = 59 by rw [h59]; rfl)]
      refine ⟨_, rfl, (fm.tr (F1.w (by decide))).tr (F1.w (by decide)), ?_, ?_, ?_, fun h => ?_⟩
      · rw [sI_at, sI_nj (by decide), h33, show (1 : Int32) = i32 1 from rfl, i32_add]; unfold en; rw [if_neg hL, if_pos h59]; rfl
      · rw [sI_nj (by decide), sI_at]; unfold tk; rw [if_neg hL, if_pos h59]; rfl
      · rw [sI_nj (by decide), sI_nj (by decide), h55]
      · unfold tk at h; rw [if_neg hL, if_pos h59] at h; exact absurd h (by decide)
    · rw [if_neg (show ¬ i32 (t (sT t L p)) = 59 from fun q => h59 ((i32_inj (b := 59) (by omega)).mp q)), show (48 : Int32) = i32 48 from rfl, show (57 : Int32) = i32 57 from rfl, isBetween_C (by omega), show (97 : Int32) = i32 97 from rfl, show (122 : Int32) = i32 122 from rfl, isBetween_C (by omega)]
      simp only [Option.bind_some, Option.bind_none]
      rw [show (0 : Int32) = i32 0 from rfl, ite_bI, ite_bI]
      show ∃ M', (if isDg (t (sT t L p)) = true then _ else (if isLt (t (sT t L p)) = true then _ else _)) = _ ∧ _
      cases hd : isDg (t (sT t L p)) with
      | true =>
        rw [if_pos rfl]
        have f6 : F1 M2 (sI M2 1 6 0) := F1.w (by decide)
        obtain ⟨M3, n1, n2, n3, n4, n5⟩ := num_L hT (s := sT t L p) (L - sT t L p) FU (sT t L p) (sI M2 1 6 0) (by omega) (by unfold FU; omega) (hx1.f1 f6) (Nat.le_refl _) (fun j q1 q2 => absurd q2 (by omega)) (by rw [sI_nj (by decide)]; exact h33) (by rw [sI_nj (by decide)]; exact h55) (by rw [sI_at, Nat.sub_self]; rfl)
        have heb := eD_b t (show sT t L p ≤ L by omega)
        have hrun : run isDg t (L - sT t L p) (sT t L p) = eDg t L (sT t L p) := rfl
        rw [hrun] at n3 n5
        have hv := vC_b (t := t) (s := sT t L p) (eDg t L (sT t L p) - sT t L p) (fun j q1 q2 => run_in (c := isDg) (L - sT t L p) (sT t L p) j q1 (by rw [hrun]; omega))
        have h77 := nTk_C hT ((hx1.f1 f6).f1 n2) (s := sT t L p) (e := eDg t L (sT t L p)) (by omega) heb n3 n4 hv n5
        refine ⟨sI M3 1 4 (i32 (nTk t L (sT t L p))), ?_, ((fm.tr f6).tr n2).tr (F1.w (by decide)), ?_, ?_, ?_, fun h => ?_⟩
        · unfold fX3_takeNumber wF
          simp only [Option.bind_some, Option.bind_none]
          rw [n1, h77]
          rfl
        · rw [sI_nj (by decide), n3]; unfold en; rw [if_neg hL, if_neg h59, hd, if_pos rfl]
        · rw [sI_at]; unfold tk; rw [if_neg hL, if_neg h59, hd, if_pos rfl]
        · rw [sI_nj (by decide), n4]
        · rw [sI_nj (by decide), n5]; rfl
      | false =>
        rw [if_neg (by decide)]
        cases hl : isLt (t (sT t L p)) with
        | true =>
          rw [if_pos rfl]
          obtain ⟨M3, n1, n2, n3, n4⟩ := wrd_L hT (s := sT t L p) (L - sT t L p) FU (sT t L p) M2 (by omega) (by unfold FU; omega) hx1 (Nat.le_refl _) h33 h55
          have hrun : run isLt t (L - sT t L p) (sT t L p) = eLt t L (sT t L p) := rfl
          have heb := eL_b t (show sT t L p ≤ L by omega)
          rw [hrun] at n1 n3
          rw [Nat.sub_self, show lN (wN (fun i => t (sT t L p + i)) 0) = (0 : Int64) from rfl] at n1
          have hlt : ltr (fun i => t (sT t L p + i)) (eLt t L (sT t L p) - sT t L p) := fun i hi => btw_t (run_in (c := isLt) (L - sT t L p) (sT t L p) (sT t L p + i) (by omega) (by rw [hrun]; omega))
          rw [word_C hlt M3] at n1
          refine ⟨sI M3 1 4 (i32 (wk (fun i => t (sT t L p + i)) (eLt t L (sT t L p) - sT t L p))), ?_, (fm.tr n2).tr (F1.w (by decide)), ?_, ?_, ?_, fun h => ?_⟩
          · unfold fX3_takeWord
            rw [n1]
            rfl
          · rw [sI_nj (by decide), n3]; unfold en; rw [if_neg hL, if_neg h59, hd, if_neg (by decide), hl, if_pos rfl]
          · rw [sI_at]; unfold tk; rw [if_neg hL, if_neg h59, hd, if_neg (by decide), hl, if_pos rfl]
          · rw [sI_nj (by decide), n4]
          · unfold tk at h; rw [if_neg hL, if_neg h59, hd, if_neg (by decide), hl, if_pos rfl] at h; exact absurd h (wk_n12 _ _).1
        | false =>
          rw [if_neg (by decide)]
          refine ⟨_, rfl, fm.tr (F1.w (by decide)), ?_, ?_, ?_, fun h => ?_⟩
          · rw [sI_nj (by decide), h33]; unfold en; rw [if_neg hL, if_neg h59, hd, if_neg (by decide), hl, if_neg (by decide)]
          · rw [sI_at]; unfold tk; rw [if_neg hL, if_neg h59, hd, if_neg (by decide), hl, if_neg (by decide)]; rfl
          · rw [sI_nj (by decide), h55]
          · unfold tk at h; rw [if_neg hL, if_neg h59, hd, if_neg (by decide), hl, if_neg (by decide)] at h; exact absurd h (by decide)

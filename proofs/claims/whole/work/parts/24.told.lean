/-! told. -/
def sb (S : Sc) (i p : Nat) : Bool := bt (shP S i) p
def fstF (S : Sc) (p : Nat) : Nat → Int
  | 0 => -9
  | i + 1 => if sb S i p = true then (if fstF S p i = -9 then cQd S i 4 else if fstF S p i ≤ cQd S i 4 then fstF S p i else cQd S i 4) else fstF S p i
def lstF (S : Sc) (p : Nat) : Nat → Int
  | 0 => -9
  | i + 1 => if sb S i p = true then (if lstF S p i < cQd S i 4 then cQd S i 4 else lstF S p i) else lstF S p i
theorem fstF_s (S : Sc) (p i : Nat) : fstF S p (i + 1) = if sb S i p = true then (if fstF S p i = -9 then cQd S i 4 else if fstF S p i ≤ cQd S i 4 then fstF S p i else cQd S i 4) else fstF S p i := rfl
theorem lstF_s (S : Sc) (p i : Nat) : lstF S p (i + 1) = if sb S i p = true then (if lstF S p i < cQd S i 4 then cQd S i 4 else lstF S p i) else lstF S p i := rfl
theorem fst_b {S : Sc} (hS : okS S) (p : Nat) : ∀ i, i ≤ cI S → (-9 ≤ fstF S p i ∧ fstF S p i ≤ 99) ∧ (-9 ≤ lstF S p i ∧ lstF S p i ≤ 99)
  | 0, _ => by rw [show fstF S p 0 = -9 from rfl, show lstF S p 0 = -9 from rfl]; omega
  | i + 1, h => by
    have ih := fst_b hS p i (by omega)
    obtain ⟨-, -, -, -, q4⟩ := hS.2.2.2.2.2.1 i (by omega)
    rw [fstF_s, lstF_s]
    constructor
    · split
      · split
        · omega
        · split <;> omega
      · omega
    · split
      · split <;> omega
      · omega
theorem first_L {b : Nat} {S : Sc} {M : Mem} (hS : okS S) (hR : RC b S M) (hSh : ∀ i, i < cI S → M.1 (b + 6) i = shP S i) {p : Nat} (hp : p < cP S) : ∀ (d n i : Nat), i + d = cI S → d < n → fX2_firstSecondOf_5L b M n (i32 p) (i32 (fstF S p i)) (i32 i) = some (i32 (fstF S p (cI S))) := by
  have h8 := hS.2.2.1
  have h10 := hS.2.2.2.1
  intro d
  induction d with
  | zero =>
    intro n i hd hn
    obtain ⟨n, rfl⟩ : ∃ m, n = m + 1 := ⟨n - 1, by omega⟩
    show fX2_firstSecondOf_5B _ b (i32 p) _ (i32 i) M = _
    unfold fX2_firstSecondOf_5B
    rw [hR.2.2.2.1, if_pos ((i32_le (by omega)).mpr (by omega)), show i = cI S by omega]
  | succ d ih =>
    intro n i hd hn
    obtain ⟨n, rfl⟩ : ∃ m, n = m + 1 := ⟨n - 1, by omega⟩
    have hi : i < cI S := by omega
    have E4 := ofPicture_C hS hR hi (show 4 < 5 by decide)
    rw [show ((4 : Nat) : Int) = 4 from rfl] at E4
    obtain ⟨-, -, -, -, q4⟩ := hS.2.2.2.2.2.1 i hi
    have fb := (fst_b hS p i (by omega)).1
    show fX2_firstSecondOf_5B (fX2_firstSecondOf_5L b M n) b (i32 p) _ (i32 i) M = _
    unfold fX2_firstSecondOf_5B
    rw [hR.2.2.2.1, if_neg (fun q => absurd ((i32_le (by omega)).mp q) (by omega)), show (4 : Int32) = i32 4 from rfl, E4, rI_ok (by omega), show ((i : Int)).toNat = i by omega, hSh i hi]
    simp only [Option.bind_some, Option.bind_none]
    rw [i32_nI p, bit_of (by omega), ← i32_nI p]
    unfold fX2_firstSecondOf_46 fX2_firstSecondOf_49
    simp only [L0, L1, L2, L3, L4, L5, L6, L7, L8, L9, L10, L11, L12, L13, L15, L16, L20, L24, L31, L32, L40, L41, L48, L50, L57, L59, L63, L80, L81, L96, L97, L99, L100, L122, L144, L199, L255, L400, L1681, L68921, L1000000, i32_add, i32_sub, i32_mul, i32_neg, Option.bind_some, Option.bind_none, ite_bI]
    rw [show (i : Int) + 1 = ((i + 1 : Nat) : Int) by omega]
    have ihp := ih n (i + 1) (by omega) (by omega)
    rw [fstF_s] at ihp
    rw [← ihp, show bt (shP S i) p = sb S i p from rfl]
    cases sb S i p with
    | false => rfl
    | true =>
      rw [if_pos rfl, if_pos rfl]
      by_cases c1 : fstF S p i = -9
      · rw [if_pos (by rw [c1]), if_pos c1]
      · rw [if_neg (fun q => c1 ((i32_inj (by omega)).mp q)), if_neg c1]
        by_cases c2 : fstF S p i ≤ cQd S i 4
        · rw [if_pos ((i32_le (by omega)).mpr c2), if_pos c2]
        · rw [if_neg (fun q => c2 ((i32_le (by omega)).mp q)), if_neg c2]
theorem last_L {b : Nat} {S : Sc} {M : Mem} (hS : okS S) (hR : RC b S M) (hSh : ∀ i, i < cI S → M.1 (b + 6) i = shP S i) {p : Nat} (hp : p < cP S) : ∀ (d n i : Nat), i + d = cI S → d < n → fX2_lastSecondOf_5L b M n (i32 p) (i32 (lstF S p i)) (i32 i) = some (i32 (lstF S p (cI S))) := by
  have h8 := hS.2.2.1
  have h10 := hS.2.2.2.1
  intro d
  induction d with
  | zero =>
    intro n i hd hn
    obtain ⟨n, rfl⟩ : ∃ m, n = m + 1 := ⟨n - 1, by omega⟩
    show fX2_lastSecondOf_5B _ b (i32 p) _ (i32 i) M = _
    unfold fX2_lastSecondOf_5B
    rw [hR.2.2.2.1, if_pos ((i32_le (by omega)).mpr (by omega)), show i = cI S by omega]
  | succ d ih =>
    intro n i hd hn
    obtain ⟨n, rfl⟩ : ∃ m, n = m + 1 := ⟨n - 1, by omega⟩
    have hi : i < cI S := by omega
    have E4 := ofPicture_C hS hR hi (show 4 < 5 by decide)
    rw [show ((4 : Nat) : Int) = 4 from rfl] at E4
    obtain ⟨-, -, -, -, q4⟩ := hS.2.2.2.2.2.1 i hi
    have fb := (fst_b hS p i (by omega)).2
    show fX2_lastSecondOf_5B (fX2_lastSecondOf_5L b M n) b (i32 p) _ (i32 i) M = _
    unfold fX2_lastSecondOf_5B
    rw [hR.2.2.2.1, if_neg (fun q => absurd ((i32_le (by omega)).mp q) (by omega)), show (4 : Int32) = i32 4 from rfl, E4, rI_ok (by omega), show ((i : Int)).toNat = i by omega, hSh i hi]
    simp only [Option.bind_some, Option.bind_none]
    rw [i32_nI p, bit_of (by omega), ← i32_nI p, imax_ok (by omega)]
    unfold fX2_lastSecondOf_37
    simp only [L0, L1, L2, L3, L4, L5, L6, L7, L8, L9, L10, L11, L12, L13, L15, L16, L20, L24, L31, L32, L40, L41, L48, L50, L57, L59, L63, L80, L81, L96, L97, L99, L100, L122, L144, L199, L255, L400, L1681, L68921, L1000000, i32_add, i32_sub, i32_mul, i32_neg, Option.bind_some, Option.bind_none, ite_bI]
    rw [show (i : Int) + 1 = ((i + 1 : Nat) : Int) by omega]
    have ihp := ih n (i + 1) (by omega) (by omega)
    rw [lstF_s] at ihp
    rw [← ihp, show bt (shP S i) p = sb S i p from rfl]
    cases sb S i p <;> rfl
/-- with whom how often -/
def wn (S : Sc) (p i q : Nat) : Nat := if q = p then 0 else fb_ct (fun i => sb S i p && sb S i q) i
def moF (S : Sc) (p : Nat) : Nat → Nat
  | 0 => 0
  | q + 1 => if moF S p q < wn S p (cI S) q then wn S p (cI S) q else moF S p q
def fdF (S : Sc) (p : Nat) : Nat → Int
  | 0 => -9
  | q + 1 => if moF S p q < wn S p (cI S) q then (q : Int) else fdF S p q
theorem moF_s (S : Sc) (p q : Nat) : moF S p (q + 1) = if moF S p q < wn S p (cI S) q then wn S p (cI S) q else moF S p q := rfl
theorem fdF_s (S : Sc) (p q : Nat) : fdF S p (q + 1) = if moF S p q < wn S p (cI S) q then (q : Int) else fdF S p q := rfl
theorem wn_le (S : Sc) (p i q : Nat) : wn S p i q ≤ i := by
  unfold wn
  split
  · exact Nat.zero_le _
  · exact fb_ct_le _ _
theorem moF_b {S : Sc} (hS : okS S) (p : Nat) : ∀ q, q ≤ 8 → moF S p q ≤ 10 ∧ ((fdF S p q = -9 ∧ moF S p q = 0) ∨ ∃ j, j < q ∧ fdF S p q = (j : Int) ∧ wn S p (cI S) j = moF S p q)
  | 0, _ => ⟨Nat.zero_le _, Or.inl ⟨rfl, rfl⟩⟩
  | q + 1, h => by
    obtain ⟨i1, i2⟩ := moF_b hS p q (by omega)
    have := wn_le S p (cI S) q
    have := hS.2.2.2.1
    rw [moF_s, fdF_s]
    by_cases c : moF S p q < wn S p (cI S) q
    · rw [if_pos c, if_pos c]
      exact ⟨by omega, Or.inr ⟨q, by omega, rfl, rfl⟩⟩
    · rw [if_neg c, if_neg c]
      refine ⟨i1, ?_⟩
      rcases i2 with h | ⟨j, h1, h2, h3⟩
      · exact Or.inl h
      · exact Or.inr ⟨j, by omega, h2, h3⟩
theorem sb_hi {S : Sc} (hS : okS S) {i q : Nat} (h1 : cP S ≤ q) (h2 : q < 32) : sb S i q = false := by
  have := hS.2.2.1
  unfold sb shP shS
  rw [bt_acc (by omega) h2, decide_eq_false (by omega), Bool.false_and]
theorem wn_hi {S : Sc} (hS : okS S) {p i q : Nat} (h1 : cP S ≤ q) (h2 : q < 32) : wn S p i q = 0 := by
  unfold wn
  split
  · rfl
  · rw [fb_ct_zero]
    intro k hk
    rw [sb_hi hS h1 h2, Bool.and_false]
theorem fd_8 {S : Sc} (hS : okS S) (p : Nat) : ∀ d, cP S + d ≤ 8 → fdF S p (cP S + d) = fdF S p (cP S) ∧ moF S p (cP S + d) = moF S p (cP S)
  | 0, _ => ⟨rfl, rfl⟩
  | d + 1, h => by
    obtain ⟨h1, h2⟩ := fd_8 hS p d (by omega)
    rw [show cP S + (d + 1) = (cP S + d) + 1 from rfl, fdF_s, moF_s, wn_hi hS (by omega) (by omega), if_neg (by omega), if_neg (by omega)]
    exact ⟨h1, h2⟩
theorem and_bit2 {x : Int32} {p q : Nat} (hp : p < 32) (hq : q < 32) : (x &&& (bit1 p ||| bit1 q)) = (bit1 p ||| bit1 q) ↔ (bt x p && bt x q) = true := by
  constructor
  · intro h
    have h1 := congrArg (fun z => bt z p) h
    have h2 := congrArg (fun z => bt z q) h
    simp only [b_and, b_or, bt_bit1 hp hp, bt_bit1 hq hq, decide_true, Bool.true_or, Bool.or_true, Bool.and_true] at h1 h2
    rw [h1, h2]; rfl
  · intro h
    rw [Bool.and_eq_true] at h
    apply b_ext
    intro i hi
    rw [b_and, b_or, bt_bit1 hp hi, bt_bit1 hq hi]
    by_cases e1 : i = p
    · subst e1; rw [h.1]; simp
    · by_cases e2 : i = q
      · subst e2; rw [h.2]; simp
      · rw [decide_eq_false e1, decide_eq_false e2]; simp
theorem often_L {b : Nat} {S : Sc} {M : Mem} (hS : okS S) (hR : RC b S M) (hSh : ∀ i, i < cI S → M.1 (b + 6) i = shP S i) {p : Nat} (hp : p < cP S) : ∀ (d n q : Nat), q + d = cP S → d < n → fX2_mostOftenWith_8L b M n (i32 p) (i32 (moF S p q)) (i32 (fdF S p q)) (i32 q) = some (i32 (fdF S p (cP S))) := by
  have h8 := hS.2.2.1
  have h10 := hS.2.2.2.1
  intro d
  induction d with
  | zero =>
    intro n q hd hn
    obtain ⟨n, rfl⟩ : ∃ m, n = m + 1 := ⟨n - 1, by omega⟩
    show fX2_mostOftenWith_8B _ b (i32 p) _ _ (i32 q) M = _
    unfold fX2_mostOftenWith_8B
    rw [hR.2.2.1, if_pos ((i32_le (by omega)).mpr (by omega)), show q = cP S by omega]
  | succ d ih =>
    intro n q hd hn
    obtain ⟨n, rfl⟩ : ∃ m, n = m + 1 := ⟨n - 1, by omega⟩
    have m1 := (moF_b hS p q (by omega)).1
    have hct : fb_ct (fun i => sb S i p && sb S i q) (cI S) ≤ 10 := Nat.le_trans (fb_ct_le _ _) h10
    show fX2_mostOftenWith_8B (fX2_mostOftenWith_8L b M n) b (i32 p) _ _ (i32 q) M = _
    unfold fX2_mostOftenWith_8B
    rw [hR.2.2.1, if_neg (fun z => absurd ((i32_le (by omega)).mp z) (by omega)), hR.2.2.2.1]
    rw [show ((1 : Int32) <<< (i32 (p : Int) &&& 31)) ||| (1 <<< (i32 (q : Int) &&& 31)) = bit1 p ||| bit1 q from rfl]
    rw [countSh_C h10 (c := fun i => sb S i p && sb S i q) (fun i hi => by rw [hSh i hi]; exact and_bit2 (by omega) (by omega))]
    unfold fX2_mostOftenWith_56
    simp only [L0, L1, L2, L3, L4, L5, L6, L7, L8, L9, L10, L11, L12, L13, L15, L16, L20, L24, L31, L32, L40, L41, L48, L50, L57, L59, L63, L80, L81, L96, L97, L99, L100, L122, L144, L199, L255, L400, L1681, L68921, L1000000, i32_add, i32_sub, i32_mul, i32_neg, Option.bind_some, Option.bind_none]
    rw [show (q : Int) + 1 = ((q + 1 : Nat) : Int) by omega]
    have ihp := ih n (q + 1) (by omega) (by omega)
    rw [moF_s, fdF_s] at ihp
    rw [← ihp]
    by_cases c1 : q = p
    · rw [if_pos (by rw [c1]), show wn S p (cI S) q = 0 from if_pos c1, if_neg (by omega), if_neg (by omega)]
    · rw [if_neg (fun z => c1 (by have := (i32_inj (by omega)).mp z; omega)), show wn S p (cI S) q = fb_ct (fun i => sb S i p && sb S i q) (cI S) from if_neg c1]
      by_cases c2 : moF S p q < fb_ct (fun i => sb S i p && sb S i q) (cI S)
      · rw [if_pos c2, if_pos c2, if_neg (fun z => absurd ((i32_le (by omega)).mp z) (by omega))]
      · rw [if_neg c2, if_neg c2, if_pos ((i32_le (by omega)).mpr (by omega))]
/-! the model -/
theorem Vm.w {M : Mem} {a j : Nat} {x : Int32} (h : a = 64 ∨ a = 66 ∨ a = 67) : Vm M (sI M a j x) := ⟨rfl, fun a' q1 q2 q3 q4 q5 q6 => sI_ne (by omega), fun j' q1 q2 => by rw [sI_ne (by omega)], by rw [sI_ne (by omega), sI_ne (by omega)]⟩
theorem toldQ_L {S : Sc} (hS : okS S) {p i : Nat} (hp : p < cP S) (hi : i < cI S) (k56 : Int32 → Int32 → Int32 → Int32 → Int32 → Int32 → Mem → Option (Int32 × Mem)) (x2 x3 x4 x5 : Int32) (hb : sb S i p = true) : ∀ (d n q : Nat) (M : Mem), RM S M → (∀ j, j < q → M.1 67 j = i32 (wn S p (i + 1) j)) → (∀ j, q ≤ j → j < 8 → M.1 67 j = i32 (wn S p i j)) → q + d = 8 → d < n → ∃ M', fX5_told_143L k56 n (i32 p) x2 x3 x4 x5 (i32 i) (shP S i) (i32 q) M = k56 (i32 p) x2 x3 x4 x5 (i32 ((i + 1 : Nat) : Int)) M' ∧ Vm M M' ∧ RM S M' ∧ (∀ j, j < 8 → M'.1 67 j = i32 (wn S p (i + 1) j)) := by
  have h8 := hS.2.2.1
  have h10 := hS.2.2.2.1
  intro d
  induction d with
  | zero =>
    intro n q M hR h1 h2 hd hn
    obtain ⟨n, rfl⟩ : ∃ m, n = m + 1 := ⟨n - 1, by omega⟩
    refine ⟨M, ?_, Vm.rf, hR, fun j hj => h1 j (by omega)⟩
    show fX5_told_143B k56 _ (i32 p) x2 x3 x4 x5 (i32 i) (shP S i) (i32 q) M = _
    unfold fX5_told_143B fX5_told_188
    simp only [L0, L1, L2, L3, L4, L5, L6, L7, L8, L9, L10, L11, L12, L13, L15, L16, L20, L24, L31, L32, L40, L41, L48, L50, L57, L59, L63, L80, L81, L96, L97, L99, L100, L122, L144, L199, L255, L400, L1681, L68921, L1000000, i32_add, i32_sub, i32_mul, i32_neg, Option.bind_some, Option.bind_none]
    rw [if_pos ((i32_le (by omega)).mpr (by omega)), show (i : Int) + 1 = ((i + 1 : Nat) : Int) by omega]
  | succ d ih =>
    intro n q M hR h1 h2 hd hn
    obtain ⟨n, rfl⟩ : ∃ m, n = m + 1 := ⟨n - 1, by omega⟩
    have hwl := wn_le S p i q
    have hnew : i32 ((wn S p i q : Int) + bI (decide (¬ q = p) && sb S i q)) = i32 (wn S p (i + 1) q) := by
      congr 1
      unfold wn
      by_cases c1 : q = p
      · rw [if_pos c1, if_pos c1, decide_eq_false (fun z => z c1)]; rfl
      · rw [if_neg c1, if_neg c1, decide_eq_true c1, Bool.true_and, fb_ct_succ, hb, Bool.true_and]
        cases sb S i q <;> rfl
    have hstep : fX5_told_143L k56 (n + 1) (i32 p) x2 x3 x4 x5 (i32 i) (shP S i) (i32 q) M = fX5_told_143L k56 n (i32 p) x2 x3 x4 x5 (i32 i) (shP S i) (i32 ((q + 1 : Nat) : Int)) (sI M 67 q (i32 (wn S p (i + 1) q))) := by
      show fX5_told_143B k56 (fX5_told_143L k56 n) (i32 p) x2 x3 x4 x5 (i32 i) (shP S i) (i32 q) M = _
      rw [← hnew]
      unfold fX5_told_143B fX5_told_179 fX5_told_180
      rw [show (8 : Int32) = i32 8 from rfl, if_neg (fun z => absurd ((i32_le (by omega)).mp z) (by omega)), rI_ok (by omega), show ((q : Int)).toNat = q by omega, h2 q (Nat.le_refl _) (by omega)]
      simp only [Option.bind_some, Option.bind_none]
      rw [i32_nI q, bit_of (by omega), ← i32_nI q]
      simp only [L0, L1, L2, L3, L4, L5, L6, L7, L8, L9, L10, L11, L12, L13, L15, L16, L20, L24, L31, L32, L40, L41, L48, L50, L57, L59, L63, L80, L81, L96, L97, L99, L100, L122, L144, L199, L255, L400, L1681, L68921, L1000000, i32_add, i32_sub, i32_mul, i32_neg, Option.bind_some, Option.bind_none]
      rw [wI_ok (by omega), wI_ok (by omega), show ((q : Int)).toNat = q by omega]
      simp only [Option.bind_some, Option.bind_none]
      rw [show (q : Int) + 1 = ((q + 1 : Nat) : Int) by omega]
      by_cases c1 : q = p
      · rw [if_pos (by rw [c1]), decide_eq_false (fun z => z c1)]; rfl
      · rw [if_neg (fun z => c1 (by have := (i32_inj (by omega)).mp z; omega)), decide_eq_true c1, Bool.true_and, show bt (shP S i) q = sb S i q from rfl]
        cases sb S i q <;> rfl
    have hvm : Vm M (sI M 67 q (i32 (wn S p (i + 1) q))) := Vm.w (by decide)
    obtain ⟨M', g1, g2, g3, g4⟩ := ih n (q + 1) _ (hR.vm hvm) (fun j hj => by
      by_cases hjq : j = q
      · subst hjq; rw [sI_at]
      · rw [sI_nj hjq]; exact h1 j (by omega)) (fun j hj1 hj2 => by rw [sI_nj (by omega)]; exact h2 j (by omega) hj2) (by omega) (by omega)
    exact ⟨M', hstep.trans g1, hvm.tr g2, g3, g4⟩
theorem toldW_L {S : Sc} {M : Mem} (hS : okS S) {p : Nat} {w : Int} (hw : 0 ≤ w ∧ w ≤ 3) (hr : ∀ j, j < 8 → M.1 67 j = i32 (wn S p (cI S) j)) (x3 x4 x5 : Int32) : ∀ (d n q : Nat), q + d = 8 → d < n → fX5_told_201L n (i32 w) x3 x4 x5 (i32 (fdF S p q)) (i32 q) M = some (if w = 0 then x3 else if w = 1 then i32 (fdF S p 8) else if w = 2 then x4 else x5, M) := by
  have h10 := hS.2.2.2.1
  intro d
  induction d with
  | zero =>
    intro n q hd hn
    obtain ⟨n, rfl⟩ : ∃ m, n = m + 1 := ⟨n - 1, by omega⟩
    show fX5_told_201B _ (i32 w) x3 x4 x5 _ (i32 q) M = _
    unfold fX5_told_201B
    simp only [L0, L1, L2, L3, L4, L5, L6, L7, L8, L9, L10, L11, L12, L13, L15, L16, L20, L24, L31, L32, L40, L41, L48, L50, L57, L59, L63, L80, L81, L96, L97, L99, L100, L122, L144, L199, L255, L400, L1681, L68921, L1000000, i32_add, i32_sub, i32_mul, i32_neg, Option.bind_some, Option.bind_none]
    rw [if_pos ((i32_le (by omega)).mpr (by omega)), show q = 8 by omega]
    simp (disch := omega) only [i32_inj]
    by_cases c0 : w = 0
    · rw [if_pos c0, if_pos c0]
    · rw [if_neg c0, if_neg c0]
      by_cases c1 : w = 1
      · rw [if_pos c1, if_pos c1]
      · rw [if_neg c1, if_neg c1]
        by_cases c2 : w = 2
        · rw [if_pos c2, if_pos c2]
        · rw [if_neg c2, if_neg c2]
  | succ d ih =>
    intro n q hd hn
    obtain ⟨n, rfl⟩ : ∃ m, n = m + 1 := ⟨n - 1, by omega⟩
    have ihp := ih n (q + 1) (by omega) (by omega)
    rw [← ihp, fdF_s]
    have hwl := wn_le S p (cI S) q
    obtain ⟨m1, m2⟩ := moF_b hS p q (by omega)
    show fX5_told_201B (fX5_told_201L n) (i32 w) x3 x4 x5 _ (i32 q) M = _
    unfold fX5_told_201B fX5_told_233 fX5_told_243
    simp only [L0, L1, L2, L3, L4, L5, L6, L7, L8, L9, L10, L11, L12, L13, L15, L16, L20, L24, L31, L32, L40, L41, L48, L50, L57, L59, L63, L80, L81, L96, L97, L99, L100, L122, L144, L199, L255, L400, L1681, L68921, L1000000, i32_add, i32_sub, i32_mul, i32_neg, Option.bind_some, Option.bind_none]
    rw [if_neg (fun z => absurd ((i32_le (by omega)).mp z) (by omega)), rI_ok (by omega), show ((q : Int)).toNat = q by omega, hr q (by omega)]
    simp only [Option.bind_some, Option.bind_none]
    rw [show (q : Int) + 1 = ((q + 1 : Nat) : Int) by omega]
    rcases m2 with ⟨e1, e2⟩ | ⟨j, j1, j2, j3⟩
    · rw [e1, if_pos rfl, e2]
      by_cases c : 0 < wn S p (cI S) q
      · rw [if_pos c, if_neg (fun z => absurd ((i32_le (by omega)).mp z) (by omega))]
      · rw [if_neg c, if_pos ((i32_le (by omega)).mpr (by omega))]
    · rw [j2, if_neg (fun z => absurd ((i32_inj (by omega)).mp z) (by omega)), rI_ok (by omega), show ((j : Int)).toNat = j by omega, hr j (by omega), j3]
      simp only [Option.bind_some, Option.bind_none]
      by_cases c : moF S p q < wn S p (cI S) q
      · rw [if_pos c, if_neg (fun z => absurd ((i32_le (by omega)).mp z) (by omega))]
      · rw [if_neg c, if_pos ((i32_le (by omega)).mpr (by omega))]
theorem lookFrom_row {x y w t : Int32} {M M' : Mem} (h : fX5_lookFrom x y w t M = some M') : ∀ a, a ≠ 42 → M'.1 a = M.1 a := by
  intro a ha
  cases h
  rw [sI_ne ha, sI_ne ha, sI_ne ha, sI_ne ha]
theorem lookAs_row {x t : Int32} {M M' : Mem} (h : fX5_lookAs x t M = some M') : ∀ a, a ≠ 42 → M'.1 a = M.1 a := by
  unfold fX5_lookAs at h
  refine bindC h (fun v1 _ h => ?_)
  refine bindC h (fun v2 _ h => ?_)
  refine bindC h (fun v3 _ h => ?_)
  refine bindC h (fun v4 h4 h => ?_)
  cases h
  exact lookFrom_row h4
theorem showsOf_row {x v : Int32} {M M' : Mem} (h : fX5_showsOf x M = some (v, M')) : ∀ a, a ≠ 42 → M'.1 a = M.1 a := by
  unfold fX5_showsOf at h
  refine bindC h (fun v1 _ h => ?_)
  refine bindC h (fun v2 h2 h => ?_)
  refine bindC h (fun v3 _ h => ?_)
  refine bindC h (fun v4 h4 h => ?_)
  cases h
  exact lookAs_row h2
theorem toldP_L {S : Sc} (hS : okS S) {p : Nat} (hp : p < cP S) {w : Int} (hw : 0 ≤ w ∧ w ≤ 3) : ∀ (d n i : Nat) (M : Mem), RM S M → (∀ j, j < 8 → M.1 67 j = i32 (wn S p i j)) → i + d = cI S → d < n → ∃ M', fX5_told_56L n (i32 p) (i32 w) (i32 (fb_ct (fun i => sb S i p) i)) (i32 (fstF S p i)) (i32 (lstF S p i)) (i32 i) M = some (i32 (if w = 0 then (fb_ct (fun i => sb S i p) (cI S) : Int) else if w = 1 then fdF S p 8 else if w = 2 then fstF S p (cI S) else lstF S p (cI S)), M') ∧ Vm M M' := by
  have h8 := hS.2.2.1
  have h10 := hS.2.2.2.1
  intro d
  induction d with
  | zero =>
    intro n i M hR hr hd hn
    obtain ⟨n, rfl⟩ : ∃ m, n = m + 1 := ⟨n - 1, by omega⟩
    refine ⟨M, ?_, Vm.rf⟩
    have hiI : i = cI S := by omega
    subst hiI
    show fX5_told_56B _ (i32 p) (i32 w) _ _ _ (i32 (cI S)) M = _
    unfold fX5_told_56B
    simp only [L0, L1, L2, L3, L4, L5, L6, L7, L8, L9, L10, L11, L12, L13, L15, L16, L20, L24, L31, L32, L40, L41, L48, L50, L57, L59, L63, L80, L81, L96, L97, L99, L100, L122, L144, L199, L255, L400, L1681, L68921, L1000000, i32_add, i32_sub, i32_mul, i32_neg, Option.bind_some, Option.bind_none]
    rw [rI_ok (by omega), show ((0 : Int)).toNat = 0 from rfl, hR.2.2.2.1]
    simp only [L0, L1, L2, L3, L4, L5, L6, L7, L8, L9, L10, L11, L12, L13, L15, L16, L20, L24, L31, L32, L40, L41, L48, L50, L57, L59, L63, L80, L81, L96, L97, L99, L100, L122, L144, L199, L255, L400, L1681, L68921, L1000000, i32_add, i32_sub, i32_mul, i32_neg, Option.bind_some, Option.bind_none]
    rw [if_pos ((i32_le (by omega)).mpr (by omega))]
    have := toldW_L hS hw hr (i32 (fb_ct (fun i => sb S i p) (cI S))) (i32 (fstF S p (cI S))) (i32 (lstF S p (cI S))) 8 FU 0 (by omega) (by unfold FU; omega)
    rw [show fdF S p 0 = -9 from rfl] at this
    refine Eq.trans this ?_
    congr 2
    by_cases c0 : w = 0
    · rw [if_pos c0, if_pos c0]
    · rw [if_neg c0, if_neg c0]
      by_cases c1 : w = 1
      · rw [if_pos c1, if_pos c1]
      · rw [if_neg c1, if_neg c1]
        by_cases c2 : w = 2
        · rw [if_pos c2, if_pos c2]
        · rw [if_neg c2, if_neg c2]
  | succ d ih =>
    intro n i M hR hr hd hn
    obtain ⟨n, rfl⟩ : ∃ m, n = m + 1 := ⟨n - 1, by omega⟩
    have hi : i < cI S := by omega
    obtain ⟨M1, k1, k2, k3⟩ := showsOf_M hS hR hi
    have E4 := qd_M hS k3 hi 4 (by decide)
    rw [show ((4 : Nat) : Int) = 4 from rfl] at E4
    obtain ⟨-, -, -, -, q4⟩ := hS.2.2.2.2.2.1 i hi
    have fb := fst_b hS p i (by omega)
    have hB : fX5_told_56L (n + 1) (i32 p) (i32 w) (i32 (fb_ct (fun i => sb S i p) i)) (i32 (fstF S p i)) (i32 (lstF S p i)) (i32 i) M = if sb S i p = true then fX5_told_143L (fX5_told_56L n) FU (i32 p) (i32 w) (i32 (fb_ct (fun i => sb S i p) (i + 1))) (i32 (fstF S p (i + 1))) (i32 (lstF S p (i + 1))) (i32 i) (shP S i) (i32 0) M1 else fX5_told_56L n (i32 p) (i32 w) (i32 (fb_ct (fun i => sb S i p) (i + 1))) (i32 (fstF S p (i + 1))) (i32 (lstF S p (i + 1))) (i32 ((i + 1 : Nat) : Int)) M1 := by
      show fX5_told_56B (fX5_told_56L n) (i32 p) (i32 w) _ _ _ (i32 i) M = _
      unfold fX5_told_56B
      simp only [L0, L1, L2, L3, L4, L5, L6, L7, L8, L9, L10, L11, L12, L13, L15, L16, L20, L24, L31, L32, L40, L41, L48, L50, L57, L59, L63, L80, L81, L96, L97, L99, L100, L122, L144, L199, L255, L400, L1681, L68921, L1000000, i32_add, i32_sub, i32_mul, i32_neg, Option.bind_some, Option.bind_none]
      rw [rI_ok (by omega), show ((0 : Int)).toNat = 0 from rfl, hR.2.2.2.1]
      simp only [L0, L1, L2, L3, L4, L5, L6, L7, L8, L9, L10, L11, L12, L13, L15, L16, L20, L24, L31, L32, L40, L41, L48, L50, L57, L59, L63, L80, L81, L96, L97, L99, L100, L122, L144, L199, L255, L400, L1681, L68921, L1000000, i32_add, i32_sub, i32_mul, i32_neg, Option.bind_some, Option.bind_none]
      rw [if_neg (fun z => absurd ((i32_le (by omega)).mp z) (by omega)), k1]
      simp only [Option.bind_some, Option.bind_none]
      rw [E4]
      simp only [Option.bind_some, Option.bind_none]
      rw [i32_nI p, show (i32 31 : Int32) = 31 from rfl, show (i32 1 : Int32) = 1 from rfl, bit_of (by omega), ← i32_nI p, show bt (shP S i) p = sb S i p from rfl]
      unfold fX5_told_188 fX5_told_115 fX5_told_122 fX5_told_138
      simp only [L0, L1, L2, L3, L4, L5, L6, L7, L8, L9, L10, L11, L12, L13, L15, L16, L20, L24, L31, L32, L40, L41, L48, L50, L57, L59, L63, L80, L81, L96, L97, L99, L100, L122, L144, L199, L255, L400, L1681, L68921, L1000000, i32_add, i32_sub, i32_mul, i32_neg, Option.bind_some, Option.bind_none]
      rw [show (i : Int) + 1 = ((i + 1 : Nat) : Int) by omega, fb_ct_succ, fstF_s, lstF_s]
      cases sb S i p with
      | false => rfl
      | true =>
        rw [if_pos (show i32 (bI true) = i32 1 from rfl), if_pos rfl, if_pos rfl, if_pos rfl, if_pos rfl]
        rw [show ((fb_ct (fun i => sb S i p) i : Nat) : Int) + 1 = ((fb_ct (fun i => sb S i p) i + 1 : Nat) : Int) by omega]
        have hl : (if i32 (cQd S i 4) ≤ i32 (lstF S p i) then i32 (lstF S p i) else i32 (cQd S i 4)) = i32 (if lstF S p i < cQd S i 4 then cQd S i 4 else lstF S p i) := by
          by_cases c : lstF S p i < cQd S i 4
          · rw [if_pos c, if_neg (fun z => absurd ((i32_le (by omega)).mp z) (by omega))]
          · rw [if_neg c, if_pos ((i32_le (by omega)).mpr (by omega))]
        rw [← hl]
        by_cases c1 : fstF S p i = -9
        · rw [if_pos (by rw [c1]), if_pos c1]
          split <;> rfl
        · rw [if_neg (fun q => c1 ((i32_inj (by omega)).mp q)), if_neg c1]
          by_cases c2 : fstF S p i ≤ cQd S i 4
          · rw [if_pos ((i32_le (by omega)).mpr c2), if_pos c2]
            split <;> rfl
          · rw [if_neg (fun q => c2 ((i32_le (by omega)).mp q)), if_neg c2]
            split <;> rfl
    rw [hB]
    have hr1 : ∀ j, j < 8 → M1.1 67 j = i32 (wn S p i j) := fun j hj => by rw [showsOf_row k1 67 (by decide)]; exact hr j hj
    cases hsb : sb S i p with
    | true =>
      obtain ⟨M2, g1, g2, g3, g4⟩ := toldQ_L hS hp hi (fX5_told_56L n) (i32 w) (i32 (fb_ct (fun i => sb S i p) (i + 1))) (i32 (fstF S p (i + 1))) (i32 (lstF S p (i + 1))) hsb 8 FU 0 M1 k3 (fun j q => absurd q (Nat.not_lt_zero j)) (fun j _ hj => hr1 j hj) (by omega) (by unfold FU; omega)
      obtain ⟨M', l1, l2⟩ := ih n (i + 1) M2 g3 g4 (by omega) (by omega)
      exact ⟨M', by rw [if_pos rfl]; exact g1.trans l1, (k2.tr g2).tr l2⟩
    | false =>
      obtain ⟨M', l1, l2⟩ := ih n (i + 1) M1 k3 (fun j hj => by
        rw [hr1 j hj]
        congr 2
        unfold wn
        split
        · rfl
        · rw [fb_ct_succ, hsb, Bool.false_and]; rfl) (by omega) (by omega)
      exact ⟨M', by rw [if_neg (by decide)]; exact l1, k2.tr l2⟩
theorem toldZ_L {S : Sc} (hS : okS S) {p : Nat} {w : Int32} : ∀ (d n q : Nat) (M : Mem), RM S M → (∀ j, j < q → M.1 67 j = i32 0) → q + d = 8 → d < n → ∃ M', fX5_told_32L n (i32 p) w (i32 0) (i32 (-9)) (i32 (-9)) (i32 q) M = fX5_told_56L FU (i32 p) w (i32 0) (i32 (-9)) (i32 (-9)) (i32 0) M' ∧ Vm M M' ∧ RM S M' ∧ (∀ j, j < 8 → M'.1 67 j = i32 0) := by
  intro d
  induction d with
  | zero =>
    intro n q M hR h1 hd hn
    obtain ⟨n, rfl⟩ : ∃ m, n = m + 1 := ⟨n - 1, by omega⟩
    refine ⟨M, ?_, Vm.rf, hR, fun j hj => h1 j (by omega)⟩
    show fX5_told_32B _ (i32 p) w _ _ _ (i32 q) M = _
    unfold fX5_told_32B
    simp only [L0, L1, L2, L3, L4, L5, L6, L7, L8, L9, L10, L11, L12, L13, L15, L16, L20, L24, L31, L32, L40, L41, L48, L50, L57, L59, L63, L80, L81, L96, L97, L99, L100, L122, L144, L199, L255, L400, L1681, L68921, L1000000, i32_add, i32_sub, i32_mul, i32_neg, Option.bind_some, Option.bind_none]
    rw [if_pos ((i32_le (by omega)).mpr (by omega))]
  | succ d ih =>
    intro n q M hR h1 hd hn
    obtain ⟨n, rfl⟩ : ∃ m, n = m + 1 := ⟨n - 1, by omega⟩
    have hvm : Vm M (sI M 67 q (i32 0)) := Vm.w (by decide)
    obtain ⟨M', g1, g2, g3, g4⟩ := ih n (q + 1) _ (hR.vm hvm) (fun j hj => by
      by_cases hjq : j = q
      · subst hjq; rw [sI_at]
      · rw [sI_nj hjq]; exact h1 j (by omega)) (by omega) (by omega)
    refine ⟨M', Eq.trans ?_ g1, hvm.tr g2, g3, g4⟩
    show fX5_told_32B (fX5_told_32L n) (i32 p) w _ _ _ (i32 q) M = _
    unfold fX5_told_32B
    simp only [L0, L1, L2, L3, L4, L5, L6, L7, L8, L9, L10, L11, L12, L13, L15, L16, L20, L24, L31, L32, L40, L41, L48, L50, L57, L59, L63, L80, L81, L96, L97, L99, L100, L122, L144, L199, L255, L400, L1681, L68921, L1000000, i32_add, i32_sub, i32_mul, i32_neg, Option.bind_some, Option.bind_none]
    rw [if_neg (fun z => absurd ((i32_le (by omega)).mp z) (by omega)), wI_ok (by omega), show ((q : Int)).toNat = q by omega]
    simp only [Option.bind_some, Option.bind_none]
    rw [show (q : Int) + 1 = ((q + 1 : Nat) : Int) by omega]
theorem told_op {b : Nat} {S : Sc} {M : Mem} (hI : IC b S M) (hb : M.2.2 0 5 = b) (x y : Int32) : ∃ v, fX4_told x y M = some v ∧ ∀ M2, RM S M2 → ∃ M3, fX5_told x y M2 = some (v, M3) ∧ Vm M2 M3 := by
  obtain ⟨hS, -, hR, hC, hSh⟩ := hI
  obtain ⟨x, hx, rfl⟩ := i32_ex x
  obtain ⟨y, hy, rfl⟩ := i32_ex y
  have h8 := hS.2.2.1
  have h10 := hS.2.2.2.1
  have hM0 : ∀ M2, RM S M2 → fX5_told (i32 x) (i32 y) M2 = (if btw x 0 ((cP S : Int) - 1) = true then (if btw y 0 3 = true then fX5_told_32L FU (i32 x) (i32 y) (i32 0) (i32 (-9)) (i32 (-9)) (i32 0) M2 else some (i32 (-1), M2)) else some (i32 (-1), M2)) := by
    intro M2 hM
    unfold fX5_told
    simp only [L0, L1, L2, L3, L4, L5, L6, L7, L8, L9, L10, L11, L12, L13, L15, L16, L20, L24, L31, L32, L40, L41, L48, L50, L57, L59, L63, L80, L81, L96, L97, L99, L100, L122, L144, L199, L255, L400, L1681, L68921, L1000000, i32_add, i32_sub, i32_mul, i32_neg, Option.bind_some, Option.bind_none]
    rw [isPerson_M hS hM hx, in_M (by omega)]
    simp only [L0, L1, L2, L3, L4, L5, L6, L7, L8, L9, L10, L11, L12, L13, L15, L16, L20, L24, L31, L32, L40, L41, L48, L50, L57, L59, L63, L80, L81, L96, L97, L99, L100, L122, L144, L199, L255, L400, L1681, L68921, L1000000, i32_add, i32_sub, i32_mul, i32_neg, Option.bind_some, Option.bind_none, ite_bI]
  have hC0 : fX4_told (i32 x) (i32 y) M = (if btw x 0 ((cP S : Int) - 1) = true then (if btw y 0 3 = true then (if i32 y = i32 0 then (fX4_countShowing (b + 6) 10 (M.1 b 7) (i32 1 <<< (i32 x &&& i32 31)) M).bind fun v3 => some v3 else if i32 y = i32 1 then (fX2_mostOftenWith b (i32 x) M).bind fun v4 => some v4 else if i32 y = i32 2 then (fX2_firstSecondOf b (i32 x) M).bind fun v5 => some v5 else (fX2_lastSecondOf b (i32 x) M).bind fun v6 => some v6) else some (i32 (-1))) else some (i32 (-1))) := by
    unfold fX4_told
    simp only [L0, L1, L2, L3, L4, L5, L6, L7, L8, L9, L10, L11, L12, L13, L15, L16, L20, L24, L31, L32, L40, L41, L48, L50, L57, L59, L63, L80, L81, L96, L97, L99, L100, L122, L144, L199, L255, L400, L1681, L68921, L1000000, i32_add, i32_sub, i32_mul, i32_neg, Option.bind_some, Option.bind_none]
    rw [hb, isPerson_C hS hR hx, isBetween_C (by omega)]
    simp only [L0, L1, L2, L3, L4, L5, L6, L7, L8, L9, L10, L11, L12, L13, L15, L16, L20, L24, L31, L32, L40, L41, L48, L50, L57, L59, L63, L80, L81, L96, L97, L99, L100, L122, L144, L199, L255, L400, L1681, L68921, L1000000, i32_add, i32_sub, i32_mul, i32_neg, Option.bind_some, Option.bind_none, ite_bI]
  rw [hC0]
  cases h1 : btw x 0 ((cP S : Int) - 1) with
  | false => exact ⟨_, rfl, fun M2 hM => ⟨M2, by rw [hM0 M2 hM, h1]; rfl, Vm.rf⟩⟩
  | true =>
  cases h2 : btw y 0 3 with
  | false => exact ⟨_, rfl, fun M2 hM => ⟨M2, by rw [hM0 M2 hM, h1, h2]; rfl, Vm.rf⟩⟩
  | true =>
    obtain ⟨p, hp, rfl⟩ := nat_of h1
    have b2 := btw_t h2
    have hM1 : ∀ M2, RM S M2 → ∃ M3, fX5_told (i32 p) (i32 y) M2 = some (i32 (if y = 0 then (fb_ct (fun i => sb S i p) (cI S) : Int) else if y = 1 then fdF S p (cP S) else if y = 2 then fstF S p (cI S) else lstF S p (cI S)), M3) ∧ Vm M2 M3 := by
      intro M2 hM
      obtain ⟨M3, k1, k2, k3, k4⟩ := toldZ_L hS (p := p) (w := i32 y) 8 FU 0 M2 hM (fun j q => absurd q (Nat.not_lt_zero j)) (by omega) (by unfold FU; omega)
      obtain ⟨M4, l1, l2⟩ := toldP_L hS hp (w := y) b2 (cI S) FU 0 M3 k3 (fun j hj => by
        rw [k4 j hj]
        congr 1
        unfold wn
        split <;> rfl) (by omega) (by unfold FU; omega)
      have e8 := (fd_8 hS p (8 - cP S) (by omega)).1
      rw [show cP S + (8 - cP S) = 8 by omega] at e8
      rw [e8] at l1
      exact ⟨M4, by rw [hM0 M2 hM, h1, h2, if_pos rfl, if_pos rfl]; exact k1.trans l1, k2.tr l2⟩
    rw [if_pos rfl, if_pos rfl]
    refine ⟨i32 (if y = 0 then (fb_ct (fun i => sb S i p) (cI S) : Int) else if y = 1 then fdF S p (cP S) else if y = 2 then fstF S p (cI S) else lstF S p (cI S)), ?_, hM1⟩
    simp (disch := omega) only [i32_inj]
    by_cases c0 : y = 0
    · rw [if_pos c0, if_pos c0, hR.2.2.2.1, show i32 1 <<< (i32 (p : Int) &&& i32 31) = bit1 p from rfl, countSh_C h10 (c := fun i => sb S i p) (fun i hi => by rw [hSh i hi]; exact and_bit1 (by omega))]
      rfl
    · rw [if_neg c0, if_neg c0]
      by_cases c1 : y = 1
      · rw [if_pos c1, if_pos c1]
        have := often_L hS hR hSh hp (cP S) FU 0 (by omega) (by unfold FU; omega)
        rw [show fX2_mostOftenWith b (i32 p) M = some (i32 (fdF S p (cP S))) from this]
        rfl
      · rw [if_neg c1, if_neg c1]
        by_cases c2 : y = 2
        · rw [if_pos c2, if_pos c2]
          have := first_L hS hR hSh hp (cI S) FU 0 (by omega) (by unfold FU; omega)
          rw [show fX2_firstSecondOf b (i32 p) M = some (i32 (fstF S p (cI S))) from this]
          rfl
        · rw [if_neg c2, if_neg c2]
          have := last_L hS hR hSh hp (cI S) FU 0 (by omega) (by unfold FU; omega)
          rw [show fX2_lastSecondOf b (i32 p) M = some (i32 (lstF S p (cI S))) from this]
          rfl

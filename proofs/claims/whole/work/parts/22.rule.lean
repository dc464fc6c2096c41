/-! showAll, and rule. -/
def mn (d r : Int) : Int := if r < d then r else d
theorem imin_ok {d r : Int} (h : (-2147483648 ≤ d ∧ d ≤ 2147483647) ∧ (-2147483648 ≤ r ∧ r ≤ 2147483647)) : imin (i32 d) (i32 r) = i32 (mn d r) := by
  unfold imin mn
  by_cases q : r < d
  · rw [if_pos q, if_pos ((i32_lt (by omega)).mpr q)]
  · rw [if_neg q, if_neg (fun z => q ((i32_lt (by omega)).mp z))]
theorem imax_ok {d r : Int} (h : (-2147483648 ≤ d ∧ d ≤ 2147483647) ∧ (-2147483648 ≤ r ∧ r ≤ 2147483647)) : imax (i32 d) (i32 r) = i32 (if d < r then r else d) := by
  unfold imax
  by_cases q : d < r
  · rw [if_pos q, if_pos ((i32_lt (by omega)).mpr q)]
  · rw [if_neg q, if_neg (fun z => q ((i32_lt (by omega)).mp z))]
/-- whom picture i shows, to d ahead only -/
def shD (S : Sc) (d : Int) (i : Nat) : Int32 := shS S (cQd S i 0) (cQd S i 1) (cQd S i 2) (mn d (cQd S i 3)) (cQd S i 4)
def Sr (a b : Nat) (M M' : Mem) : Prop := M'.2 = M.2 ∧ (∀ c, c ≠ b → c ≠ b + 4 → c ≠ b + 5 → c ≠ a → M'.1 c = M.1 c) ∧ (∀ j, j ≠ 10 → M'.1 b j = M.1 b j) ∧ (∀ j, 10 ≤ j → M'.1 a j = M.1 a j)
theorem At.row {a b : Nat} {S : Sc} {t : Int} {M : Mem} {j : Nat} {x : Int32} (ha : a = b + 6 ∨ a = b + 7) (h : At b S t M) : At b S t (sI M a j x) := by
  obtain ⟨h1, h2, h3⟩ := h
  refine ⟨by rw [sI_ne (by omega)]; exact h1, fun p hp => by rw [sI_ne (by omega)]; exact h2 p hp, fun x y hxy => by rw [sI_ne (by omega)]; exact h3 x y hxy⟩
theorem RC.row {a b : Nat} {S : Sc} {M : Mem} {j : Nat} {x : Int32} (ha : a = b + 6 ∨ a = b + 7) (h : RC b S M) : RC b S (sI M a j x) := by
  obtain ⟨h1, h2, h3, h4, h5, h6, h7⟩ := h
  refine ⟨by rw [sI_ne (by omega)]; exact h1, by rw [sI_ne (by omega)]; exact h2, by rw [sI_ne (by omega)]; exact h3, by rw [sI_ne (by omega)]; exact h4, ?_, ?_, ?_⟩
  · intro x y a1 a2 a3 a4
    rw [sI_ne (by omega)]; exact h5 x y a1 a2 a3 a4
  · intro p j a1 a2
    rw [sI_ne (by omega)]; exact h6 p j a1 a2
  · intro p j a1 a2
    rw [sI_ne (by omega)]; exact h7 p j a1 a2
theorem showAll_L {a b : Nat} {S : Sc} (hS : okS S) (ha : a = b + 6 ∨ a = b + 7) {d : Int} (hd : 0 ≤ d ∧ d ≤ 9) : ∀ (e n i : Nat) (M : Mem), RC b S M → Cached b S M → (∀ j, j < i → M.1 a j = shD S d j) → i + e = cI S → e < n → ∃ M', fX2_showAll_2L b a 10 n (i32 d) (i32 i) M = some M' ∧ Cached b S M' ∧ RC b S M' ∧ (∀ j, j < cI S → M'.1 a j = shD S d j) ∧ Sr a b M M' := by
  have h10 := hS.2.2.2.1
  intro e
  induction e with
  | zero =>
    intro n i M hR hC hj he hn
    obtain ⟨n, rfl⟩ : ∃ m, n = m + 1 := ⟨n - 1, by omega⟩
    refine ⟨M, ?_, hC, hR, fun j q => hj j (by omega), rfl, fun _ _ _ _ _ => rfl, fun _ _ => rfl, fun _ _ => rfl⟩
    show fX2_showAll_2B _ b a 10 (i32 d) (i32 i) M = _
    unfold fX2_showAll_2B
    rw [hR.2.2.2.1, if_pos ((i32_le (by omega)).mpr (by omega))]
  | succ e ih =>
    intro n i M hR hC hj he hn
    obtain ⟨n, rfl⟩ : ∃ m, n = m + 1 := ⟨n - 1, by omega⟩
    have hi : i < cI S := by omega
    obtain ⟨q0, q1, q2, q3, q4⟩ := hS.2.2.2.2.2.1 i hi
    have E0 := ofPicture_C hS hR hi (show 0 < 5 by decide)
    have E1 := ofPicture_C hS hR hi (show 1 < 5 by decide)
    have E2 := ofPicture_C hS hR hi (show 2 < 5 by decide)
    have E3 := ofPicture_C hS hR hi (show 3 < 5 by decide)
    have E4 := ofPicture_C hS hR hi (show 4 < 5 by decide)
    rw [show ((0 : Nat) : Int) = 0 from rfl] at E0
    rw [show ((1 : Nat) : Int) = 1 from rfl] at E1
    rw [show ((2 : Nat) : Int) = 2 from rfl] at E2
    rw [show ((3 : Nat) : Int) = 3 from rfl] at E3
    rw [show ((4 : Nat) : Int) = 4 from rfl] at E4
    obtain ⟨M1, g1, g2, g3, g4⟩ := shownFrom_C hS hR hC (r := mn d (cQd S i 3)) (t := cQd S i 4) (vw_q hS hi) (by unfold mn; split <;> omega) (by omega)
    obtain ⟨M', k1, k2, k3, k4, k5⟩ := ih n (i + 1) (sI M1 a i (shD S d i)) (g4.row ha) ((g2.row ha).cached (by omega)) (fun j q => by
      by_cases hji : j = i
      · subst hji; rw [sI_at]
      · rw [sI_nj hji, g3.2.2.1 a (by omega) (by omega) (by omega)]; exact hj j (by omega)) (by omega) (by omega)
    refine ⟨M', ?_, k2, k3, k4, ?_⟩
    · show fX2_showAll_2B (fX2_showAll_2L b a 10 n) b a 10 (i32 d) (i32 i) M = _
      unfold fX2_showAll_2B
      rw [hR.2.2.2.1, if_neg (fun q => absurd ((i32_le (by omega)).mp q) (by omega))]
      simp only [L0, L1, L2, L3, L4, L5, L6, L7, L8, L9, L10, L11, L12, L13, L15, L16, L20, L24, L31, L32, L40, L41, L48, L50, L57, L59, L63, L80, L81, L96, L97, L99, L100, L122, L144, L199, L255, L400, L1681, L68921, L1000000, i32_add, i32_sub, i32_mul, i32_neg, Option.bind_some, Option.bind_none]
      rw [E0, E1, E2, E3, E4]
      simp only [Option.bind_some, Option.bind_none]
      rw [imin_ok (by omega), g1]
      simp only [Option.bind_some, Option.bind_none]
      rw [wI_ok (by omega), show ((i : Int)).toNat = i by omega]
      simp only [Option.bind_some, Option.bind_none]
      rw [show (i : Int) + 1 = ((i + 1 : Nat) : Int) by omega]
      exact k1
    · obtain ⟨s1, s2, s3, s4⟩ := k5
      refine ⟨s1.trans (show (sI M1 a i (shD S d i)).2 = M.2 from Prod.ext g3.2.1 g3.1), fun c c1 c2 c3 c4 => ?_, fun j q => ?_, fun j q => ?_⟩
      · rw [s2 c c1 c2 c3 c4, sI_ne c4, g3.2.2.1 c c1 c2 c3]
      · rw [s3 j q, sI_ne (by omega), g3.2.2.2 j q]
      · rw [s4 j q, sI_nj (by omega), g3.2.2.1 a (by omega) (by omega) (by omega)]
theorem showAll_C {a b : Nat} {S : Sc} {M : Mem} (hS : okS S) (hR : RC b S M) (hC : Cached b S M) (ha : a = b + 6 ∨ a = b + 7) {d : Int} (hd : 0 ≤ d ∧ d ≤ 9) : ∃ M', fX2_showAll b a 10 (i32 d) M = some M' ∧ Cached b S M' ∧ RC b S M' ∧ (∀ j, j < cI S → M'.1 a j = shD S d j) ∧ Sr a b M M' :=
  showAll_L hS ha hd (cI S) FU 0 M hR hC (fun j q => absurd q (Nat.not_lt_zero j)) (by omega) (by have := hS.2.2.2.1; unfold FU; omega)
theorem Sr.q {b : Nat} {M M' : Mem} (h : Sr (b + 7) b M M') : QC b M M' := ⟨by rw [h.1], fun _ _ => by rw [h.1], fun a q1 q2 q3 q4 _ _ _ _ => h.2.1 a q1 q2 q3 q4, h.2.2.1⟩
/-- in how many of the first pictures of a row all of a set are -/
theorem countSh_L {a : Nat} {M : Mem} {set : Int32} {I : Nat} (hI : I ≤ 10) {c : Nat → Bool} (hc : ∀ i, i < I → ((M.1 a i &&& set) = set ↔ c i = true)) : ∀ (d n i : Nat), i + d = I → d < n → fX4_countShowing_5L a 10 M n (i32 I) set (i32 (fb_ct c i)) (i32 i) = some (i32 (fb_ct c I)) := by
  intro d
  induction d with
  | zero =>
    intro n i hd hn
    obtain ⟨n, rfl⟩ : ∃ m, n = m + 1 := ⟨n - 1, by omega⟩
    show fX4_countShowing_5B _ a 10 (i32 I) set _ (i32 i) M = _
    unfold fX4_countShowing_5B
    rw [if_pos ((i32_le (by omega)).mpr (by omega)), show i = I by omega]
  | succ d ih =>
    intro n i hd hn
    obtain ⟨n, rfl⟩ : ∃ m, n = m + 1 := ⟨n - 1, by omega⟩
    show fX4_countShowing_5B (fX4_countShowing_5L a 10 M n) a 10 (i32 I) set _ (i32 i) M = _
    have ihp := ih n (i + 1) (by omega) (by omega)
    unfold fX4_countShowing_5B
    rw [if_neg (fun q => absurd ((i32_le (by omega)).mp q) (by omega)), rI_ok (by omega), show ((i : Int)).toNat = i by omega]
    unfold fX4_countShowing_24
    simp only [L0, L1, L2, L3, L4, L5, L6, L7, L8, L9, L10, L11, L12, L13, L15, L16, L20, L24, L31, L32, L40, L41, L48, L50, L57, L59, L63, L80, L81, L96, L97, L99, L100, L122, L144, L199, L255, L400, L1681, L68921, L1000000, i32_add, i32_sub, i32_mul, i32_neg, Option.bind_some, Option.bind_none]
    rw [show (i : Int) + 1 = ((i + 1 : Nat) : Int) by omega]
    by_cases hq : (M.1 a i &&& set) = set
    · rw [if_pos hq]
      rw [fb_ct_succ, if_pos ((hc i (by omega)).mp hq)] at ihp
      exact ihp
    · rw [if_neg hq]
      rw [fb_ct_succ, if_neg (fun q => hq ((hc i (by omega)).mpr q))] at ihp
      exact ihp
theorem countSh_C {a : Nat} {M : Mem} {set : Int32} {I : Nat} (hI : I ≤ 10) {c : Nat → Bool} (hc : ∀ i, i < I → ((M.1 a i &&& set) = set ↔ c i = true)) : fX4_countShowing a 10 (i32 I) set M = some (i32 (fb_ct c I)) :=
  countSh_L hI hc I FU 0 (by omega) (by unfold FU; omega)
theorem and_bit1 {x : Int32} {p : Nat} (hp : p < 32) : (x &&& bit1 p) = bit1 p ↔ bt x p = true := by
  constructor
  · intro h
    have := congrArg (fun z => bt z p) h
    simp only [b_and, bt_bit1 hp hp, decide_true, Bool.and_true] at this
    exact this
  · intro h
    apply b_ext
    intro i hi
    rw [b_and, bt_bit1 hp hi]
    by_cases hq : i = p
    · subst hq; rw [h]; simp
    · rw [decide_eq_false hq, Bool.and_false]
/-- in how many pictures a person is, to d ahead only -/
def mp (S : Sc) (d : Int) (p : Nat) : Nat := fb_ct (fun i => bt (shD S d i) p) (cI S)
def mxF (S : Sc) (d : Int) : Nat → Nat
  | 0 => 0
  | p + 1 => if mxF S d p < mp S d p then mp S d p else mxF S d p
theorem mp_le {S : Sc} (hS : okS S) (d : Int) (p : Nat) : mp S d p ≤ 10 := Nat.le_trans (fb_ct_le _ _) hS.2.2.2.1
theorem mxF_le {S : Sc} (hS : okS S) (d : Int) : ∀ p, mxF S d p ≤ 10
  | 0 => Nat.zero_le _
  | p + 1 => by
    have := mxF_le hS d p
    have := mp_le hS d p
    show (if _ then _ else _) ≤ _
    split <;> omega
theorem mxF_iff {S : Sc} (d : Int) (k : Nat) : ∀ n, mxF S d n ≤ k ↔ ∀ p, p < n → mp S d p ≤ k
  | 0 => ⟨fun _ p h => absurd h (Nat.not_lt_zero p), fun _ => Nat.zero_le _⟩
  | n + 1 => by
    have ih := mxF_iff (S := S) d k n
    show (if _ then _ else _) ≤ _ ↔ _
    constructor
    · intro h p hp
      by_cases hq : p = n
      · subst hq; split at h <;> omega
      · exact ih.mp (by split at h <;> omega) p (by omega)
    · intro h
      have h1 := ih.mpr (fun p hp => h p (by omega))
      have h2 := h n (by omega)
      split <;> omega
theorem mostP_L {b : Nat} {S : Sc} {M : Mem} (hS : okS S) (hR : RC b S M) {d : Int} (hrow : ∀ j, j < cI S → M.1 (b + 7) j = shD S d j) : ∀ (e n p : Nat), p + e = cP S → e < n → fX2_mostPicturesOfOne_13L b n (i32 (mxF S d p)) (i32 p) M = some (i32 (mxF S d (cP S)), M) := by
  have h8 := hS.2.2.1
  intro e
  induction e with
  | zero =>
    intro n p he hn
    obtain ⟨n, rfl⟩ : ∃ m, n = m + 1 := ⟨n - 1, by omega⟩
    show fX2_mostPicturesOfOne_13B _ b _ (i32 p) M = _
    unfold fX2_mostPicturesOfOne_13B
    rw [hR.2.2.1, if_pos ((i32_le (by omega)).mpr (by omega)), show p = cP S by omega]
  | succ e ih =>
    intro n p he hn
    obtain ⟨n, rfl⟩ : ∃ m, n = m + 1 := ⟨n - 1, by omega⟩
    have ihp := ih n (p + 1) (by omega) (by omega)
    have m1 := mxF_le hS d p
    have m2 := mp_le hS d p
    show fX2_mostPicturesOfOne_13B (fX2_mostPicturesOfOne_13L b n) b _ (i32 p) M = _
    unfold fX2_mostPicturesOfOne_13B
    rw [hR.2.2.1, if_neg (fun q => absurd ((i32_le (by omega)).mp q) (by omega)), hR.2.2.2.1, i32_nI p, show (1 : Int32) <<< (nI p &&& 31) = bit1 p from rfl, countSh_C hS.2.2.2.1 (c := fun i => bt (shD S d i) p) (fun i hi => by rw [hrow i hi]; exact and_bit1 (by omega))]
    simp only [Option.bind_some, Option.bind_none]
    rw [show fb_ct (fun i => bt (shD S d i) p) (cI S) = mp S d p from rfl, imax_ok (by omega), ← i32_nI p]
    simp only [L0, L1, L2, L3, L4, L5, L6, L7, L8, L9, L10, L11, L12, L13, L15, L16, L20, L24, L31, L32, L40, L41, L48, L50, L57, L59, L63, L80, L81, L96, L97, L99, L100, L122, L144, L199, L255, L400, L1681, L68921, L1000000, i32_add, i32_sub, i32_mul, i32_neg, Option.bind_some, Option.bind_none]
    rw [show (p : Int) + 1 = ((p + 1 : Nat) : Int) by omega]
    rw [show mxF S d (p + 1) = if mxF S d p < mp S d p then mp S d p else mxF S d p from rfl] at ihp
    rw [← ihp]
    congr 2
    split <;> split <;> omega
theorem most_C {b : Nat} {S : Sc} {M : Mem} (hS : okS S) (hR : RC b S M) (hC : Cached b S M) {d : Int} (hd : 0 ≤ d ∧ d ≤ 9) : ∃ M', fX2_mostPicturesOfOne b (i32 d) M = some (i32 (mxF S d (cP S)), M') ∧ Cached b S M' ∧ RC b S M' ∧ QC b M M' := by
  obtain ⟨M', g1, g2, g3, g4, g5⟩ := showAll_C hS hR hC (a := b + 7) (Or.inr rfl) hd
  refine ⟨M', ?_, g2, g3, g5.q⟩
  unfold fX2_mostPicturesOfOne
  rw [g1]
  simp only [Option.bind_some, Option.bind_none]
  exact mostP_L hS g3 g4 (cP S) FU 0 (by omega) (by have := hS.2.2.1; unfold FU; omega)
def rC (S : Sc) (k : Nat) : Nat → Nat
  | 0 => 0
  | d + 1 => if mxF S ((d + 1 : Nat) : Int) (cP S) ≤ k then d + 1 else rC S k d
theorem ruleC_L {b : Nat} {S : Sc} (hS : okS S) {k : Nat} (hk : k ≤ 10) : ∀ (d n : Nat) (M : Mem), RC b S M → Cached b S M → M.2.2 0 5 = b → d ≤ 9 → d < n → ∃ M', fX4_rule_15L n (i32 k) (i32 d) M = some (i32 (rC S k d), M') ∧ Cached b S M' ∧ QC b M M' := by
  intro d
  induction d with
  | zero =>
    intro n M hR hC hb hd hn
    obtain ⟨n, rfl⟩ : ∃ m, n = m + 1 := ⟨n - 1, by omega⟩
    refine ⟨M, ?_, hC, QC.rf⟩
    show fX4_rule_15B _ (i32 k) (i32 ((0 : Nat) : Int)) M = _
    unfold fX4_rule_15B
    rw [if_pos (by decide)]
    rfl
  | succ d ih =>
    intro n M hR hC hb hd hn
    obtain ⟨n, rfl⟩ : ∃ m, n = m + 1 := ⟨n - 1, by omega⟩
    obtain ⟨M1, g1, g2, g3, g4⟩ := most_C hS hR hC (d := ((d + 1 : Nat) : Int)) (by omega)
    have hm := mxF_le hS ((d + 1 : Nat) : Int) (cP S)
    have hstep : fX4_rule_15L (n + 1) (i32 k) (i32 ((d + 1 : Nat) : Int)) M = if mxF S ((d + 1 : Nat) : Int) (cP S) ≤ k then some (i32 ((d + 1 : Nat) : Int), M1) else fX4_rule_15L n (i32 k) (i32 d) M1 := by
      show fX4_rule_15B (fX4_rule_15L n) (i32 k) (i32 ((d + 1 : Nat) : Int)) M = _
      unfold fX4_rule_15B
      rw [show (0 : Int32) = i32 0 from rfl, if_neg (fun q => absurd ((i32_le (by omega)).mp q) (by omega)), hb, g1]
      simp only [L0, L1, L2, L3, L4, L5, L6, L7, L8, L9, L10, L11, L12, L13, L15, L16, L20, L24, L31, L32, L40, L41, L48, L50, L57, L59, L63, L80, L81, L96, L97, L99, L100, L122, L144, L199, L255, L400, L1681, L68921, L1000000, i32_add, i32_sub, i32_mul, i32_neg, Option.bind_some, Option.bind_none]
      rw [show ((d + 1 : Nat) : Int) + -1 = (d : Int) by omega]
      by_cases hq : mxF S ((d + 1 : Nat) : Int) (cP S) ≤ k
      · rw [if_pos hq, if_pos ((i32_le (by omega)).mpr (by omega))]
      · rw [if_neg hq, if_neg (fun q => hq (by have := (i32_le (by omega)).mp q; omega))]
    rw [hstep, show rC S k (d + 1) = if mxF S ((d + 1 : Nat) : Int) (cP S) ≤ k then d + 1 else rC S k d from rfl]
    by_cases hq : mxF S ((d + 1 : Nat) : Int) (cP S) ≤ k
    · rw [if_pos hq, if_pos hq]
      exact ⟨M1, rfl, g2, g4⟩
    · rw [if_neg hq, if_neg hq]
      obtain ⟨M', k1, k2, k3⟩ := ih n M1 g3 g2 (by rw [g4.1]; exact hb) (by omega) (by omega)
      exact ⟨M', k1, k2, g4.tr k3⟩

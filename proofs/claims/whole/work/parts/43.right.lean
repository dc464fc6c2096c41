/-! right: what is counted. -/
def fA (N : Nt) (f : Nat) : Int := nFd N f 0
def fU (N : Nt) (f : Nat) : Int := nFd N f 1
def fB (N : Nt) (f : Nat) : Int := nFd N f 2
def fV (N : Nt) (f : Nat) : Int := nFd N f 3
def oo (a b c : Int) (k : Int) : Int := if k = 0 then 0 else if k = 1 then a else if k = 2 then b else c
def hold (N : Nt) (a b c : Int) (f : Nat) : Bool := decide (fV N f - fU N f = oo a b c (fB N f) - oo a b c (fA N f))
def lo (N : Nt) (f : Nat) : Int := mn (fA N f) (fB N f)
def hi (N : Nt) (f : Nat) : Int := if fA N f < fB N f then fB N f else fA N f
def dd (N : Nt) (f : Nat) : Int := if fA N f < fB N f then fV N f - fU N f else -(fV N f - fU N f)
def ix (N : Nt) (f : Nat) : Int := (2 * lo N f + hi N f) * 81 + 40 + dd N f
def inr (N : Nt) (f : Nat) : Bool := btw (dd N f) (-40) 40
def cl (N : Nt) (j : Int) (f : Nat) : Bool := inr N f && decide (ix N f = j)
def tl (N : Nt) (n : Nat) (j : Int) : Nat := fb_ct (cl N j) n
def lc (N : Nt) (f : Nat) : Bool := inr N f && decide (hi N f = 3)
theorem fact_b {N : Nt} (hN : okN N) {f : Nat} (hf : f < nF N) : (0 ≤ fA N f ∧ fA N f ≤ 3) ∧ (0 ≤ fU N f ∧ fU N f ≤ 99) ∧ (0 ≤ fB N f ∧ fB N f ≤ 3) ∧ (0 ≤ fV N f ∧ fV N f ≤ 99) ∧ fA N f ≠ fB N f := hN.2.1 f hf
/-- the two clocks of a fact, in order, and how far apart -/
theorem fact_c {N : Nt} (hN : okN N) {f : Nat} (hf : f < nF N) : ((lo N f = 0 ∧ hi N f = 1) ∨ (lo N f = 0 ∧ hi N f = 2) ∨ (lo N f = 0 ∧ hi N f = 3) ∨ (lo N f = 1 ∧ hi N f = 2) ∨ (lo N f = 1 ∧ hi N f = 3) ∨ (lo N f = 2 ∧ hi N f = 3)) ∧ (-99 ≤ dd N f ∧ dd N f ≤ 99) := by
  obtain ⟨h1, h2, h3, h4, h5⟩ := fact_b hN hf
  unfold lo hi dd mn
  by_cases q : fA N f < fB N f
  · rw [if_pos q, if_pos q, if_neg (by omega)]; omega
  · rw [if_neg q, if_neg q, if_pos (by omega)]; omega
theorem hold_n {N : Nt} (hN : okN N) {f : Nat} (hf : f < nF N) (a b c : Int) : hold N a b c f = decide (dd N f = oo a b c (hi N f) - oo a b c (lo N f)) := by
  obtain ⟨h1, h2, h3, h4, h5⟩ := fact_b hN hf
  unfold hold lo hi dd mn
  by_cases q : fA N f < fB N f
  · rw [if_pos q, if_pos q, if_neg (by omega)]
  · rw [if_neg q, if_neg q, if_pos (by omega)]
    exact decide_eq_decide.mpr ⟨fun z => by omega, fun z => by omega⟩
def b1 (c : Bool) : Nat := if c then 1 else 0
theorem b1_d (p : Prop) [Decidable p] : (p ∧ b1 (decide p) = 1) ∨ (¬ p ∧ b1 (decide p) = 0) := by
  by_cases h : p
  · left; rw [decide_eq_true h]; exact ⟨h, rfl⟩
  · right; rw [decide_eq_false h]; exact ⟨h, rfl⟩
def J (a b d : Int) : Int := (2 * a + b) * 81 + 40 + d
theorem b1_cl (N : Nt) (j : Int) (f : Nat) : ((-40 ≤ dd N f ∧ dd N f ≤ 40 ∧ ix N f = j) ∧ b1 (cl N j f) = 1) ∨ (¬ (-40 ≤ dd N f ∧ dd N f ≤ 40 ∧ ix N f = j) ∧ b1 (cl N j f) = 0) := by
  unfold cl inr btw
  by_cases h : -40 ≤ dd N f ∧ dd N f ≤ 40
  · rw [decide_eq_true h, Bool.true_and]
    rcases b1_d (ix N f = j) with q | q
    · left; exact ⟨⟨h.1, h.2, q.1⟩, q.2⟩
    · right; exact ⟨fun z => q.1 z.2.2, q.2⟩
  · rw [decide_eq_false h, Bool.false_and]
    right; exact ⟨fun z => h ⟨z.1, z.2.1⟩, rfl⟩
theorem b1_lc (N : Nt) (f : Nat) : ((-40 ≤ dd N f ∧ dd N f ≤ 40 ∧ hi N f = 3) ∧ b1 (lc N f) = 1) ∨ (¬ (-40 ≤ dd N f ∧ dd N f ≤ 40 ∧ hi N f = 3) ∧ b1 (lc N f) = 0) := by
  unfold lc inr btw
  by_cases h : -40 ≤ dd N f ∧ dd N f ≤ 40
  · rw [decide_eq_true h, Bool.true_and]
    rcases b1_d (hi N f = 3) with q | q
    · left; exact ⟨⟨h.1, h.2, q.1⟩, q.2⟩
    · right; exact ⟨fun z => q.1 z.2.2, q.2⟩
  · rw [decide_eq_false h, Bool.false_and]
    right; exact ⟨fun z => h ⟨z.1, z.2.1⟩, rfl⟩
theorem ct_b1 (p : Nat → Bool) (n : Nat) : fb_ct p (n + 1) = fb_ct p n + b1 (p n) := rfl
theorem held_sum {N : Nt} (hN : okN N) {a b c : Int} (ha : -20 ≤ a ∧ a ≤ 20) (hb : -20 ≤ b ∧ b ≤ 20) (hc : -20 ≤ c ∧ c ≤ 20) : ∀ n, n ≤ nF N → fb_ct (hold N a b c) n = (tl N n (J 0 1 a) + tl N n (J 0 2 b) + tl N n (J 1 2 (b - a))) + tl N n (J 0 3 c) + tl N n (J 1 3 (c - a)) + tl N n (J 2 3 (c - b)) ∧ tl N n (J 0 3 c) + tl N n (J 1 3 (c - a)) + tl N n (J 2 3 (c - b)) ≤ fb_ct (lc N) n := by
  intro n
  induction n with
  | zero => exact fun _ => ⟨rfl, Nat.le_refl _⟩
  | succ n ih =>
    intro hn
    obtain ⟨i1, i2⟩ := ih (by omega)
    unfold tl at *
    rw [ct_b1, ct_b1, ct_b1, ct_b1, ct_b1, ct_b1, ct_b1, ct_b1, i1]
    obtain ⟨h1, h2⟩ := fact_c hN (show n < nF N by omega)
    have e1 := b1_cl N (J 0 1 a) n
    have e2 := b1_cl N (J 0 2 b) n
    have e3 := b1_cl N (J 1 2 (b - a)) n
    have e4 := b1_cl N (J 0 3 c) n
    have e5 := b1_cl N (J 1 3 (c - a)) n
    have e6 := b1_cl N (J 2 3 (c - b)) n
    have e7 := b1_lc N n
    have e8 := b1_d (dd N n = oo a b c (hi N n) - oo a b c (lo N n))
    rw [← hold_n hN (show n < nF N by omega)] at e8
    have hix : ix N n = (2 * lo N n + hi N n) * 81 + 40 + dd N n := rfl
    unfold J at *
    have o0 : oo a b c 0 = 0 := rfl
    have o1 : oo a b c 1 = a := rfl
    have o2 : oo a b c 2 = b := rfl
    have o3 : oo a b c 3 = c := rfl
    rcases h1 with ⟨l1, l2⟩ | ⟨l1, l2⟩ | ⟨l1, l2⟩ | ⟨l1, l2⟩ | ⟨l1, l2⟩ | ⟨l1, l2⟩ <;> (rw [l1, l2] at hix; rw [l1, l2] at e8; rw [l2] at e7; simp only [o0, o1, o2, o3] at e8; constructor <;> omega)
def cc1 (c : Nat) : Int := ((c / 1681 : Nat) : Int) - 20
def cc2 (c : Nat) : Int := ((c / 41 % 41 : Nat) : Int) - 20
def cc3 (c : Nat) : Int := ((c % 41 : Nat) : Int) - 20
def hd (N : Nt) (c : Nat) : Nat := fb_ct (hold N (cc1 c) (cc2 c) (cc3 c)) (nF N)
def mst (N : Nt) : Nat → Int
  | 0 => -1
  | c + 1 => if mst N c < (hd N c : Int) then (hd N c : Int) else mst N c
def bo (N : Nt) : Nat → Nat
  | 0 => 0
  | c + 1 => if mst N c < (hd N c : Int) then c else bo N c
theorem hd_le {N : Nt} (hN : okN N) (c : Nat) : hd N c ≤ 20 := Nat.le_trans (fb_ct_le _ _) hN.1
theorem mst_b {N : Nt} (hN : okN N) : ∀ c, -1 ≤ mst N c ∧ mst N c ≤ 20
  | 0 => by rw [show mst N 0 = -1 from rfl]; decide
  | c + 1 => by
    have h := mst_b hN c
    have g := hd_le hN c
    show -1 ≤ (if mst N c < (hd N c : Int) then (hd N c : Int) else mst N c) ∧ (if mst N c < (hd N c : Int) then (hd N c : Int) else mst N c) ≤ 20
    by_cases q : mst N c < (hd N c : Int)
    · rw [if_pos q]; omega
    · rw [if_neg q]; omega
theorem mst_skip {N : Nt} {c : Nat} {k : Nat} (h : ∀ r, r < k → (hd N (c + r) : Int) ≤ mst N c) : mst N (c + k) = mst N c ∧ bo N (c + k) = bo N c := by
  induction k with
  | zero => exact ⟨rfl, rfl⟩
  | succ k ih =>
    obtain ⟨i1, i2⟩ := ih (fun r hr => h r (by omega))
    have := h k (by omega)
    show (if mst N (c + k) < (hd N (c + k) : Int) then (hd N (c + k) : Int) else mst N (c + k)) = _ ∧ (if mst N (c + k) < (hd N (c + k) : Int) then c + k else bo N (c + k)) = _
    rw [i1, if_neg (by omega), if_neg (by omega)]
    exact ⟨rfl, i2⟩
theorem code_d {p q r : Nat} (hp : p < 41) (hq : q < 41) (hr : r < 41) : cc1 (1681 * p + 41 * q + r) = (p : Int) - 20 ∧ cc2 (1681 * p + 41 * q + r) = (q : Int) - 20 ∧ cc3 (1681 * p + 41 * q + r) = (r : Int) - 20 := by
  unfold cc1 cc2 cc3
  refine ⟨?_, ?_, ?_⟩ <;> omega
theorem hd_at {N : Nt} (hN : okN N) {p q r : Nat} (hp : p < 41) (hq : q < 41) (hr : r < 41) : hd N (1681 * p + 41 * q + r) = (tl N (nF N) (J 0 1 ((p : Int) - 20)) + tl N (nF N) (J 0 2 ((q : Int) - 20)) + tl N (nF N) (J 1 2 (((q : Int) - 20) - ((p : Int) - 20)))) + tl N (nF N) (J 0 3 ((r : Int) - 20)) + tl N (nF N) (J 1 3 (((r : Int) - 20) - ((p : Int) - 20))) + tl N (nF N) (J 2 3 (((r : Int) - 20) - ((q : Int) - 20))) ∧ tl N (nF N) (J 0 3 ((r : Int) - 20)) + tl N (nF N) (J 1 3 (((r : Int) - 20) - ((p : Int) - 20))) + tl N (nF N) (J 2 3 (((r : Int) - 20) - ((q : Int) - 20))) ≤ fb_ct (lc N) (nF N) := by
  obtain ⟨c1, c2, c3⟩ := code_d hp hq hr
  unfold hd
  rw [c1, c2, c3]
  exact held_sum hN (by omega) (by omega) (by omega) (nF N) (Nat.le_refl _)

/-! As many chains as the largest set of unlike ones (Dilworth), by Galvin's way. -/
def Anti (lt : Nat → Nat → Prop) (P : Nat → Prop) (k : Nat) (e : Nat → Nat) : Prop := (∀ i, i < k → P (e i)) ∧ ∀ i j, i < k → j < k → i ≠ j → e i ≠ e j ∧ ¬ lt (e i) (e j)
def Colr (lt : Nat → Nat → Prop) (P : Nat → Prop) (k : Nat) (c : Nat → Nat) : Prop := (∀ x, P x → c x < k) ∧ ∀ x y, P x → P y → c x = c y → x ≠ y → lt x y ∨ lt y x
section DIL
variable {lt : Nat → Nat → Prop}
theorem anti_le {P : Nat → Prop} {k k' : Nat} {e c : Nat → Nat} (h : Anti lt P k e) (g : Colr lt P k' c) : k ≤ k' := by
  refine fb_holes k' k (fun i => c (e i)) (fun i hi => g.1 _ (h.1 i hi)) (fun i j hij hj he => ?_)
  have h1 := h.2 i j (by omega) hj (by omega)
  have h2 := h.2 j i hj (by omega) (by omega)
  rcases g.2 _ _ (h.1 i (by omega)) (h.1 j hj) he h1.1 with q | q
  · exact h1.2 q
  · exact h2.2 q
theorem anti_hit {P : Nat → Prop} {k : Nat} {e c : Nat → Nat} (h : Anti lt P k e) (g : Colr lt P k c) {t : Nat} (ht : t < k) : ∃ i, i < k ∧ c (e i) = t := by
  refine fb_onto (f := fun i => c (e i)) (fun i hi => g.1 _ (h.1 i hi)) (fun i j hij hj he => ?_) ht
  have h1 := h.2 i j (by omega) hj (by omega)
  have h2 := h.2 j i hj (by omega) (by omega)
  rcases g.2 _ _ (h.1 i (by omega)) (h.1 j hj) he h1.1 with q | q
  · exact h1.2 q
  · exact h2.2 q
theorem dil_max (irr : ∀ x, ¬ lt x x) (tr : ∀ x y z, lt x y → lt y z → lt x z) (P : Nat → Prop) : ∀ (n : Nat), (∃ x, x < n ∧ P x) → ∃ a, a < n ∧ P a ∧ ∀ x, x < n → P x → ¬ lt a x := by
  intro n
  induction n with
  | zero => exact fun ⟨x, h, _⟩ => absurd h (by omega)
  | succ n ih =>
    intro ⟨x, hx, hP⟩
    by_cases q : ∃ x, x < n ∧ P x
    · obtain ⟨a, h1, h2, h3⟩ := ih q
      by_cases r : P n ∧ lt a n
      · refine ⟨n, by omega, r.1, fun x hx hp hl => ?_⟩
        by_cases z : x = n
        · subst z; exact irr _ hl
        · exact h3 x (by omega) hp (tr _ _ _ r.2 hl)
      · refine ⟨a, by omega, h2, fun x hx hp hl => ?_⟩
        by_cases z : x = n
        · subst z; exact r ⟨hp, hl⟩
        · exact h3 x (by omega) hp hl
    · have : x = n := by
        by_cases z : x = n
        · exact z
        · exact absurd ⟨x, by omega, hP⟩ q
      subst this
      refine ⟨x, by omega, hP, fun y hy hp hl => ?_⟩
      by_cases z : y = x
      · subst z; exact irr _ hl
      · exact q ⟨y, by omega, hp⟩
theorem dil (irr : ∀ x, ¬ lt x x) (tr : ∀ x y z, lt x y → lt y z → lt x z) {n : Nat} : ∀ (m : Nat) (p : Nat → Bool), fb_ct p n = m → (∀ x, p x = true → x < n) → ∃ k e c, Anti lt (fun x => p x = true) k e ∧ Colr lt (fun x => p x = true) k c := by
  intro m
  induction m using Nat.strongRecOn with
  | ind m ih =>
  intro p hm hp
  by_cases q : ∃ x, x < n ∧ p x = true
  · obtain ⟨a, ha1, ha2, ha3⟩ := dil_max irr tr (fun x => p x = true) n q
    -- without a
    have smaller : ∀ p' : Nat → Bool, (∀ x, p' x = true → p x = true) → p' a = false → fb_ct p' n < m := by
      intro p' h1 h2
      have e1 : fb_ct (fun k => if k = a then true else p' k) n ≤ fb_ct p n := fb_ct_sub (fun k _ hk => by
        by_cases z : k = a
        · rw [z]; exact ha2
        · rw [if_neg z] at hk; exact h1 k hk)
      have e2 := fb_ct_upd p' true (i := a) ha1
      rw [h2] at e2
      simp only [Bool.false_eq_true, if_false, if_true] at e2
      omega
    obtain ⟨k, e, c, hA, hC⟩ := ih _ (smaller (fun x => if x = a then false else p x) (fun x hx => by
      by_cases z : x = a
      · rw [if_pos z] at hx; exact absurd hx (by decide)
      · rw [if_neg z] at hx; exact hx) (if_pos rfl)) (fun x => if x = a then false else p x) rfl (fun x hx => by
      by_cases z : x = a
      · rw [if_pos z] at hx; exact absurd hx (by decide)
      · rw [if_neg z] at hx; exact hp x hx)
    have hP' : ∀ x, (if x = a then false else p x) = true ↔ x ≠ a ∧ p x = true := fun x => by
      by_cases z : x = a
      · rw [if_pos z]; exact ⟨fun h => absurd h (by decide), fun h => absurd z h.1⟩
      · rw [if_neg z]; exact ⟨fun h => ⟨z, h⟩, fun h => h.2⟩
    -- the greatest of each colour that lies in some widest set
    have hx : ∀ i, ∃ x, i < k → ((x ≠ a ∧ p x = true ∧ c x = i) ∧ (∃ e', Anti lt (fun x => (if x = a then false else p x) = true) k e' ∧ ∃ j, j < k ∧ e' j = x)) ∧ ∀ y, ((y ≠ a ∧ p y = true ∧ c y = i) ∧ (∃ e', Anti lt (fun x => (if x = a then false else p x) = true) k e' ∧ ∃ j, j < k ∧ e' j = y)) → y = x ∨ lt y x := by
      intro i
      by_cases hi : i < k
      · obtain ⟨j, hj, hcj⟩ := anti_hit hA hC hi
        have h0 := (hP' _).mp (hA.1 j hj)
        obtain ⟨x, x1, x2, x3⟩ := dil_max irr tr (fun x => (x ≠ a ∧ p x = true ∧ c x = i) ∧ (∃ e', Anti lt (fun x => (if x = a then false else p x) = true) k e' ∧ ∃ j, j < k ∧ e' j = x)) n ⟨e j, hp _ h0.2, ⟨h0.1, h0.2, hcj⟩, e, hA, j, hj, rfl⟩
        refine ⟨x, fun _ => ⟨x2, fun y hy => ?_⟩⟩
        by_cases z : y = x
        · exact Or.inl z
        · rcases hC.2 y x ((hP' y).mpr ⟨hy.1.1, hy.1.2.1⟩) ((hP' x).mpr ⟨x2.1.1, x2.1.2.1⟩) (hy.1.2.2.trans x2.1.2.2.symm) z with w | w
          · exact Or.inr w
          · exact absurd w (x3 y (hp y hy.1.2.1) hy)
      · exact ⟨0, fun h => absurd h hi⟩
    obtain ⟨x, hx⟩ := Classical.axiomOfChoice hx
    have hXA : ∀ i j, i < k → j < k → i ≠ j → x i ≠ x j ∧ ¬ lt (x i) (x j) := by
      intro i j hi hj hij
      obtain ⟨⟨⟨u1, u2, u3⟩, u4⟩, u5⟩ := hx i hi
      obtain ⟨⟨⟨v1, v2, v3⟩, e', v4, j', v5, v6⟩, v7⟩ := hx j hj
      refine ⟨fun z => hij (by rw [← u3, ← v3, z]), fun hl => ?_⟩
      obtain ⟨i', w1, w2⟩ := anti_hit v4 hC hi
      have h0 := (hP' _).mp (v4.1 i' w1)
      have hne : i' ≠ j' := fun z => hij (by rw [← w2, z, v6, v3])
      have h1 := (v4.2 i' j' w1 v5 hne).2
      rw [v6] at h1
      rcases u5 (e' i') ⟨⟨h0.1, h0.2, w2⟩, e', v4, i', w1, rfl⟩ with z | z
      · rw [z] at h1; exact h1 hl
      · exact h1 (tr _ _ _ z hl)
    by_cases r : ∃ i, i < k ∧ lt (x i) a
    · -- a chain that every widest set meets
      obtain ⟨i, hi, hl⟩ := r
      obtain ⟨⟨⟨u1, u2, u3⟩, u4⟩, u5⟩ := hx i hi
      have hK : ∃ K : Nat → Bool, ∀ z, K z = true ↔ (z = a ∨ (z ≠ a ∧ p z = true ∧ c z = i ∧ (z = x i ∨ lt z (x i)))) := by
        have : ∀ z, ∃ b : Bool, b = true ↔ (z = a ∨ (z ≠ a ∧ p z = true ∧ c z = i ∧ (z = x i ∨ lt z (x i)))) := fun z => by
          by_cases w : (z = a ∨ (z ≠ a ∧ p z = true ∧ c z = i ∧ (z = x i ∨ lt z (x i))))
          · exact ⟨true, fun _ => w, fun _ => rfl⟩
          · exact ⟨false, fun h => absurd h (by decide), fun h => absurd h w⟩
        exact Classical.axiomOfChoice this
      obtain ⟨K, hK⟩ := hK
      have hKp : ∀ z, K z = true → p z = true := fun z hz => by
        rcases (hK z).mp hz with w | w
        · rw [w]; exact ha2
        · exact w.2.1
      have hP2 : ∀ x, (p x && !K x) = true ↔ p x = true ∧ ¬ K x = true := fun x => by
        cases p x <;> cases K x <;> simp
      obtain ⟨k2, e2, c2, hA2, hC2⟩ := ih _ (smaller (fun x => p x && !K x) (fun x hx => ((hP2 x).mp hx).1) (by
        rw [(hK a).mpr (Or.inl rfl), Bool.not_true, Bool.and_false])) (fun x => p x && !K x) rfl (fun x hx => hp x ((hP2 x).mp hx).1)
      have hk2 : k2 + 1 ≤ k := by
        by_cases w : k2 < k
        · exact w
        · have hA3 : Anti lt (fun x => (if x = a then false else p x) = true) k e2 := ⟨fun j hj => (hP' _).mpr ⟨fun z => ((hP2 _).mp (hA2.1 j (by omega))).2 ((hK _).mpr (Or.inl z)), ((hP2 _).mp (hA2.1 j (by omega))).1⟩, fun i j h1 h2 h3 => hA2.2 i j (by omega) (by omega) h3⟩
          obtain ⟨j, j1, j2⟩ := anti_hit hA3 hC hi
          have h0 := (hP' _).mp (hA3.1 j j1)
          have := u5 (e2 j) ⟨⟨h0.1, h0.2, j2⟩, e2, hA3, j, j1, rfl⟩
          exact absurd ((hK _).mpr (Or.inr ⟨h0.1, h0.2, j2, this⟩)) ((hP2 _).mp (hA2.1 j (by omega))).2
      refine ⟨k, e, fun z => if K z = true then k2 else c2 z, ⟨fun j hj => ((hP' _).mp (hA.1 j hj)).2, hA.2⟩, fun z hz => ?_, fun y z hy hz hyz hne => ?_⟩
      · show (if K z = true then k2 else c2 z) < k
        by_cases w : K z = true
        · rw [if_pos w]; omega
        · rw [if_neg w]
          have := hC2.1 z ((hP2 z).mpr ⟨hz, w⟩)
          omega
      · have hyz' : (if K y = true then k2 else c2 y) = (if K z = true then k2 else c2 z) := hyz
        by_cases w : K y = true
        · by_cases w' : K z = true
          · rcases (hK y).mp w with s | s
            · rcases (hK z).mp w' with t | t
              · exact absurd (s.trans t.symm) hne
              · rcases t.2.2.2 with t' | t'
                · rw [s, t']; exact Or.inr hl
                · rw [s]; exact Or.inr (tr _ _ _ t' hl)
            · rcases (hK z).mp w' with t | t
              · rcases s.2.2.2 with s' | s'
                · rw [t, s']; exact Or.inl hl
                · rw [t]; exact Or.inl (tr _ _ _ s' hl)
              · exact hC.2 y z ((hP' y).mpr ⟨s.1, s.2.1⟩) ((hP' z).mpr ⟨t.1, t.2.1⟩) (s.2.2.1.trans t.2.2.1.symm) hne
          · rw [if_pos w, if_neg w'] at hyz'
            have := hC2.1 z ((hP2 z).mpr ⟨hz, w'⟩)
            omega
        · by_cases w' : K z = true
          · rw [if_neg w, if_pos w'] at hyz'
            have := hC2.1 y ((hP2 y).mpr ⟨hy, w⟩)
            omega
          · rw [if_neg w, if_neg w'] at hyz'
            exact hC2.2 y z ((hP2 y).mpr ⟨hy, w⟩) ((hP2 z).mpr ⟨hz, w'⟩) hyz' hne
    · -- a is unlike all of them
      refine ⟨k + 1, fun i => if i = k then a else x i, fun z => if z = a then k else c z, ⟨fun i hi => ?_, fun i j hi hj hij => ?_⟩, fun z hz => ?_, fun y z hy hz hyz hne => ?_⟩
      · show p (if i = k then a else x i) = true
        by_cases w : i = k
        · rw [if_pos w]; exact ha2
        · rw [if_neg w]; exact (hx i (by omega)).1.1.2.1
      · show (if i = k then a else x i) ≠ (if j = k then a else x j) ∧ ¬ lt (if i = k then a else x i) (if j = k then a else x j)
        by_cases w : i = k
        · have hj' : j < k := by omega
          rw [if_pos w, if_neg (by omega)]
          exact ⟨fun z => (hx j hj').1.1.1 z.symm, ha3 _ (hp _ (hx j hj').1.1.2.1) (hx j hj').1.1.2.1⟩
        · have hi' : i < k := by omega
          rw [if_neg w]
          by_cases w' : j = k
          · rw [if_pos w']
            exact ⟨(hx i hi').1.1.1, fun z => r ⟨i, hi', z⟩⟩
          · rw [if_neg w']
            exact hXA i j hi' (by omega) hij
      · show (if z = a then k else c z) < k + 1
        by_cases w : z = a
        · rw [if_pos w]; omega
        · rw [if_neg w]
          have := hC.1 z ((hP' z).mpr ⟨w, hz⟩)
          omega
      · have hyz' : (if y = a then k else c y) = (if z = a then k else c z) := hyz
        by_cases w : y = a
        · by_cases w' : z = a
          · exact absurd (w.trans w'.symm) hne
          · rw [if_pos w, if_neg w'] at hyz'
            have := hC.1 z ((hP' z).mpr ⟨w', hz⟩)
            omega
        · by_cases w' : z = a
          · rw [if_neg w, if_pos w'] at hyz'
            have := hC.1 y ((hP' y).mpr ⟨w, hy⟩)
            omega
          · rw [if_neg w, if_neg w'] at hyz'
            exact hC.2 y z ((hP' y).mpr ⟨w, hy⟩) ((hP' z).mpr ⟨w', hz⟩) hyz' hne
  · refine ⟨0, fun _ => 0, fun _ => 0, ⟨fun i hi => absurd hi (by omega), fun i j hi => absurd hi (by omega)⟩, fun x hx => absurd ⟨x, hp x hx, hx⟩ q, fun x y hx => absurd ⟨x, hp x hx, hx⟩ q⟩
end DIL

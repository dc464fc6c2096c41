/-! square: the class reads the whole text. -/
def Fr (b : Nat) (M M' : Mem) : Prop := M'.2 = M.2 ∧ (∀ a, a ≠ 1 → a ≠ 3 → (a < b ∨ b + 3 < a) → M'.1 a = M.1 a) ∧ M'.1 1 2 = M.1 1 2
theorem Fr.tr {b : Nat} {M M1 M2 : Mem} (h : Fr b M M1) (k : Fr b M1 M2) : Fr b M M2 := ⟨k.1.trans h.1, fun a q q' q2 => (k.2.1 a q q' q2).trans (h.2.1 a q q' q2), k.2.2.trans h.2.2⟩
theorem F3.fr {b : Nat} {M M' : Mem} (h : F3 M M') : Fr b M M' := ⟨h.1, fun a q q' _ => h.2.1 a q q', h.2.2⟩
theorem Fb.fr {b : Nat} (hb : 24 ≤ b) {M M' : Mem} (h : Fb b M M') : Fr b M M' := ⟨h.1, fun a _ _ q => h.2 a q, by rw [h.2 1 (by omega)]⟩
theorem TxC.fr {b : Nat} (hb : 24 ≤ b) {t : Nat → Int} {L : Nat} {M M' : Mem} (h : TxC t L M) (k : Fr b M M') : TxC t L M' := ⟨k.2.2.trans h.1, fun j hj => by rw [k.2.1 2 (by decide) (by decide) (by omega)]; exact h.2 j hj⟩
theorem rItem_C {t : Nat → Int} {L : Nat} (hT : okT t L) {b : Nat} (hb : 24 ≤ b) {i p : Nat} (hp : p ≤ L) {S : Sc} {M : Mem} (hx : TxC t L M) (hC : CI b i S M) (hRd : Rd t L p M) (h10 : tk t L p ≠ 10) : ∃ M', Fr b M M' ∧ ((∃ q, (itm t L S i p).1 = .inr q ∧ q ≤ L ∧ fX3_readItem b (i32 (bI (decide (i = 0)))) M = some (0, M') ∧ M'.1 1 5 = i32 (q : Int)) ∨ (∃ p' S', itm t L S i p = (.inl p', S') ∧ p < p' ∧ p' ≤ L ∧ fX3_readItem b (i32 (bI (decide (i = 0)))) M = some (1, M') ∧ M'.1 1 3 = i32 (p' : Int) ∧ CI b (i + 1) S' M')) := by
  have hS := hC.1
  have hR := hC.2.1
  have hb13 := tk_b t L p
  have hsb := sT_b t hp
  have hen := en_b (t := t) hp
  -- what the class asks first
  have e0 : fX3_readItem b (i32 (bI (decide (i = 0)))) M = if may S i (tk t L p) = true then fX3_readItem_35L b FU (i32 (tk t L p)) 0 M else some (0, M) := by
    unfold fX3_readItem fX3_readItem_32
    rw [hRd.2.1, show fX4_isBetween (i32 (tk t L p)) 0 3 = some (i32 (bI (btw (tk t L p) 0 3))) from isBetween_C (l := 0) (h := 3) (by omega)]
    simp only [Option.bind_some, Option.bind_none]
    rw [show (0 : Int32) = i32 0 from rfl, ite_bI, ite_bI]
    unfold may
    cases hbt : btw (tk t L p) 0 3 with
    | false => rfl
    | true =>
      rw [if_pos rfl, hasRoom_C hS hR (btw_t hbt)]
      simp only [Option.bind_some, Option.bind_none]
      rw [ite_bI, Bool.true_and]
      by_cases z0 : tk t L p = 0
      · rw [z0, if_pos rfl]
        rw [show (decide ((0 : Int) = 2) && decide (8 ≤ cP S)) = false from rfl, show (decide ((0 : Int) = 3) && decide (10 ≤ cI S)) = false from rfl]
        cases hi : decide (i = 0) <;> rfl
      · have hb := btw_t hbt
        rw [if_neg (fun q => z0 ((i32_inj (by omega)).mp q)), decide_eq_false z0]
        cases (decide (tk t L p = 2) && decide (8 ≤ cP S)) <;> cases (decide (tk t L p = 3) && decide (10 ≤ cI S)) <;> rfl
  unfold itm
  rw [e0]
  cases hm : may S i (tk t L p) with
  | false =>
    rw [if_neg (by decide), if_neg (by decide)]
    exact ⟨M, F3.rf.fr, Or.inl ⟨sT t L p, rfl, hsb.2, rfl, hRd.2.2.1⟩⟩
  | true =>
    obtain ⟨m1, m2, m3, m4⟩ := mB_r hm
    rw [if_pos rfl, if_pos rfl]
    have hk : (tk t L p).toNat < 4 := by omega
    have hke : tk t L p = (((tk t L p).toNat : Nat) : Int) := by omega
    have h6 := nl_6 _ hk
    obtain ⟨M1, g1, g2⟩ := rItem_L hT hb hS hk (nl (tk t L p).toNat) FU 0 (en t L p) (fun _ => 0) M (by omega) (by unfold FU; omega) hen.2.1 hx hR hRd.1 (fun i hi => absurd hi (by omega))
    rw [← hke, show i32 ((0 : Nat) : Int) = (0 : Int32) from rfl] at g2
    generalize hrd : rdF t L S (tk t L p).toNat (nl (tk t L p).toNat) 0 (en t L p) (fun _ => 0) = r at g2
    obtain ⟨rp, rw_⟩ := r
    rcases g2 with ⟨q, q1, q2, q3⟩ | ⟨p', w', q1, q2, q3, q4⟩
    · have q1' : rp = .inr q := q1
      subst q1'
      refine ⟨M1, g1.fr, Or.inl ⟨q, rfl, ?_, q2, q3⟩⟩
      -- a fault lies within the text
      have key : ∀ (k d j p : Nat) (w w' : Nat → Int) (q : Nat), p ≤ L → rdF t L S k d j p w = (.inr q, w') → q ≤ L := by
        intro k d
        induction d with
        | zero => intro j p w w' q hp h; injection h with h1 h2; injection h1
        | succ d ih =>
          intro j p w w' q hp h
          have h' : (if good t L (rlo k j) (rhi S k j) p = true then rdF t L S k d (j + 1) (en t L p) (fun i => if i = j then vl t L p else w i) else (.inr (sT t L p), w)) = (.inr q, w') := h
          by_cases z : good t L (rlo k j) (rhi S k j) p = true
          · rw [if_pos z] at h'; exact ih _ _ _ _ _ (en_b (t := t) hp).2.1 h'
          · rw [if_neg z] at h'
            injection h' with h1 h2
            injection h1 with h1
            rw [← h1]; exact (sT_b t hp).2
      exact key _ _ _ _ _ _ _ hen.2.1 hrd
    · injection q1 with q11 q12
      subst q11; subst q12
      obtain ⟨o1, o2, o3, o4⟩ := rdF_out _ _ _ _ _ _ hen.2.1 hrd
      obtain ⟨M2, n1, n2, n3⟩ := nextT_C hT o4 (hx.f3 g1) q3
      have hb' := tk_b t L p'
      have hC2 := (hC.f3 hb g1).f3 hb n2.f3
      have hpp : p < en t L p := hen.2.2 h10 (by omega)
      rw [q2, n1]
      simp only [Option.bind_some, Option.bind_none]
      rw [n3.2.1]
      show ∃ M', Fr b M M' ∧ ((∃ q, (if tk t L p' = 11 then (Sum.inl (en t L p'), addI S (tk t L p).toNat rw_) else (Sum.inr (sT t L p'), S)).1 = .inr q ∧ _) ∨ (∃ p'' S', (if tk t L p' = 11 then (Sum.inl (en t L p'), addI S (tk t L p).toNat rw_) else (Sum.inr (sT t L p'), S)) = (.inl p'', S') ∧ _))
      by_cases z : tk t L p' = 11
      · rw [if_pos z, if_pos (show i32 (tk t L p') = 11 by rw [z]; rfl)]
        have hmk : may S i (((tk t L p).toNat : Nat) : Int) = true := by rw [← hke]; exact hm
        obtain ⟨M3, a1, a2, a3⟩ := addItem_C hb hC2 hk hmk (w := rw_) (fun j hj => o2 j (Nat.zero_le _) (by omega)) (fun j hj => by rw [n2.2.1 3 (by decide)]; exact q4 j hj)
        rw [← hke] at a1
        have hen' := en_b (t := t) o4
        refine ⟨M3, (g1.tr n2.f3).fr.tr (a2.fr hb), Or.inr ⟨en t L p', addI S (tk t L p).toNat rw_, rfl, by omega, hen'.2.1, ?_, ?_, a3⟩⟩
        · rw [a1]; rfl
        · rw [a2.2 1 (by omega)]; exact n3.1
      · rw [if_neg z, if_neg (show ¬ i32 (tk t L p') = 11 from fun q => z ((i32_inj (b := 11) (by omega)).mp q))]
        exact ⟨M2, (g1.tr n2.f3).fr, Or.inl ⟨sT t L p', rfl, (sT_b t o4).2, rfl, n3.2.2.1⟩⟩
theorem rInto_L {t : Nat → Int} {L : Nat} (hT : okT t L) {b : Nat} (hb : 24 ≤ b) : ∀ (d m n i p : Nat) (S : Sc) (M : Mem), L < p + d → d ≤ m → d < n → p ≤ L → i ≤ p → TxC t L M → CI b i S M → M.1 1 3 = i32 (p : Int) → ∃ M', Fr b M M' ∧ fX3_readInto_11L b n (i32 (i : Int)) M = some (i32 (prs t L m i S p).1, M') ∧ ((∃ S' i', prs t L m i S p = (((i' : Nat) : Int), some S') ∧ i' ≤ 400 ∧ okS S' ∧ RC b S' M' ∧ M'.1 b 5 = i32 ((wc S' : Nat) : Int) ∧ M'.1 b 10 = i32 (-9)) ∨ (∃ q : Nat, prs t L m i S p = (-10 - (q : Int), none) ∧ q ≤ 400)) := by
  have h400 := hT.1
  intro d
  induction d with
  | zero => intro m n i p S M h1; omega
  | succ d ih =>
    intro m n i p S M h1 hdm h2 hp hip hx hC h3
    obtain ⟨n, rfl⟩ : ∃ k, n = k + 1 := ⟨n - 1, by omega⟩
    obtain ⟨m, rfl⟩ : ∃ k, m = k + 1 := ⟨m - 1, by omega⟩
    obtain ⟨M1, n1, n2, n3⟩ := nextT_C hT hp hx h3
    have hb13 := tk_b t L p
    have hC1 := hC.f3 hb n2.f3
    have e0 : fX3_readInto_11L b (n + 1) (i32 (i : Int)) M = if tk t L p = 10 then some (i32 (i : Int), M1) else (fX3_readItem b (i32 (bI (decide (i = 0)))) M1).bind fun v1 => if v1.1 = 0 then some (-10 - v1.2.1 1 5, v1.2) else fX3_readInto_11L b n (i32 ((i + 1 : Nat) : Int)) v1.2 := by
      show fX3_readInto_11B (fX3_readInto_11L b n) b _ M = _
      unfold fX3_readInto_11B fX3_readInto_44
      rw [show (400 : Int32) = i32 400 from rfl, if_neg (fun z => absurd ((i32_lt (by omega)).mp z) (by omega)), n1]
      simp only [Option.bind_some, Option.bind_none]
      rw [n3.2.1, show i32 (i : Int) + 1 = i32 ((i + 1 : Nat) : Int) by rw [show (1 : Int32) = i32 1 from rfl, i32_add]; rfl]
      by_cases z : tk t L p = 10
      · rw [if_pos z, if_pos (show i32 (tk t L p) = 10 by rw [z]; rfl)]
      · rw [if_neg z, if_neg (show ¬ i32 (tk t L p) = 10 from fun q => z ((i32_inj (b := 10) (by omega)).mp q))]
        by_cases y : i = 0
        · rw [if_pos (show i32 (i : Int) = 0 by rw [y]; rfl), decide_eq_true y]; rfl
        · rw [if_neg (show ¬ i32 (i : Int) = 0 from fun q => y (by have := (i32_inj (b := 0) (by omega)).mp q; omega)), decide_eq_false y]; rfl
    rw [e0]
    have eP : prs t L (m + 1) i S p = if tk t L p = 10 then ((i : Int), some S) else (match itm t L S i p with | (.inl p', S') => prs t L m (i + 1) S' p' | (.inr q, _) => (-10 - (q : Int), none)) := rfl
    rw [eP]
    by_cases z : tk t L p = 10
    · rw [if_pos z, if_pos z]
      exact ⟨M1, n2.f3.fr, rfl, Or.inl ⟨S, i, rfl, by omega, hC1.1, hC1.2.1, hC1.2.2.1, hC1.2.2.2.2⟩⟩
    · rw [if_neg z, if_neg z]
      obtain ⟨M2, f1, f2⟩ := rItem_C hT hb hp (hx.f1 n2) hC1 n3 z
      rcases f2 with ⟨q, q1, q2, q3, q4⟩ | ⟨p', S', q1, q2, q3, q4, q5, q6⟩
      · generalize itm t L S i p = r at q1 ⊢
        obtain ⟨r1, r2⟩ := r
        have q1' : r1 = .inr q := q1
        subst q1'
        rw [q3]
        simp only [Option.bind_some, Option.bind_none]
        rw [if_pos trivial, q4]
        refine ⟨M2, n2.f3.fr.tr f1, ?_, Or.inr ⟨q, rfl, by omega⟩⟩
        rw [show (-10 : Int32) = i32 (-10) from rfl, i32_sub]
      · rw [q1, q4]
        simp only [Option.bind_some, Option.bind_none]
        rw [if_neg (by decide)]
        obtain ⟨M', g1, g2, g3⟩ := ih m n (i + 1) p' S' M2 (by omega) (by omega) (by omega) q3 (by omega) ((hx.f1 n2).fr hb f1) q6 q5
        exact ⟨M', (n2.f3.fr.tr f1).tr g1, g2, g3⟩
theorem begin_L {b : Nat} : ∀ (d n j : Nat) (M : Mem), j + d = 144 → d < n → (∀ k, k < j → M.1 (b + 1) k = 0) → ∃ M', fX2_beginAnew_2L b n (i32 (j : Int)) M = some (sI (sI (sI (sI (sI (sI M' b 3 8) b 4 8) b 5 0) b 6 0) b 7 0) b 10 (-9)) ∧ M'.2 = M.2 ∧ (∀ a, a ≠ b + 1 → M'.1 a = M.1 a) ∧ ∀ k, k < 144 → M'.1 (b + 1) k = 0 := by
  intro d
  induction d with
  | zero =>
    intro n j M h1 h2 h3
    obtain ⟨n, rfl⟩ : ∃ k, n = k + 1 := ⟨n - 1, by omega⟩
    obtain rfl : j = 144 := by omega
    refine ⟨M, ?_, rfl, fun _ _ => rfl, h3⟩
    show fX2_beginAnew_2B (fX2_beginAnew_2L b n) b _ M = _
    unfold fX2_beginAnew_2B
    rw [if_pos (by decide)]
    rfl
  | succ d ih =>
    intro n j M h1 h2 h3
    obtain ⟨n, rfl⟩ : ∃ k, n = k + 1 := ⟨n - 1, by omega⟩
    obtain ⟨M', g1, g2, g3, g4⟩ := ih n (j + 1) (sI M (b + 1) j 0) (by omega) (by omega) (fun k hk => by
      by_cases z : k = j
      · rw [z, sI_at]
      · rw [sI_nj z]; exact h3 k (by omega))
    refine ⟨M', ?_, g2, fun a ha => by rw [g3 a ha, sI_ne ha], g4⟩
    rw [← g1]
    show fX2_beginAnew_2B (fX2_beginAnew_2L b n) b _ M = _
    unfold fX2_beginAnew_2B wZ
    rw [show (144 : Int32) = i32 144 from rfl, if_neg (fun z => absurd ((i32_le (by omega)).mp z) (by omega)), i32_inb (by omega) (by omega), if_pos (decide_eq_true (by omega)), i32_nat (by omega) (by omega), show ((j : Int)).toNat = j by omega]
    simp only [Option.bind_some, Option.bind_none]
    rw [show (1 : Int32) = i32 1 from rfl, i32_add]
    rfl
/-- the parse of a whole text -/
def prsA (t : Nat → Int) (L : Nat) : Int × Option Sc := prs t L 401 0 S0 0
theorem rInto_C {t : Nat → Int} {L : Nat} (hT : okT t L) {b : Nat} (hb : 24 ≤ b) {M : Mem} (hx : TxC t L M) : ∃ M', M'.2 = M.2 ∧ (∀ a, a ≠ 1 → a ≠ 3 → (a < b ∨ b + 3 < a) → M'.1 a = M.1 a) ∧ M'.1 1 2 = M.1 1 2 ∧ fX3_readInto b M = some (i32 (prsA t L).1, M') ∧ ((∃ S' i', prsA t L = (((i' : Nat) : Int), some S') ∧ i' ≤ 400 ∧ okS S' ∧ RC b S' M' ∧ M'.1 b 5 = i32 ((wc S' : Nat) : Int) ∧ M'.1 b 10 = i32 (-9)) ∨ (∃ q : Nat, prsA t L = (-10 - (q : Int), none) ∧ q ≤ 400)) := by
  have h400 := hT.1
  obtain ⟨M0, g1, g2, g3, g4⟩ := begin_L (b := b) 144 FU 0 M (by omega) (by unfold FU; omega) (fun k hk => absurd hk (by omega))
  rw [show i32 ((0 : Nat) : Int) = (0 : Int32) from rfl] at g1
  generalize hM1 : sI (sI (sI (sI (sI (sI M0 b 3 8) b 4 8) b 5 0) b 6 0) b 7 0) b 10 (-9) = M1 at g1
  have r1 : ∀ a, a ≠ b → M1.1 a = M0.1 a := fun a ha => by rw [← hM1, sI_ne ha, sI_ne ha, sI_ne ha, sI_ne ha, sI_ne ha, sI_ne ha]
  have s1 : M1.2 = M.2 := by rw [← hM1]; exact g2
  have hwc0 : wc S0 = 0 := by
    unfold wc
    exact fb_ct_zero.mpr (fun k _ => rfl)
  have hCI : CI b 0 S0 (sI M1 1 3 0) := by
    have n1 : ∀ j, (sI M1 1 3 0).1 b j = M1.1 b j := fun j => by rw [sI_ne (by omega)]
    have n2 : (sI M1 1 3 0).1 (b + 1) = M0.1 (b + 1) := by rw [sI_ne (by omega), r1 _ (by omega)]
    refine ⟨okS0, ⟨?_, ?_, ?_, ?_, ?_, fun p j hp => absurd hp (Nat.not_lt_zero p), fun p j hp => absurd hp (Nat.not_lt_zero p)⟩, ?_, fun _ => ⟨rfl, fun j hj => by rw [n2]; exact g4 j hj⟩, ?_⟩
    · rw [n1, ← hM1, sI_nj (by decide), sI_nj (by decide), sI_nj (by decide), sI_nj (by decide), sI_nj (by decide), sI_at]; rfl
    · rw [n1, ← hM1, sI_nj (by decide), sI_nj (by decide), sI_nj (by decide), sI_nj (by decide), sI_at]; rfl
    · rw [n1, ← hM1, sI_nj (by decide), sI_nj (by decide), sI_at]; rfl
    · rw [n1, ← hM1, sI_nj (by decide), sI_at]; rfl
    · intro x y x0 x1 y0 y1
      have x1' : x < 8 := x1
      have y1' : y < 8 := y1
      rw [n2]
      show M0.1 (b + 1) ((8 : Int) * y + x).toNat = i32 (bI false)
      rw [g4 _ (by omega)]; rfl
    · rw [n1, ← hM1, sI_nj (by decide), sI_nj (by decide), sI_nj (by decide), sI_at, hwc0]; rfl
    · rw [n1, ← hM1, sI_at]; rfl
  have hxC : TxC t L (sI M1 1 3 0) := ⟨by rw [sI_nj (by decide), r1 1 (by omega), g3 1 (by omega)]; exact hx.1, fun j hj => by rw [sI_ne (by decide), r1 2 (by omega), g3 2 (by omega)]; exact hx.2 j hj⟩
  obtain ⟨M', f1, f2, f3⟩ := rInto_L hT hb 401 401 FU 0 0 S0 (sI M1 1 3 0) (by omega) (Nat.le_refl _) (by unfold FU; omega) (by omega) (by omega) hxC hCI (by rw [sI_at]; rfl)
  rw [show i32 ((0 : Nat) : Int) = (0 : Int32) from rfl] at f2
  refine ⟨M', by rw [f1.1]; exact s1, fun a a1 a2 a3 => ?_, ?_, ?_, f3⟩
  · rw [f1.2.1 a a1 a2 a3, sI_ne a1, r1 a (by omega), g3 a (by omega)]
  · rw [f1.2.2, sI_nj (by decide), r1 1 (by omega), g3 1 (by omega)]
  · have e : fX3_readInto b M = (fX2_beginAnew b M).bind fun v1 => (wF v1 1 3 0).bind fun M2 => fX3_readInto_11L b FU 0 M2 := rfl
    have g1' : fX2_beginAnew b M = some M1 := g1
    rw [e, g1', Option.bind_some, show wF M1 1 3 0 = some (sI M1 1 3 0) from rfl, Option.bind_some]
    exact f2

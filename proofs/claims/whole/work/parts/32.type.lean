/-! type. -/
theorem by_and (y : Int64) : ((y &&& 255).toInt32 : Int32).toInt8 = (y.toInt32 : Int32).toInt8 := by
  apply Int8.toBitVec_inj.mp
  show ((y.toBitVec &&& 255#64).signExtend 32).signExtend 8 = (y.toBitVec.signExtend 32).signExtend 8
  apply BitVec.eq_of_getLsbD_eq
  intro i hi
  have h255 : ∀ i, i < 8 → (255#64).getLsbD i = true := by decide
  rw [BitVec.getLsbD_signExtend, BitVec.getLsbD_signExtend, BitVec.getLsbD_signExtend, BitVec.getLsbD_signExtend, BitVec.getLsbD_and, h255 i hi]
  have h1 : i < 32 := by omega
  have h2 : i < 64 := by omega
  simp only [if_pos h1, if_pos h2, Bool.and_true]
theorem by_is (x : Int32) : isBy (vp_nar .byte x) := by
  show isBy (x.toInt8.toInt32)
  refine ⟨x.toInt8.toInt, ⟨Int8.le_toInt _, ?_⟩, ?_⟩
  · have := Int8.toInt_lt x.toInt8
    omega
  · rw [i32_of (x.toInt8.toInt32), Int8.toInt_toInt32]
def byt (x : Int64) (d : Nat) : Int32 := vp_nar .byte (((x >>> ((i32 8 * i32 d : Int32).toInt64 &&& 63)).toInt32 : Int32).toInt8.toInt32)
def wr (x : Int64) : Nat → Nat → (Nat → Int32) → Nat → Int32
  | 0 => fun _ r => r
  | d + 1 => fun L r => wr x d (L + 1) (upd r L (byt x d))
theorem wr_eq (x : Int64) : ∀ (d L : Nat) (f g : Nat → Int32), (∀ j, j < L → f j = g j ∧ isBy (f j)) → ∀ j, j < L + d → wr x d L f j = wr x d L g j ∧ isBy (wr x d L f j) := by
  intro d
  induction d with
  | zero => exact fun L f g h j hj => h j hj
  | succ d ih =>
    intro L f g h j hj
    refine ih (L + 1) (upd f L (byt x d)) (upd g L (byt x d)) ?_ j (by omega)
    intro k hk
    unfold upd
    by_cases q : k = L
    · rw [if_pos q, if_pos q]; exact ⟨rfl, by_is _⟩
    · rw [if_neg q, if_neg q]; exact h k (by omega)
theorem wB_ok {M : Mem} {a n : Nat} {z : Int} {x : Int32} (h : 0 ≤ z ∧ z < n ∧ z ≤ 2147483647) : wB M a n (i32 z) x = some (sI M a z.toNat (vp_nar .byte x)) := by
  have := wI_ok (M := M) (a := a) (n := n) (z := z) (x := vp_nar .byte x) h
  unfold wI at this
  unfold wB
  exact this
/-- what typing changes: the row, the length -/
def Ty (r o : Nat) (x : Int64) (d L : Nat) (M M' : Mem) : Prop := M'.2 = M.2 ∧ (∀ a, a ≠ r → a ≠ o → M'.1 a = M.1 a) ∧ (∀ j, j ≠ 2 → M'.1 o j = M.1 o j) ∧ M'.1 o 2 = i32 ((L + d : Nat) : Int) ∧ M'.1 r = wr x d L (M.1 r)
theorem Ty.step {r o : Nat} (hro : r ≠ o) {x : Int64} {d L : Nat} {M M' : Mem} (h : Ty r o x d (L + 1) (sI (sI M r L (byt x d)) o 2 (i32 ((L + 1 : Nat) : Int))) M') : Ty r o x (d + 1) L M M' := by
  obtain ⟨h1, h2, h3, h4, h5⟩ := h
  refine ⟨h1, fun a q1 q2 => ?_, fun j hj => ?_, ?_, ?_⟩
  · rw [h2 a q1 q2, sI_ne q2, sI_ne q1]
  · rw [h3 j hj, sI_nj hj, sI_ne (Ne.symm hro)]
  · rw [h4, show L + 1 + d = L + (d + 1) by omega]
  · rw [h5, sI_ne hro, sI_k]; rfl
theorem app_L (x : Int64) : ∀ (d n L : Nat) (M : Mem), d < n → L + d ≤ 400 → M.1 1 2 = i32 L → ∃ M', fX3_append_5L n x (i32 ((d : Int) - 1)) M = some (i32 ((L + d : Nat) : Int), M') ∧ Ty 2 1 x d L M M' := by
  intro d
  induction d with
  | zero =>
    intro n L M h1 h2 h3
    obtain ⟨n, rfl⟩ : ∃ m, n = m + 1 := ⟨n - 1, by omega⟩
    refine ⟨M, ?_, rfl, fun _ _ _ => rfl, fun _ _ => rfl, h3, rfl⟩
    show fX3_append_5B (fX3_append_5L n) _ _ _ = _
    unfold fX3_append_5B
    rw [if_pos (by decide), h3]; rfl
  | succ d ih =>
    intro n L M h1 h2 h3
    obtain ⟨n, rfl⟩ : ∃ m, n = m + 1 := ⟨n - 1, by omega⟩
    obtain ⟨M', g1, g2⟩ := ih n (L + 1) (sI (sI M 2 L (byt x d)) 1 2 (i32 ((L + 1 : Nat) : Int))) (by omega) (by omega) (by rw [sI_at])
    refine ⟨M', ?_, g2.step (by decide)⟩
    show fX3_append_5B (fX3_append_5L n) _ _ _ = _
    unfold fX3_append_5B wF
    rw [h3, show ((d + 1 : Nat) : Int) - 1 = d by omega]
    simp only [L0, L1, L2, L3, L4, L5, L6, L7, L8, L9, L10, L11, L12, L13, L15, L16, L20, L24, L31, L32, L40, L41, L48, L50, L57, L59, L63, L80, L81, L96, L97, L99, L100, L122, L144, L199, L255, L400, L1681, L68921, L1000000]
    rw [if_neg (fun z => absurd ((i32_lt (by omega)).mp z) (by omega)), if_neg (fun z => absurd ((i32_le (by omega)).mp z) (by omega)), wB_ok (by omega), show ((L : Int)).toNat = L by omega]
    simp only [Option.bind_some, Option.bind_none, i32_neg]
    rw [sI_ne (show 1 ≠ 2 by decide), h3, i32_add, i32_add, show (d : Int) + -1 = (d : Int) - 1 by omega]
    rw [show L + (d + 1) = L + 1 + d by omega]
    exact g1
theorem typ_L (x : Int64) : ∀ (d n L : Nat) (M : Mem), d < n → L + d ≤ 400 → M.1 42 2 = i32 L → ∃ M', fX5_type_32L n x (i32 ((d : Int) - 1)) M = some (i32 ((L + d : Nat) : Int), M') ∧ Ty 43 42 x d L M M' := by
  intro d
  induction d with
  | zero =>
    intro n L M h1 h2 h3
    obtain ⟨n, rfl⟩ : ∃ m, n = m + 1 := ⟨n - 1, by omega⟩
    refine ⟨M, ?_, rfl, fun _ _ _ => rfl, fun _ _ => rfl, h3, rfl⟩
    show fX5_type_32B (fX5_type_32L n) _ _ _ = _
    unfold fX5_type_32B
    rw [if_pos (by decide), h3]; rfl
  | succ d ih =>
    intro n L M h1 h2 h3
    obtain ⟨n, rfl⟩ : ∃ m, n = m + 1 := ⟨n - 1, by omega⟩
    obtain ⟨M', g1, g2⟩ := ih n (L + 1) (sI (sI M 43 L (byt x d)) 42 2 (i32 ((L + 1 : Nat) : Int))) (by omega) (by omega) (by rw [sI_at])
    refine ⟨M', ?_, g2.step (by decide)⟩
    show fX5_type_32B (fX5_type_32L n) _ _ _ = _
    unfold fX5_type_32B wF
    rw [h3, show ((d + 1 : Nat) : Int) - 1 = d by omega, by_and]
    simp only [L0, L1, L2, L3, L4, L5, L6, L7, L8, L9, L10, L11, L12, L13, L15, L16, L20, L24, L31, L32, L40, L41, L48, L50, L57, L59, L63, L80, L81, L96, L97, L99, L100, L122, L144, L199, L255, L400, L1681, L68921, L1000000]
    rw [if_neg (fun z => absurd ((i32_lt (by omega)).mp z) (by omega)), wB_ok (by omega), show ((L : Int)).toNat = L by omega]
    simp only [Option.bind_some, Option.bind_none, i32_neg]
    rw [sI_ne (show 42 ≠ 43 by decide), h3, i32_add, i32_add, show (d : Int) + -1 = (d : Int) - 1 by omega]
    rw [show L + (d + 1) = L + 1 + d by omega]
    exact g1
theorem IV.mv4 {b sp : Nat} {S : Sc} {N : Nt} {K0 K1 : Bool} {N0 N1 : Nt} {L : Nat} {M M' : Mem} (h : IV b sp S N K0 K1 N0 N1 L M) {L' : Nat} (e2 : M'.2 = M.2) (r : ∀ a, a ≠ 1 → a ≠ 2 → a ≠ 42 → a ≠ 43 → M'.1 a = M.1 a) (ht : Tx L' M') : IV b sp S N K0 K1 N0 N1 L' M' := by
  obtain ⟨a1, i1, c1, d1, ⟨p1, p2, p3⟩, f1, g1, h1, j1, k1⟩ := h
  have hb := sc_b a1.1
  refine ⟨by rw [e2]; exact a1, i1.mv (fun a h1 h2 => r a (by omega) (by omega) (by omega) (by omega)), by rw [r b (by omega) (by omega) (by omega) (by omega)]; exact c1, d1.mv (fun a h1 h2 => r a (by omega) (by omega) (by omega) (by omega)), ⟨p1, p2.mv (by rw [r 4 (by decide) (by decide) (by decide) (by decide)]) (by rw [r 4 (by decide) (by decide) (by decide) (by decide)]) (r 5 (by decide) (by decide) (by decide) (by decide)) (r 6 (by decide) (by decide) (by decide) (by decide)) (r 7 (by decide) (by decide) (by decide) (by decide)), p3.mv (fun a h1 h2 => r a (by omega) (by omega) (by omega) (by omega))⟩, f1.mv (by decide) (fun a h1 => r a (by omega) (by omega) (by omega) (by omega)), g1.mv (by decide) (fun a h1 => r a (by omega) (by omega) (by omega) (by omega)), ht, by rw [e2]; exact j1, by rw [r 65 (by decide) (by decide) (by decide) (by decide), r 63 (by decide) (by decide) (by decide) (by decide)]; exact k1⟩
theorem o_type {M : Mem} (h : Inv M) (x : Int64) (y : Int32) : ∃ v M1 M2, fX4_type x y M = some (v, M1) ∧ fX5_type x y M1 = some (v, M2) ∧ Inv M2 := by
  obtain ⟨b, sp, S, N, K0, K1, N0, N1, L, h⟩ := h
  obtain ⟨a1, i1, c1, d1, ⟨p1, p2, p3⟩, f1, g1, h1, j1, k1⟩ := id h
  obtain ⟨y, hy, rfl⟩ := i32_ex y
  obtain ⟨t1, t2, t3, t4⟩ := id h1
  have hC0 : fX4_type x (i32 y) M = if btw y 1 8 = true then (if i32 L + i32 y ≤ i32 400 then (fX3_append x (i32 y) M).bind fun v2 => some (v2.1, v2.2) else some (i32 (-3), M)) else some (i32 (-1), M) := by
    unfold fX4_type
    simp only [L0, L1, L2, L3, L4, L5, L6, L7, L8, L9, L10, L11, L12, L13, L15, L16, L20, L24, L31, L32, L40, L41, L48, L50, L57, L59, L63, L80, L81, L96, L97, L99, L100, L122, L144, L199, L255, L400, L1681, L68921, L1000000]
    rw [isBetween_C (by omega), t2]
    simp only [Option.bind_some, Option.bind_none, ite_bI]
    rfl
  have hM0 : ∀ M2 : Mem, M2.1 42 2 = i32 L → fX5_type x (i32 y) M2 = if btw y 1 8 = true then (if i32 L + i32 y ≤ i32 400 then fX5_type_32L FU x (i32 (y - 1)) M2 else some (i32 (-3), M2)) else some (i32 (-1), M2) := by
    intro M2 hh
    unfold fX5_type
    simp only [L0, L1, L2, L3, L4, L5, L6, L7, L8, L9, L10, L11, L12, L13, L15, L16, L20, L24, L31, L32, L40, L41, L48, L50, L57, L59, L63, L80, L81, L96, L97, L99, L100, L122, L144, L199, L255, L400, L1681, L68921, L1000000]
    rw [in_M (by omega), hh]
    simp only [Option.bind_some, Option.bind_none, ite_bI, i32_sub]
    rfl
  cases q : btw y 1 8 with
  | false =>
    refine ⟨i32 (-1), M, M, ?_, ?_, _, _, _, _, _, _, _, _, _, h⟩
    · rw [hC0, q]; rfl
    · rw [hM0 M t3, q]; rfl
  | true =>
    obtain ⟨q1, q2⟩ := btw_t q
    obtain ⟨d, rfl⟩ : ∃ d : Nat, y = d := ⟨y.toNat, by omega⟩
    by_cases z : L + d ≤ 400
    · obtain ⟨Mc, u1, u2⟩ := app_L x d FU L M (by unfold FU; omega) z t2
      obtain ⟨v1, v2, v3, v4, v5⟩ := id u2
      have m42 : Mc.1 42 2 = i32 L := by rw [v2 42 (by decide) (by decide)]; exact t3
      obtain ⟨Mm, w1, w2⟩ := typ_L x d FU L Mc (by unfold FU; omega) z m42
      obtain ⟨s1, s2, s3, s4, s5⟩ := id w2
      have hz : i32 L + i32 d ≤ i32 400 := by rw [i32_add]; exact (i32_le (by omega)).mpr (by omega)
      refine ⟨i32 ((L + d : Nat) : Int), Mc, Mm, ?_, ?_, b, sp, S, N, K0, K1, N0, N1, L + d, h.mv4 ?_ ?_ ?_⟩
      · rw [hC0, q, if_pos rfl, if_pos hz]
        unfold fX3_append
        simp only [L0, L1, L2, L3, L4, L5, L6, L7, L8, L9, L10, L11, L12, L13, L15, L16, L20, L24, L31, L32, L40, L41, L48, L50, L57, L59, L63, L80, L81, L96, L97, L99, L100, L122, L144, L199, L255, L400, L1681, L68921, L1000000]
        rw [i32_sub, u1]
        rfl
      · rw [hM0 Mc m42, q, if_pos rfl, if_pos hz]
        exact w1
      · rw [s1]; exact v1
      · intro a z1 z2 z3 z4
        rw [s2 a z4 z3, v2 a z2 z1]
      · refine ⟨z, ?_, s4, ?_⟩
        · rw [s2 1 (by decide) (by decide)]; exact v4
        · intro j hj
          rw [s2 2 (by decide) (by decide), v5, s5, v2 43 (by decide) (by decide)]
          exact wr_eq x d L _ _ t4 j hj
    · have hz : ¬ i32 L + i32 d ≤ i32 400 := by rw [i32_add]; exact fun e => absurd ((i32_le (by omega)).mp e) (by omega)
      refine ⟨i32 (-3), M, M, ?_, ?_, _, _, _, _, _, _, _, _, _, h⟩
      · rw [hC0, q, if_pos rfl, if_neg hz]
      · rw [hM0 M t3, q, if_pos rfl, if_neg hz]

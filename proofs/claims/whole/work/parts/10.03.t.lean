set_option maxRecDepth 100000 in
theorem tX4_has_0 {l : Launch} {E : Env5}    (x1 : Int32) (x2 : Int32) (M : Mem) {v9 : Int32} {M9 : Mem}  (H : fX4_has  x1 x2 M = some (v9, M9)) : Z l E RX4 cX4_has 4 (some .int) 2 0 [(0, .ref (eA E (0))), (1, .int (x1)), (2, .int (x2))] [] M (PR (some (.int v9)) M9) := by
  unfold fX4_has at H
  refine Z.aload_n dX4_has_0 0 rfl ?_
  refine Z.get dX4_has_1 inX4 (hc := rfl) (by decide) c4 5 (by decide) kw172 rfl rfl ?_
  refine Z.wf (fun hs1 => ?_)
  refine Z.iload_n dX4_has_4 1 rfl ?_
  refine bindC H (fun v1 hv1 H => ?_)
  refine Z.callV (As := [.int (x1)]) (rest := []) (st' := [.int (v1)]) dX4_has_5 (kX2_isPicture hs1.1 (x1) M hv1) kw347 kw348 kw349 kw6 kw350 hdX2_isPicture (cS hs1.1) (c2 hs1.1) (hc := rfl) (by decide) (by decide) rfl rfl (Nat.le_of_ble_eq_true rfl) rfl ?_
  refine Z.if_eqH dX4_has_8 H (fun br8 H => ?_) (fun br8 H => ?_)
  · refine Z.iconst (v := (-1)) dX4_has_20 (by decide) ?_
    exact Z.iret rfl dX4_has_21 (retW H)
  · refine Z.iload_n dX4_has_11 2 rfl ?_
    refine Z.iconst (v := 0) dX4_has_12 (by decide) ?_
    refine Z.iconst (v := 2) dX4_has_13 (by decide) ?_
    refine bindC H (fun v2 hv2 H => ?_)
    refine Z.callS (As := [.int (x2), .int (0), .int (2)]) (rest := []) (st' := [.int (v2)]) dX4_has_14 (kX4_isBetween  (x2) (0) (2) M hv2) kw196 kw197 kw1 kw198 hdX4_isBetween (by decide) (by decide) rfl rfl (Nat.le_of_ble_eq_true rfl) rfl ?_
    refine Z.if_neH dX4_has_17 H (fun br17 H => ?_) (fun br17 H => ?_)
    · refine Z.aload_n dX4_has_22 0 rfl ?_
      refine Z.get dX4_has_23 inX4 (hc := rfl) (by decide) c4 1 (by decide) kw168 rfl rfl ?_
      refine Z.getN dX4_has_26 inX1 (hc := rfl) (cN (Or.inl rfl)) (c1 (Or.inl rfl)) 2 (by decide) kn63 rfl rfl ?_
      refine Z.iload_n dX4_has_29 1 rfl ?_
      refine Z.ialdH dX4_has_30 (a1_hat (Or.inl rfl)) H (fun v3 H => ?_)
      refine Z.istore_n (lv' := [(3, .int (v3)), (0, .ref (eA E (0))), (1, .int (x1)), (2, .int (x2))]) dX4_has_31 (by decide) rfl ?_
      refine Z.aload_n dX4_has_32 1 rfl ?_
      refine Z.get dX4_has_33 inX4 (hc := rfl) (by decide) c4 1 (by decide) kw168 rfl rfl ?_
      refine Z.getN dX4_has_36 inX1 (hc := rfl) (cN (Or.inl rfl)) (c1 (Or.inl rfl)) 2 (by decide) kn63 rfl rfl ?_
      refine Z.iload_n dX4_has_39 2 rfl ?_
      refine Z.iload_n dX4_has_40 3 rfl ?_
      refine Z.iastH dX4_has_41 (a1_hat (Or.inl rfl)) H (fun M4 H => ?_)
      refine Z.iload_n dX4_has_42 0 rfl ?_
      exact Z.iret rfl dX4_has_43 (retW H)
    · refine Z.iconst (v := (-1)) dX4_has_20 (by decide) ?_
      exact Z.iret rfl dX4_has_21 (retW H)
theorem kX4_has {l : Launch} {E : Env5}   (x1 : Int32) (x2 : Int32) (M : Mem) {v9 : Int32} {M9 : Mem} (H : fX4_has x1 x2 M = some (v9, M9)) : Cn l E yX4_has cX4_has 4 (some .int) 2 [.ref (eA E (0)), .int (x1), .int (x2)] M (PR (some (.int v9)) M9) := Cn.ofZ rfl (Nat.le_of_ble_eq_true rfl) rfl (tX4_has_0  x1 x2 M H)
theorem hdX4_has : yX4_has.cls ≠ "java/lang/invoke/MethodHandle" ∧ yX4_has.cls ≠ "java/lang/invoke/VarHandle" ∧ (parseMethodDescriptor yX4_has.desc).map (fun d => d.parameters.length) = some 2 := by decide +kernel

set_option maxRecDepth 100000 in
theorem tX4_lastWithHat_43 {l : Launch} {E : Env5}   {k5 : Int32 → Int32 → Option Int32} (x1 : Int32) (x2 : Int32) (M : Mem) {v9 : Int32} (hk5 : ∀ (x1 : Int32) (x2 : Int32), k5 x1 x2 = some v9 → Z l E RX4 cX4_lastWithHat 3 (some .int) 1 5 [(0, .ref (eA E (0))), (1, .int (x1)), (2, .int (x2))] [] M (PR (some (.int v9)) M)) (H : fX4_lastWithHat_43 k5 x1 x2 M = some v9) : Z l E RX4 cX4_lastWithHat 3 (some .int) 1 43 [(0, .ref (eA E (0))), (1, .int (x1)), (2, .int (x2))] [] M (PR (some (.int v9)) M) := by
  unfold fX4_lastWithHat_43 at H
  refine Z.iinc (v := x2 + 1) (lv' := [(2, .int (x2 + 1)), (0, .ref (eA E (0))), (1, .int (x1))]) dX4_lastWithHat_43 2 rfl rfl (by decide) rfl ?_
  refine Z.goto dX4_lastWithHat_46 ?_
  refine Z.sub [1, 2, 0] rfl ?_
  exact hk5 (x1) (x2 + 1) H
set_option maxRecDepth 100000 in
theorem tX4_lastWithHat_5 {l : Launch} {E : Env5}   {k5 : Int32 → Int32 → Option Int32} (x1 : Int32) (x2 : Int32) (M : Mem) {v9 : Int32} (hk5 : ∀ (x1 : Int32) (x2 : Int32), k5 x1 x2 = some v9 → Z l E RX4 cX4_lastWithHat 3 (some .int) 1 5 [(0, .ref (eA E (0))), (1, .int (x1)), (2, .int (x2))] [] M (PR (some (.int v9)) M)) (H : fX4_lastWithHat_5B k5 x1 x2 M = some v9) : Z l E RX4 cX4_lastWithHat 3 (some .int) 1 5 [(0, .ref (eA E (0))), (1, .int (x1)), (2, .int (x2))] [] M (PR (some (.int v9)) M) := by
  unfold fX4_lastWithHat_5B at H
  refine Z.iload_n dX4_lastWithHat_5 2 rfl ?_
  refine Z.aload_n dX4_lastWithHat_6 0 rfl ?_
  refine Z.get dX4_lastWithHat_7 inX4 (hc := rfl) (by decide) c4 5 (by decide) kw172 rfl rfl ?_
  refine Z.wf (fun hs7 => ?_)
  refine Z.getN dX4_lastWithHat_10 inX2 (hc := rfl) (cS hs7.1) (c2 hs7.1) 7 (by decide) kn129 rfl rfl ?_
  refine Z.icmp_geH dX4_lastWithHat_13 H (fun br13 H => ?_) (fun br13 H => ?_)
  · refine Z.iload_n dX4_lastWithHat_49 1 rfl ?_
    exact Z.iret rfl dX4_lastWithHat_50 (retR H)
  · refine Z.aload_n dX4_lastWithHat_16 0 rfl ?_
    refine Z.get dX4_lastWithHat_17 inX4 (hc := rfl) (by decide) c4 1 (by decide) kw168 rfl rfl ?_
    refine Z.getN dX4_lastWithHat_20 inX1 (hc := rfl) (cN (Or.inl rfl)) (c1 (Or.inl rfl)) 2 (by decide) kn63 rfl rfl ?_
    refine Z.iload_n dX4_lastWithHat_23 2 rfl ?_
    refine Z.ialdH dX4_lastWithHat_24 (a1_hat (Or.inl rfl)) H (fun v1 H => ?_)
    refine Z.iconst (v := 1) dX4_lastWithHat_25 (by decide) ?_
    refine Z.icmp_neH dX4_lastWithHat_26 H (fun br26 H => ?_) (fun br26 H => ?_)
    · refine Z.sub [0, 1, 2] rfl ?_
      exact tX4_lastWithHat_43  (x1) (x2) M hk5 H
    · refine Z.iload_n dX4_lastWithHat_29 1 rfl ?_
      refine Z.aload_n dX4_lastWithHat_30 0 rfl ?_
      refine Z.get dX4_lastWithHat_31 inX4 (hc := rfl) (by decide) c4 5 (by decide) kw172 rfl rfl ?_
      refine Z.wf (fun hs31 => ?_)
      refine Z.iload_n dX4_lastWithHat_34 2 rfl ?_
      refine Z.iconst (v := 4) dX4_lastWithHat_35 (by decide) ?_
      refine bindC H (fun v2 hv2 H => ?_)
      refine Z.callV (As := [.int (x2), .int (4)]) (rest := [.int (x1)]) (st' := [.int (v2), .int (x1)]) dX4_lastWithHat_36 (kX2_ofPicture hs31.1 (x2) (4) M hv2) kw351 kw278 kw279 kw6 kw280 hdX2_ofPicture (cS hs31.1) (c2 hs31.1) (hc := rfl) (by decide) (by decide) rfl rfl (Nat.le_of_ble_eq_true rfl) rfl ?_
      refine Z.mmax dX4_lastWithHat_39 kw503 kw433 kw8 km_max (by decide) (Nat.le_of_ble_eq_true rfl) ?_
      refine Z.istore_n (lv' := [(1, .int (imax x1 v2)), (0, .ref (eA E (0))), (2, .int (x2))]) dX4_lastWithHat_42 (by decide) rfl ?_
      refine Z.sub [1, 0, 2] rfl ?_
      exact tX4_lastWithHat_43  (imax x1 v2) (x2) M hk5 H
theorem tX4_lastWithHat_5L {l : Launch} {E : Env5}    (M : Mem) {v9 : Int32}  : ∀ (n : Nat) (x1 : Int32) (x2 : Int32), fX4_lastWithHat_5L   M n x1 x2 = some v9 → Z l E RX4 cX4_lastWithHat 3 (some .int) 1 5 [(0, .ref (eA E (0))), (1, .int (x1)), (2, .int (x2))] [] M (PR (some (.int v9)) M) := by
  intro n
  induction n with
  | zero => intro x1 x2 H; exact absurd H (by simp [fX4_lastWithHat_5L])
  | succ n ih => intro x1 x2 H; exact tX4_lastWithHat_5  x1 x2 M  (fun x1 x2 H => ih x1 x2 H) H
set_option maxRecDepth 100000 in
theorem tX4_lastWithHat_0 {l : Launch} {E : Env5}     (M : Mem) {v9 : Int32}  (H : fX4_lastWithHat   M = some v9) : Z l E RX4 cX4_lastWithHat 3 (some .int) 1 0 [(0, .ref (eA E (0)))] [] M (PR (some (.int v9)) M) := by
  unfold fX4_lastWithHat at H
  refine Z.bipush (v := (-9)) dX4_lastWithHat_0 (by decide) ?_
  refine Z.istore_n (lv' := [(1, .int ((-9))), (0, .ref (eA E (0)))]) dX4_lastWithHat_2 (by decide) rfl ?_
  refine Z.iconst (v := 0) dX4_lastWithHat_3 (by decide) ?_
  refine Z.istore_n (lv' := [(2, .int (0)), (1, .int ((-9))), (0, .ref (eA E (0)))]) dX4_lastWithHat_4 (by decide) rfl ?_
  refine Z.sub [2, 1, 0] rfl ?_
  exact tX4_lastWithHat_5L  M  FU ((-9)) (0) H
theorem kX4_lastWithHat {l : Launch} {E : Env5}    (M : Mem) {v9 : Int32} (H : fX4_lastWithHat  M = some v9) : Cn l E yX4_lastWithHat cX4_lastWithHat 3 (some .int) 1 [.ref (eA E (0))] M (PR (some (.int v9)) M) := Cn.ofZ rfl (Nat.le_of_ble_eq_true rfl) rfl (tX4_lastWithHat_0   M H)
theorem hdX4_lastWithHat : yX4_lastWithHat.cls ≠ "java/lang/invoke/MethodHandle" ∧ yX4_lastWithHat.cls ≠ "java/lang/invoke/VarHandle" ∧ (parseMethodDescriptor yX4_lastWithHat.desc).map (fun d => d.parameters.length) = some 0 := by decide +kernel

set_option maxRecDepth 100000 in
theorem tX4_firstWithoutHat_65 {l : Launch} {E : Env5}   {k10 : Int32 → Int32 → Int32 → Option Int32} (x1 : Int32) (x2 : Int32) (x3 : Int32) (M : Mem) {v9 : Int32} (hk10 : ∀ (x1 : Int32) (x2 : Int32) (x3 : Int32), k10 x1 x2 x3 = some v9 → Z l E RX4 cX4_firstWithoutHat 5 (some .int) 2 10 [(0, .ref (eA E (0))), (1, .int (x1)), (2, .int (x2)), (3, .int (x3))] [] M (PR (some (.int v9)) M)) (H : fX4_firstWithoutHat_65 k10 x1 x2 x3 M = some v9) : Z l E RX4 cX4_firstWithoutHat 5 (some .int) 2 65 [(0, .ref (eA E (0))), (1, .int (x1)), (2, .int (x2)), (3, .int (x3))] [] M (PR (some (.int v9)) M) := by
  unfold fX4_firstWithoutHat_65 at H
  refine Z.iinc (v := x3 + 1) (lv' := [(3, .int (x3 + 1)), (0, .ref (eA E (0))), (1, .int (x1)), (2, .int (x2))]) dX4_firstWithoutHat_65 3 rfl rfl (by decide) rfl ?_
  refine Z.goto dX4_firstWithoutHat_68 ?_
  refine Z.sub [1, 2, 3, 0] rfl ?_
  exact hk10 (x1) (x2) (x3 + 1) H
set_option maxRecDepth 100000 in
theorem tX4_firstWithoutHat_62 {l : Launch} {E : Env5}   {k10 : Int32 → Int32 → Int32 → Option Int32} (x1 : Int32) (x3 : Int32) (x4 : Int32) (M : Mem) {v9 : Int32} (hk10 : ∀ (x1 : Int32) (x2 : Int32) (x3 : Int32), k10 x1 x2 x3 = some v9 → Z l E RX4 cX4_firstWithoutHat 5 (some .int) 2 10 [(0, .ref (eA E (0))), (1, .int (x1)), (2, .int (x2)), (3, .int (x3))] [] M (PR (some (.int v9)) M)) (H : fX4_firstWithoutHat_62 k10 x1 x3 x4 M = some v9) : Z l E RX4 cX4_firstWithoutHat 5 (some .int) 2 62 [(0, .ref (eA E (0))), (1, .int (x1)), (3, .int (x3)), (4, .int (x4))] [] M (PR (some (.int v9)) M) := by
  unfold fX4_firstWithoutHat_62 at H
  refine Z.iload dX4_firstWithoutHat_62 3 rfl ?_
  refine Z.istore_n (lv' := [(2, .int (x4)), (0, .ref (eA E (0))), (1, .int (x1)), (3, .int (x3)), (4, .int (x4))]) dX4_firstWithoutHat_64 (by decide) rfl ?_
  refine Z.sub [1, 2, 0, 3] rfl ?_
  exact tX4_firstWithoutHat_65  (x1) (x4) (x3) M hk10 H
set_option maxRecDepth 100000 in
theorem tX4_firstWithoutHat_10 {l : Launch} {E : Env5}   {k10 : Int32 → Int32 → Int32 → Option Int32} (x1 : Int32) (x2 : Int32) (x3 : Int32) (M : Mem) {v9 : Int32} (hk10 : ∀ (x1 : Int32) (x2 : Int32) (x3 : Int32), k10 x1 x2 x3 = some v9 → Z l E RX4 cX4_firstWithoutHat 5 (some .int) 2 10 [(0, .ref (eA E (0))), (1, .int (x1)), (2, .int (x2)), (3, .int (x3))] [] M (PR (some (.int v9)) M)) (H : fX4_firstWithoutHat_10B k10 x1 x2 x3 M = some v9) : Z l E RX4 cX4_firstWithoutHat 5 (some .int) 2 10 [(0, .ref (eA E (0))), (1, .int (x1)), (2, .int (x2)), (3, .int (x3))] [] M (PR (some (.int v9)) M) := by
  unfold fX4_firstWithoutHat_10B at H
  refine Z.iload_n dX4_firstWithoutHat_10 3 rfl ?_
  refine Z.aload_n dX4_firstWithoutHat_11 0 rfl ?_
  refine Z.get dX4_firstWithoutHat_12 inX4 (hc := rfl) (by decide) c4 5 (by decide) kw172 rfl rfl ?_
  refine Z.wf (fun hs12 => ?_)
  refine Z.getN dX4_firstWithoutHat_15 inX2 (hc := rfl) (cS hs12.1) (c2 hs12.1) 7 (by decide) kn129 rfl rfl ?_
  refine Z.icmp_geH dX4_firstWithoutHat_18 H (fun br18 H => ?_) (fun br18 H => ?_)
  · refine Z.iload_n dX4_firstWithoutHat_71 2 rfl ?_
    exact Z.iret rfl dX4_firstWithoutHat_72 (retR H)
  · refine Z.aload_n dX4_firstWithoutHat_21 0 rfl ?_
    refine Z.get dX4_firstWithoutHat_22 inX4 (hc := rfl) (by decide) c4 5 (by decide) kw172 rfl rfl ?_
    refine Z.wf (fun hs22 => ?_)
    refine Z.iload_n dX4_firstWithoutHat_25 3 rfl ?_
    refine Z.iconst (v := 4) dX4_firstWithoutHat_26 (by decide) ?_
    refine bindC H (fun v1 hv1 H => ?_)
    refine Z.callV (As := [.int (x3), .int (4)]) (rest := []) (st' := [.int (v1)]) dX4_firstWithoutHat_27 (kX2_ofPicture hs22.1 (x3) (4) M hv1) kw351 kw278 kw279 kw6 kw280 hdX2_ofPicture (cS hs22.1) (c2 hs22.1) (hc := rfl) (by decide) (by decide) rfl rfl (Nat.le_of_ble_eq_true rfl) rfl ?_
    refine Z.istore (lv' := [(4, .int (v1)), (0, .ref (eA E (0))), (1, .int (x1)), (2, .int (x2)), (3, .int (x3))]) dX4_firstWithoutHat_30 (by decide) rfl ?_
    refine Z.aload_n dX4_firstWithoutHat_32 1 rfl ?_
    refine Z.get dX4_firstWithoutHat_33 inX4 (hc := rfl) (by decide) c4 1 (by decide) kw168 rfl rfl ?_
    refine Z.getN dX4_firstWithoutHat_36 inX1 (hc := rfl) (cN (Or.inl rfl)) (c1 (Or.inl rfl)) 2 (by decide) kn63 rfl rfl ?_
    refine Z.iload_n dX4_firstWithoutHat_39 4 rfl ?_
    refine Z.ialdH dX4_firstWithoutHat_40 (a1_hat (Or.inl rfl)) H (fun v2 H => ?_)
    refine Z.if_neH dX4_firstWithoutHat_41 H (fun br41 H => ?_) (fun br41 H => ?_)
    · refine Z.sub [1, 2, 3, 4] rfl ?_
      exact tX4_firstWithoutHat_65  (x1) (x2) (x3) M hk10 H
    · refine Z.iload dX4_firstWithoutHat_44 0 rfl ?_
      refine Z.iload_n dX4_firstWithoutHat_46 2 rfl ?_
      refine Z.icmp_leH dX4_firstWithoutHat_47 H (fun br47 H => ?_) (fun br47 H => ?_)
      · refine Z.sub [1, 2, 3, 4] rfl ?_
        exact tX4_firstWithoutHat_65  (x1) (x2) (x3) M hk10 H
      · refine Z.iload_n dX4_firstWithoutHat_50 3 rfl ?_
        refine Z.bipush (v := (-9)) dX4_firstWithoutHat_51 (by decide) ?_
        refine Z.icmp_eqH dX4_firstWithoutHat_53 H (fun br53 H => ?_) (fun br53 H => ?_)
        · refine Z.sub [1, 2, 4, 0] rfl ?_
          exact tX4_firstWithoutHat_62  (x1) (x3) (v1) M hk10 H
        · refine Z.iload dX4_firstWithoutHat_56 0 rfl ?_
          refine Z.iload_n dX4_firstWithoutHat_58 3 rfl ?_
          refine Z.icmp_geH dX4_firstWithoutHat_59 H (fun br59 H => ?_) (fun br59 H => ?_)
          · refine Z.sub [1, 2, 3, 4] rfl ?_
            exact tX4_firstWithoutHat_65  (x1) (x2) (x3) M hk10 H
          · refine Z.sub [1, 2, 4, 0] rfl ?_
            exact tX4_firstWithoutHat_62  (x1) (x3) (v1) M hk10 H
theorem tX4_firstWithoutHat_10L {l : Launch} {E : Env5}    (M : Mem) {v9 : Int32}  : ∀ (n : Nat) (x1 : Int32) (x2 : Int32) (x3 : Int32), fX4_firstWithoutHat_10L   M n x1 x2 x3 = some v9 → Z l E RX4 cX4_firstWithoutHat 5 (some .int) 2 10 [(0, .ref (eA E (0))), (1, .int (x1)), (2, .int (x2)), (3, .int (x3))] [] M (PR (some (.int v9)) M) := by
  intro n
  induction n with
  | zero => intro x1 x2 x3 H; exact absurd H (by simp [fX4_firstWithoutHat_10L])
  | succ n ih => intro x1 x2 x3 H; exact tX4_firstWithoutHat_10  x1 x2 x3 M  (fun x1 x2 x3 H => ih x1 x2 x3 H) H
set_option maxRecDepth 100000 in
theorem tX4_firstWithoutHat_0 {l : Launch} {E : Env5}     (M : Mem) {v9 : Int32}  (H : fX4_firstWithoutHat   M = some v9) : Z l E RX4 cX4_firstWithoutHat 5 (some .int) 2 0 [(0, .ref (eA E (0)))] [] M (PR (some (.int v9)) M) := by
  unfold fX4_firstWithoutHat at H
  refine Z.aload_n dX4_firstWithoutHat_0 0 rfl ?_
  refine bindC H (fun v1 hv1 H => ?_)
  refine Z.callV (As := []) (rest := []) (st' := [.int (v1)]) dX4_firstWithoutHat_1 (kX4_lastWithHat   M hv1) kw512 kw514 ks18 kw1 kw515 hdX4_lastWithHat (by decide) c4 (hc := rfl) (by decide) (by decide) rfl rfl (Nat.le_of_ble_eq_true rfl) rfl ?_
  refine Z.istore_n (lv' := [(1, .int (v1)), (0, .ref (eA E (0)))]) dX4_firstWithoutHat_4 (by decide) rfl ?_
  refine Z.bipush (v := (-9)) dX4_firstWithoutHat_5 (by decide) ?_
  refine Z.istore_n (lv' := [(2, .int ((-9))), (1, .int (v1)), (0, .ref (eA E (0)))]) dX4_firstWithoutHat_7 (by decide) rfl ?_
  refine Z.iconst (v := 0) dX4_firstWithoutHat_8 (by decide) ?_
  refine Z.istore_n (lv' := [(3, .int (0)), (2, .int ((-9))), (1, .int (v1)), (0, .ref (eA E (0)))]) dX4_firstWithoutHat_9 (by decide) rfl ?_
  refine Z.sub [3, 2, 1, 0] rfl ?_
  exact tX4_firstWithoutHat_10L  M  FU (v1) ((-9)) (0) H
theorem kX4_firstWithoutHat {l : Launch} {E : Env5}    (M : Mem) {v9 : Int32} (H : fX4_firstWithoutHat  M = some v9) : Cn l E yX4_firstWithoutHat cX4_firstWithoutHat 5 (some .int) 2 [.ref (eA E (0))] M (PR (some (.int v9)) M) := Cn.ofZ rfl (Nat.le_of_ble_eq_true rfl) rfl (tX4_firstWithoutHat_0   M H)
theorem hdX4_firstWithoutHat : yX4_firstWithoutHat.cls ≠ "java/lang/invoke/MethodHandle" ∧ yX4_firstWithoutHat.cls ≠ "java/lang/invoke/VarHandle" ∧ (parseMethodDescriptor yX4_firstWithoutHat.desc).map (fun d => d.parameters.length) = some 0 := by decide +kernel

set_option maxRecDepth 100000 in
theorem tX4_hat_0 {l : Launch} {E : Env5}    (x1 : Int32) (M : Mem) {v9 : Int32}  (H : fX4_hat  x1 M = some v9) : Z l E RX4 cX4_hat 2 (some .int) 3 0 [(0, .ref (eA E (0))), (1, .int (x1))] [] M (PR (some (.int v9)) M) := by
  unfold fX4_hat at H
  refine Z.iload_n dX4_hat_0 1 rfl ?_
  refine Z.iconst (v := 0) dX4_hat_1 (by decide) ?_
  refine Z.iconst (v := 1) dX4_hat_2 (by decide) ?_
  refine bindC H (fun v1 hv1 H => ?_)
  refine Z.callS (As := [.int (x1), .int (0), .int (1)]) (rest := []) (st' := [.int (v1)]) dX4_hat_3 (kX4_isBetween  (x1) (0) (1) M hv1) kw196 kw197 kw1 kw198 hdX4_isBetween (by decide) (by decide) rfl rfl (Nat.le_of_ble_eq_true rfl) rfl ?_
  refine Z.if_neH dX4_hat_6 H (fun br6 H => ?_) (fun br6 H => ?_)
  · refine Z.iload_n dX4_hat_11 1 rfl ?_
    refine Z.if_neH dX4_hat_12 H (fun br12 H => ?_) (fun br12 H => ?_)
    · refine Z.aload_n dX4_hat_22 0 rfl ?_
      refine bindC H (fun v2 hv2 H => ?_)
      refine Z.callV (As := []) (rest := []) (st' := [.int (v2)]) dX4_hat_23 (kX4_firstWithoutHat   M hv2) kw516 kw518 ks19 kw1 kw519 hdX4_firstWithoutHat (by decide) c4 (hc := rfl) (by decide) (by decide) rfl rfl (Nat.le_of_ble_eq_true rfl) rfl ?_
      exact Z.iret rfl dX4_hat_26 (retR H)
    · refine Z.aload_n dX4_hat_15 0 rfl ?_
      refine bindC H (fun v3 hv3 H => ?_)
      refine Z.callV (As := []) (rest := []) (st' := [.int (v3)]) dX4_hat_16 (kX4_lastWithHat   M hv3) kw512 kw514 ks18 kw1 kw515 hdX4_lastWithHat (by decide) c4 (hc := rfl) (by decide) (by decide) rfl rfl (Nat.le_of_ble_eq_true rfl) rfl ?_
      refine Z.goto dX4_hat_19 ?_
      exact Z.iret rfl dX4_hat_26 (retR H)
  · refine Z.iconst (v := (-1)) dX4_hat_9 (by decide) ?_
    exact Z.iret rfl dX4_hat_10 (retR H)
theorem kX4_hat {l : Launch} {E : Env5}   (x1 : Int32) (M : Mem) {v9 : Int32} (H : fX4_hat x1 M = some v9) : Cn l E yX4_hat cX4_hat 2 (some .int) 3 [.ref (eA E (0)), .int (x1)] M (PR (some (.int v9)) M) := Cn.ofZ rfl (Nat.le_of_ble_eq_true rfl) rfl (tX4_hat_0  x1 M H)
theorem hdX4_hat : yX4_hat.cls ≠ "java/lang/invoke/MethodHandle" ∧ yX4_hat.cls ≠ "java/lang/invoke/VarHandle" ∧ (parseMethodDescriptor yX4_hat.desc).map (fun d => d.parameters.length) = some 1 := by decide +kernel

set_option maxRecDepth 100000 in
theorem tX4_near_60 {l : Launch} {E : Env5}   {k60 : Int32 → Int32 → Int32 → Int32 → Int32 → Int32 → Mem → Option (Int32 × Mem)} (x1 : Int32) (x2 : Int32) (x3 : Int32) (x5 : Int32) (x6 : Int32) (x7 : Int32) (M : Mem) {v9 : Int32} {M9 : Mem} (hk60 : ∀ (x1 : Int32) (x2 : Int32) (x3 : Int32) (x5 : Int32) (x6 : Int32) (x7 : Int32) (M : Mem), k60 x1 x2 x3 x5 x6 x7 M = some (v9, M9) → Z l E RX4 cX4_near 8 (some .int) 5 60 [(0, .ref (eA E (0))), (1, .int (x1)), (2, .int (x2)), (3, .int (x3)), (5, .int (x5)), (6, .int (x6)), (7, .int (x7))] [] M (PR (some (.int v9)) M9)) (H : fX4_near_60B k60 x1 x2 x3 x5 x6 x7 M = some (v9, M9)) : Z l E RX4 cX4_near 8 (some .int) 5 60 [(0, .ref (eA E (0))), (1, .int (x1)), (2, .int (x2)), (3, .int (x3)), (5, .int (x5)), (6, .int (x6)), (7, .int (x7))] [] M (PR (some (.int v9)) M9) := by
  unfold fX4_near_60B at H
  refine Z.iload dX4_near_60 6 rfl ?_
  refine Z.iload dX4_near_62 4 rfl ?_
  refine Z.icmp_gtH dX4_near_64 H (fun br64 H => ?_) (fun br64 H => ?_)
  · refine Z.iload dX4_near_90 5 rfl ?_
    exact Z.iret rfl dX4_near_92 (retW H)
  · refine Z.iload dX4_near_67 5 rfl ?_
    refine Z.aload_n dX4_near_69 0 rfl ?_
    refine Z.get dX4_near_70 inX4 (hc := rfl) (by decide) c4 5 (by decide) kw172 rfl rfl ?_
    refine Z.wf (fun hs70 => ?_)
    refine Z.iload_n dX4_near_73 1 rfl ?_
    refine Z.iload_n dX4_near_74 2 rfl ?_
    refine Z.iload_n dX4_near_75 3 rfl ?_
    refine Z.iload dX4_near_76 6 rfl ?_
    refine bindC H (fun v1 hv1 H => ?_)
    refine Z.callV (As := [.int (x1), .int (x2), .int (x3), .int (x7)]) (rest := [.int (x6)]) (st' := [.int (v1.1), .int (x6)]) dX4_near_78 (kX2_peopleNear hs70.1 (x1) (x2) (x3) (x7) M hv1) kw524 kw525 kw526 kw6 kw527 hdX2_peopleNear (cS hs70.1) (c2 hs70.1) (hc := rfl) (by decide) (by decide) rfl rfl (Nat.le_of_ble_eq_true rfl) rfl ?_
    refine Z.ior dX4_near_81 ?_
    refine Z.istore (lv' := [(6, .int (x6 ||| v1.1)), (0, .ref (eA E (0))), (1, .int (x1)), (2, .int (x2)), (3, .int (x3)), (5, .int (x5)), (7, .int (x7))]) dX4_near_82 (by decide) rfl ?_
    refine Z.iinc (v := x7 + 1) (lv' := [(7, .int (x7 + 1)), (6, .int (x6 ||| v1.1)), (0, .ref (eA E (0))), (1, .int (x1)), (2, .int (x2)), (3, .int (x3)), (5, .int (x5))]) dX4_near_84 6 rfl rfl (by decide) rfl ?_
    refine Z.goto dX4_near_87 ?_
    refine Z.sub [2, 3, 4, 5, 6, 1, 0] rfl ?_
    exact hk60 (x1) (x2) (x3) (x5) (x6 ||| v1.1) (x7 + 1) v1.2  H
theorem tX4_near_60L {l : Launch} {E : Env5}     {v9 : Int32} {M9 : Mem}  : ∀ (n : Nat) (x1 : Int32) (x2 : Int32) (x3 : Int32) (x5 : Int32) (x6 : Int32) (x7 : Int32) (M : Mem), fX4_near_60L   n x1 x2 x3 x5 x6 x7 M = some (v9, M9) → Z l E RX4 cX4_near 8 (some .int) 5 60 [(0, .ref (eA E (0))), (1, .int (x1)), (2, .int (x2)), (3, .int (x3)), (5, .int (x5)), (6, .int (x6)), (7, .int (x7))] [] M (PR (some (.int v9)) M9) := by
  intro n
  induction n with
  | zero => intro x1 x2 x3 x5 x6 x7 M H; exact absurd H (by simp [fX4_near_60L])
  | succ n ih => intro x1 x2 x3 x5 x6 x7 M H; exact tX4_near_60  x1 x2 x3 x5 x6 x7 M  (fun x1 x2 x3 x5 x6 x7 M H => ih x1 x2 x3 x5 x6 x7 M H) H
set_option maxRecDepth 100000 in
theorem tX4_near_0 {l : Launch} {E : Env5}    (x1 : Int32) (x2 : Int32) (x3 : Int32) (M : Mem) {v9 : Int32} {M9 : Mem}  (H : fX4_near  x1 x2 x3 M = some (v9, M9)) : Z l E RX4 cX4_near 8 (some .int) 5 0 [(0, .ref (eA E (0))), (1, .int (x1)), (2, .int (x2)), (3, .int (x3))] [] M (PR (some (.int v9)) M9) := by
  unfold fX4_near at H
  refine Z.aload_n dX4_near_0 0 rfl ?_
  refine Z.get dX4_near_1 inX4 (hc := rfl) (by decide) c4 5 (by decide) kw172 rfl rfl ?_
  refine Z.wf (fun hs1 => ?_)
  refine Z.iload_n dX4_near_4 1 rfl ?_
  refine Z.iload_n dX4_near_5 2 rfl ?_
  refine bindC H (fun v1 hv1 H => ?_)
  refine Z.callV (As := [.int (x1), .int (x2)]) (rest := []) (st' := [.int (v1)]) dX4_near_6 (kX2_isCell hs1.1 (x1) (x2) M hv1) kw329 kw267 kw268 kw6 kw269 hdX2_isCell (cS hs1.1) (c2 hs1.1) (hc := rfl) (by decide) (by decide) rfl rfl (Nat.le_of_ble_eq_true rfl) rfl ?_
  refine Z.if_eqH dX4_near_9 H (fun br9 H => ?_) (fun br9 H => ?_)
  · refine Z.iconst (v := (-1)) dX4_near_22 (by decide) ?_
    exact Z.iret rfl dX4_near_23 (retW H)
  · refine Z.iload_n dX4_near_12 3 rfl ?_
    refine Z.iconst (v := 0) dX4_near_13 (by decide) ?_
    refine Z.bipush (v := 11) dX4_near_14 (by decide) ?_
    refine bindC H (fun v2 hv2 H => ?_)
    refine Z.callS (As := [.int (x3), .int (0), .int (11)]) (rest := []) (st' := [.int (v2)]) dX4_near_16 (kX4_isBetween  (x3) (0) (11) M hv2) kw196 kw197 kw1 kw198 hdX4_isBetween (by decide) (by decide) rfl rfl (Nat.le_of_ble_eq_true rfl) rfl ?_
    refine Z.if_neH dX4_near_19 H (fun br19 H => ?_) (fun br19 H => ?_)
    · refine Z.aload_n dX4_near_24 0 rfl ?_
      refine bindC H (fun v3 hv3 H => ?_)
      refine Z.callV (As := []) (rest := []) (st' := [.int (v3)]) dX4_near_25 (kX4_lastWithHat   M hv3) kw512 kw514 ks18 kw1 kw515 hdX4_lastWithHat (by decide) c4 (hc := rfl) (by decide) (by decide) rfl rfl (Nat.le_of_ble_eq_true rfl) rfl ?_
      refine Z.istore (lv' := [(4, .int (v3)), (0, .ref (eA E (0))), (1, .int (x1)), (2, .int (x2)), (3, .int (x3))]) dX4_near_28 (by decide) rfl ?_
      refine Z.aload_n dX4_near_30 1 rfl ?_
      refine bindC H (fun v4 hv4 H => ?_)
      refine Z.callV (As := []) (rest := []) (st' := [.int (v4)]) dX4_near_31 (kX4_firstWithoutHat   M hv4) kw516 kw518 ks19 kw1 kw519 hdX4_firstWithoutHat (by decide) c4 (hc := rfl) (by decide) (by decide) rfl rfl (Nat.le_of_ble_eq_true rfl) rfl ?_
      refine Z.istore (lv' := [(5, .int (v4)), (4, .int (v3)), (0, .ref (eA E (0))), (1, .int (x1)), (2, .int (x2)), (3, .int (x3))]) dX4_near_34 (by decide) rfl ?_
      refine Z.iload dX4_near_36 1 rfl ?_
      refine Z.bipush (v := (-9)) dX4_near_38 (by decide) ?_
      refine Z.icmp_eqH dX4_near_40 H (fun br40 H => ?_) (fun br40 H => ?_)
      · refine Z.bipush (v := (-2)) dX4_near_50 (by decide) ?_
        exact Z.iret rfl dX4_near_52 (retW H)
      · refine Z.iload dX4_near_43 0 rfl ?_
        refine Z.bipush (v := (-9)) dX4_near_45 (by decide) ?_
        refine Z.icmp_neH dX4_near_47 H (fun br47 H => ?_) (fun br47 H => ?_)
        · refine Z.iconst (v := 0) dX4_near_53 (by decide) ?_
          refine Z.istore (lv' := [(6, .int (0)), (5, .int (v4)), (4, .int (v3)), (0, .ref (eA E (0))), (1, .int (x1)), (2, .int (x2)), (3, .int (x3))]) dX4_near_54 (by decide) rfl ?_
          refine Z.iload dX4_near_56 2 rfl ?_
          refine Z.istore (lv' := [(7, .int (v3)), (6, .int (0)), (5, .int (v4)), (4, .int (v3)), (0, .ref (eA E (0))), (1, .int (x1)), (2, .int (x2)), (3, .int (x3))]) dX4_near_58 (by decide) rfl ?_
          refine Z.sub [4, 5, 6, 7, 2, 1, 0] rfl ?_
          exact tX4_near_60L   FU (x1) (x2) (x3) (v4) (0) (v3) M H
        · refine Z.bipush (v := (-2)) dX4_near_50 (by decide) ?_
          exact Z.iret rfl dX4_near_52 (retW H)
    · refine Z.iconst (v := (-1)) dX4_near_22 (by decide) ?_
      exact Z.iret rfl dX4_near_23 (retW H)
theorem kX4_near {l : Launch} {E : Env5}   (x1 : Int32) (x2 : Int32) (x3 : Int32) (M : Mem) {v9 : Int32} {M9 : Mem} (H : fX4_near x1 x2 x3 M = some (v9, M9)) : Cn l E yX4_near cX4_near 8 (some .int) 5 [.ref (eA E (0)), .int (x1), .int (x2), .int (x3)] M (PR (some (.int v9)) M9) := Cn.ofZ rfl (Nat.le_of_ble_eq_true rfl) rfl (tX4_near_0  x1 x2 x3 M H)
theorem hdX4_near : yX4_near.cls ≠ "java/lang/invoke/MethodHandle" ∧ yX4_near.cls ≠ "java/lang/invoke/VarHandle" ∧ (parseMethodDescriptor yX4_near.desc).map (fun d => d.parameters.length) = some 3 := by decide +kernel

set_option maxRecDepth 100000 in
theorem tX4_empty_0 {l : Launch} {E : Env5}    (x1 : Int32) (x2 : Int32) (M : Mem) {v9 : Int32} {M9 : Mem}  (H : fX4_empty  x1 x2 M = some (v9, M9)) : Z l E RX4 cX4_empty 3 (some .int) 6 0 [(0, .ref (eA E (0))), (1, .int (x1)), (2, .int (x2))] [] M (PR (some (.int v9)) M9) := by
  unfold fX4_empty at H
  refine Z.aload_n dX4_empty_0 0 rfl ?_
  refine Z.get dX4_empty_1 inX4 (hc := rfl) (by decide) c4 5 (by decide) kw172 rfl rfl ?_
  refine Z.wf (fun hs1 => ?_)
  refine Z.iload_n dX4_empty_4 1 rfl ?_
  refine bindC H (fun v1 hv1 H => ?_)
  refine Z.callV (As := [.int (x1)]) (rest := []) (st' := [.int (v1)]) dX4_empty_5 (kX2_isPicture hs1.1 (x1) M hv1) kw347 kw348 kw349 kw6 kw350 hdX2_isPicture (cS hs1.1) (c2 hs1.1) (hc := rfl) (by decide) (by decide) rfl rfl (Nat.le_of_ble_eq_true rfl) rfl ?_
  refine Z.if_eqH dX4_empty_8 H (fun br8 H => ?_) (fun br8 H => ?_)
  · refine Z.iconst (v := (-1)) dX4_empty_20 (by decide) ?_
    exact Z.iret rfl dX4_empty_21 (retW H)
  · refine Z.iload_n dX4_empty_11 2 rfl ?_
    refine Z.iconst (v := 0) dX4_empty_12 (by decide) ?_
    refine Z.iconst (v := 1) dX4_empty_13 (by decide) ?_
    refine bindC H (fun v2 hv2 H => ?_)
    refine Z.callS (As := [.int (x2), .int (0), .int (1)]) (rest := []) (st' := [.int (v2)]) dX4_empty_14 (kX4_isBetween  (x2) (0) (1) M hv2) kw196 kw197 kw1 kw198 hdX4_isBetween (by decide) (by decide) rfl rfl (Nat.le_of_ble_eq_true rfl) rfl ?_
    refine Z.if_neH dX4_empty_17 H (fun br17 H => ?_) (fun br17 H => ?_)
    · refine Z.iload_n dX4_empty_22 2 rfl ?_
      refine Z.if_neH dX4_empty_23 H (fun br23 H => ?_) (fun br23 H => ?_)
      · refine Z.aload_n dX4_empty_37 0 rfl ?_
        refine Z.get dX4_empty_38 inX4 (hc := rfl) (by decide) c4 5 (by decide) kw172 rfl rfl ?_
        refine Z.wf (fun hs38 => ?_)
        refine Z.iload_n dX4_empty_41 1 rfl ?_
        refine bindC H (fun v3 hv3 H => ?_)
        refine Z.callV (As := [.int (x1)]) (rest := []) (st' := [.int (v3.1)]) dX4_empty_42 (kX2_countNeverEmpty hs38.1 (x1) M hv3) kw564 kw565 kw566 kw6 kw567 hdX2_countNeverEmpty (cS hs38.1) (c2 hs38.1) (hc := rfl) (by decide) (by decide) rfl rfl (Nat.le_of_ble_eq_true rfl) rfl ?_
        exact Z.iret rfl dX4_empty_45 (retW H)
      · refine Z.aload_n dX4_empty_26 0 rfl ?_
        refine Z.get dX4_empty_27 inX4 (hc := rfl) (by decide) c4 5 (by decide) kw172 rfl rfl ?_
        refine Z.wf (fun hs27 => ?_)
        refine Z.iload_n dX4_empty_30 1 rfl ?_
        refine bindC H (fun v4 hv4 H => ?_)
        refine Z.callV (As := [.int (x1)]) (rest := []) (st' := [.int (v4.1)]) dX4_empty_31 (kX2_fewestForEmpty hs27.1 (x1) M hv4) kw534 kw535 kw536 kw6 kw537 hdX2_fewestForEmpty (cS hs27.1) (c2 hs27.1) (hc := rfl) (by decide) (by decide) rfl rfl (Nat.le_of_ble_eq_true rfl) rfl ?_
        refine Z.goto dX4_empty_34 ?_
        exact Z.iret rfl dX4_empty_45 (retW H)
    · refine Z.iconst (v := (-1)) dX4_empty_20 (by decide) ?_
      exact Z.iret rfl dX4_empty_21 (retW H)
theorem kX4_empty {l : Launch} {E : Env5}   (x1 : Int32) (x2 : Int32) (M : Mem) {v9 : Int32} {M9 : Mem} (H : fX4_empty x1 x2 M = some (v9, M9)) : Cn l E yX4_empty cX4_empty 3 (some .int) 6 [.ref (eA E (0)), .int (x1), .int (x2)] M (PR (some (.int v9)) M9) := Cn.ofZ rfl (Nat.le_of_ble_eq_true rfl) rfl (tX4_empty_0  x1 x2 M H)
theorem hdX4_empty : yX4_empty.cls ≠ "java/lang/invoke/MethodHandle" ∧ yX4_empty.cls ≠ "java/lang/invoke/VarHandle" ∧ (parseMethodDescriptor yX4_empty.desc).map (fun d => d.parameters.length) = some 2 := by decide +kernel

set_option maxRecDepth 100000 in
theorem tX4_waits_0 {l : Launch} {E : Env5}    (x1 : Int32) (M : Mem) {v9 : Int32} {M9 : Mem}  (H : fX4_waits  x1 M = some (v9, M9)) : Z l E RX4 cX4_waits 2 (some .int) 5 0 [(0, .ref (eA E (0))), (1, .int (x1))] [] M (PR (some (.int v9)) M9) := by
  unfold fX4_waits at H
  refine Z.aload_n dX4_waits_0 0 rfl ?_
  refine Z.get dX4_waits_1 inX4 (hc := rfl) (by decide) c4 5 (by decide) kw172 rfl rfl ?_
  refine Z.wf (fun hs1 => ?_)
  refine Z.iload_n dX4_waits_4 1 rfl ?_
  refine bindC H (fun v1 hv1 H => ?_)
  refine Z.callV (As := [.int (x1)]) (rest := []) (st' := [.int (v1)]) dX4_waits_5 (kX2_isPicture hs1.1 (x1) M hv1) kw347 kw348 kw349 kw6 kw350 hdX2_isPicture (cS hs1.1) (c2 hs1.1) (hc := rfl) (by decide) (by decide) rfl rfl (Nat.le_of_ble_eq_true rfl) rfl ?_
  refine Z.if_neH dX4_waits_8 H (fun br8 H => ?_) (fun br8 H => ?_)
  · refine Z.aload_n dX4_waits_13 0 rfl ?_
    refine Z.get dX4_waits_14 inX4 (hc := rfl) (by decide) c4 5 (by decide) kw172 rfl rfl ?_
    refine Z.wf (fun hs14 => ?_)
    refine Z.iload_n dX4_waits_17 1 rfl ?_
    refine bindC H (fun v2 hv2 H => ?_)
    refine Z.callV (As := [.int (x1)]) (rest := []) (st' := [.int (v2.1)]) dX4_waits_18 (kX2_waitOf hs14.1 (x1) M hv2) kw578 kw579 kw580 kw6 kw581 hdX2_waitOf (cS hs14.1) (c2 hs14.1) (hc := rfl) (by decide) (by decide) rfl rfl (Nat.le_of_ble_eq_true rfl) rfl ?_
    exact Z.iret rfl dX4_waits_21 (retW H)
  · refine Z.iconst (v := (-1)) dX4_waits_11 (by decide) ?_
    exact Z.iret rfl dX4_waits_12 (retW H)
theorem kX4_waits {l : Launch} {E : Env5}   (x1 : Int32) (M : Mem) {v9 : Int32} {M9 : Mem} (H : fX4_waits x1 M = some (v9, M9)) : Cn l E yX4_waits cX4_waits 2 (some .int) 5 [.ref (eA E (0)), .int (x1)] M (PR (some (.int v9)) M9) := Cn.ofZ rfl (Nat.le_of_ble_eq_true rfl) rfl (tX4_waits_0  x1 M H)
theorem hdX4_waits : yX4_waits.cls ≠ "java/lang/invoke/MethodHandle" ∧ yX4_waits.cls ≠ "java/lang/invoke/VarHandle" ∧ (parseMethodDescriptor yX4_waits.desc).map (fun d => d.parameters.length) = some 1 := by decide +kernel

set_option maxRecDepth 100000 in
theorem tX4_lost_34 {l : Launch} {E : Env5}   {k4 : Int32 → Int32 → Mem → Option (Int32 × Mem)} (x1 : Int32) (x2 : Int32) (M : Mem) {v9 : Int32} {M9 : Mem} (hk4 : ∀ (x1 : Int32) (x2 : Int32) (M : Mem), k4 x1 x2 M = some (v9, M9) → Z l E RX4 cX4_lost 4 (some .int) 5 4 [(0, .ref (eA E (0))), (1, .int (x1)), (2, .int (x2))] [] M (PR (some (.int v9)) M9)) (H : fX4_lost_34 k4 x1 x2 M = some (v9, M9)) : Z l E RX4 cX4_lost 4 (some .int) 5 34 [(0, .ref (eA E (0))), (1, .int (x1)), (2, .int (x2))] [] M (PR (some (.int v9)) M9) := by
  unfold fX4_lost_34 at H
  refine Z.iinc (v := x2 + 1) (lv' := [(2, .int (x2 + 1)), (0, .ref (eA E (0))), (1, .int (x1))]) dX4_lost_34 2 rfl rfl (by decide) rfl ?_
  refine Z.goto dX4_lost_37 ?_
  refine Z.sub [1, 2, 0] rfl ?_
  exact hk4 (x1) (x2 + 1) M  H
set_option maxRecDepth 100000 in
theorem tX4_lost_4 {l : Launch} {E : Env5}   {k4 : Int32 → Int32 → Mem → Option (Int32 × Mem)} (x1 : Int32) (x2 : Int32) (M : Mem) {v9 : Int32} {M9 : Mem} (hk4 : ∀ (x1 : Int32) (x2 : Int32) (M : Mem), k4 x1 x2 M = some (v9, M9) → Z l E RX4 cX4_lost 4 (some .int) 5 4 [(0, .ref (eA E (0))), (1, .int (x1)), (2, .int (x2))] [] M (PR (some (.int v9)) M9)) (H : fX4_lost_4B k4 x1 x2 M = some (v9, M9)) : Z l E RX4 cX4_lost 4 (some .int) 5 4 [(0, .ref (eA E (0))), (1, .int (x1)), (2, .int (x2))] [] M (PR (some (.int v9)) M9) := by
  unfold fX4_lost_4B at H
  refine Z.iload_n dX4_lost_4 2 rfl ?_
  refine Z.aload_n dX4_lost_5 0 rfl ?_
  refine Z.get dX4_lost_6 inX4 (hc := rfl) (by decide) c4 5 (by decide) kw172 rfl rfl ?_
  refine Z.wf (fun hs6 => ?_)
  refine Z.getN dX4_lost_9 inX2 (hc := rfl) (cS hs6.1) (c2 hs6.1) 7 (by decide) kn129 rfl rfl ?_
  refine Z.icmp_geH dX4_lost_12 H (fun br12 H => ?_) (fun br12 H => ?_)
  · refine Z.iload_n dX4_lost_40 1 rfl ?_
    exact Z.iret rfl dX4_lost_41 (retW H)
  · refine Z.aload_n dX4_lost_15 0 rfl ?_
    refine Z.get dX4_lost_16 inX4 (hc := rfl) (by decide) c4 5 (by decide) kw172 rfl rfl ?_
    refine Z.wf (fun hs16 => ?_)
    refine Z.iload_n dX4_lost_19 2 rfl ?_
    refine bindC H (fun v1 hv1 H => ?_)
    refine Z.callV (As := [.int (x2)]) (rest := []) (st' := [.int (v1.1)]) dX4_lost_20 (kX2_waitOf hs16.1 (x2) M hv1) kw578 kw579 kw580 kw6 kw581 hdX2_waitOf (cS hs16.1) (c2 hs16.1) (hc := rfl) (by decide) (by decide) rfl rfl (Nat.le_of_ble_eq_true rfl) rfl ?_
    refine Z.istore_n (lv' := [(3, .int (v1.1)), (0, .ref (eA E (0))), (1, .int (x1)), (2, .int (x2))]) dX4_lost_23 (by decide) rfl ?_
    refine Z.iload_n dX4_lost_24 0 rfl ?_
    refine Z.bipush (v := (-9)) dX4_lost_25 (by decide) ?_
    refine Z.icmp_eqH dX4_lost_27 H (fun br27 H => ?_) (fun br27 H => ?_)
    · refine Z.sub [1, 2, 3] rfl ?_
      exact tX4_lost_34  (x1) (x2) v1.2 hk4 H
    · refine Z.iload_n dX4_lost_30 2 rfl ?_
      refine Z.iload_n dX4_lost_31 0 rfl ?_
      refine Z.iadd dX4_lost_32 ?_
      refine Z.istore_n (lv' := [(1, .int (x1 + v1.1)), (3, .int (v1.1)), (0, .ref (eA E (0))), (2, .int (x2))]) dX4_lost_33 (by decide) rfl ?_
      refine Z.sub [2, 0, 3] rfl ?_
      exact tX4_lost_34  (x1 + v1.1) (x2) v1.2 hk4 H
theorem tX4_lost_4L {l : Launch} {E : Env5}     {v9 : Int32} {M9 : Mem}  : ∀ (n : Nat) (x1 : Int32) (x2 : Int32) (M : Mem), fX4_lost_4L   n x1 x2 M = some (v9, M9) → Z l E RX4 cX4_lost 4 (some .int) 5 4 [(0, .ref (eA E (0))), (1, .int (x1)), (2, .int (x2))] [] M (PR (some (.int v9)) M9) := by
  intro n
  induction n with
  | zero => intro x1 x2 M H; exact absurd H (by simp [fX4_lost_4L])
  | succ n ih => intro x1 x2 M H; exact tX4_lost_4  x1 x2 M  (fun x1 x2 M H => ih x1 x2 M H) H
set_option maxRecDepth 100000 in
theorem tX4_lost_0 {l : Launch} {E : Env5}     (M : Mem) {v9 : Int32} {M9 : Mem}  (H : fX4_lost   M = some (v9, M9)) : Z l E RX4 cX4_lost 4 (some .int) 5 0 [(0, .ref (eA E (0)))] [] M (PR (some (.int v9)) M9) := by
  unfold fX4_lost at H
  refine Z.iconst (v := 0) dX4_lost_0 (by decide) ?_
  refine Z.istore_n (lv' := [(1, .int (0)), (0, .ref (eA E (0)))]) dX4_lost_1 (by decide) rfl ?_
  refine Z.iconst (v := 0) dX4_lost_2 (by decide) ?_
  refine Z.istore_n (lv' := [(2, .int (0)), (1, .int (0)), (0, .ref (eA E (0)))]) dX4_lost_3 (by decide) rfl ?_
  refine Z.sub [2, 1, 0] rfl ?_
  exact tX4_lost_4L   FU (0) (0) M H
theorem kX4_lost {l : Launch} {E : Env5}    (M : Mem) {v9 : Int32} {M9 : Mem} (H : fX4_lost  M = some (v9, M9)) : Cn l E yX4_lost cX4_lost 4 (some .int) 5 [.ref (eA E (0))] M (PR (some (.int v9)) M9) := Cn.ofZ rfl (Nat.le_of_ble_eq_true rfl) rfl (tX4_lost_0   M H)
theorem hdX4_lost : yX4_lost.cls ≠ "java/lang/invoke/MethodHandle" ∧ yX4_lost.cls ≠ "java/lang/invoke/VarHandle" ∧ (parseMethodDescriptor yX4_lost.desc).map (fun d => d.parameters.length) = some 0 := by decide +kernel

set_option maxRecDepth 100000 in
theorem tX4_told_0 {l : Launch} {E : Env5}    (x1 : Int32) (x2 : Int32) (M : Mem) {v9 : Int32}  (H : fX4_told  x1 x2 M = some v9) : Z l E RX4 cX4_told 3 (some .int) 2 0 [(0, .ref (eA E (0))), (1, .int (x1)), (2, .int (x2))] [] M (PR (some (.int v9)) M) := by
  unfold fX4_told at H
  refine Z.aload_n dX4_told_0 0 rfl ?_
  refine Z.get dX4_told_1 inX4 (hc := rfl) (by decide) c4 5 (by decide) kw172 rfl rfl ?_
  refine Z.wf (fun hs1 => ?_)
  refine Z.iload_n dX4_told_4 1 rfl ?_
  refine bindC H (fun v1 hv1 H => ?_)
  refine Z.callV (As := [.int (x1)]) (rest := []) (st' := [.int (v1)]) dX4_told_5 (kX2_isPerson hs1.1 (x1) M hv1) kw338 kw339 kw340 kw6 kw341 hdX2_isPerson (cS hs1.1) (c2 hs1.1) (hc := rfl) (by decide) (by decide) rfl rfl (Nat.le_of_ble_eq_true rfl) rfl ?_
  refine Z.if_eqH dX4_told_8 H (fun br8 H => ?_) (fun br8 H => ?_)
  · refine Z.iconst (v := (-1)) dX4_told_20 (by decide) ?_
    exact Z.iret rfl dX4_told_21 (retR H)
  · refine Z.iload_n dX4_told_11 2 rfl ?_
    refine Z.iconst (v := 0) dX4_told_12 (by decide) ?_
    refine Z.iconst (v := 3) dX4_told_13 (by decide) ?_
    refine bindC H (fun v2 hv2 H => ?_)
    refine Z.callS (As := [.int (x2), .int (0), .int (3)]) (rest := []) (st' := [.int (v2)]) dX4_told_14 (kX4_isBetween  (x2) (0) (3) M hv2) kw196 kw197 kw1 kw198 hdX4_isBetween (by decide) (by decide) rfl rfl (Nat.le_of_ble_eq_true rfl) rfl ?_
    refine Z.if_neH dX4_told_17 H (fun br17 H => ?_) (fun br17 H => ?_)
    · refine Z.iload_n dX4_told_22 2 rfl ?_
      refine iteE H (fun e0 H => ?_) (fun e0 H => ?_)
      · refine Z.tabC (c := 0) (tgt := 48) e0 dX4_told_23 (by decide) (by decide) rfl rfl ?_
        refine Z.aload_n dX4_told_48 0 rfl ?_
        refine Z.get dX4_told_49 inX4 (hc := rfl) (by decide) c4 5 (by decide) kw172 rfl rfl ?_
        refine Z.wf (fun hs49 => ?_)
        refine Z.getN dX4_told_52 inX2 (hc := rfl) (cS hs49.1) (c2 hs49.1) 11 (by decide) kn134 rfl rfl ?_
        refine Z.aload_n dX4_told_55 0 rfl ?_
        refine Z.get dX4_told_56 inX4 (hc := rfl) (by decide) c4 5 (by decide) kw172 rfl rfl ?_
        refine Z.wf (fun hs56 => ?_)
        refine Z.getN dX4_told_59 inX2 (hc := rfl) (cS hs56.1) (c2 hs56.1) 7 (by decide) kn129 rfl rfl ?_
        refine Z.iconst (v := 1) dX4_told_62 (by decide) ?_
        refine Z.iload_n dX4_told_63 1 rfl ?_
        refine Z.ishl dX4_told_64 ?_
        refine bindC H (fun v3 hv3 H => ?_)
        refine Z.callS (As := [.ref (eA E (M.2.2 0 5 + 6)), .int (M.1 (M.2.2 0 5) 7), .int (1 <<< (x1 &&& 31))]) (rest := []) (st' := [.int (v3)]) dX4_told_65 (kX4_countShowing (a2_shown hs49.1) (M.1 (M.2.2 0 5) 7) (1 <<< (x1 &&& 31)) M hv3) kw590 kw591 kw1 kw592 hdX4_countShowing (by decide) (by decide) rfl rfl (Nat.le_of_ble_eq_true rfl) rfl ?_
        exact Z.iret rfl dX4_told_68 (retR H)
      refine iteE H (fun e1 H => ?_) (fun e1 H => ?_)
      · refine Z.tabC (c := 1) (tgt := 69) e1 dX4_told_23 (by decide) (by decide) rfl rfl ?_
        refine Z.aload_n dX4_told_69 0 rfl ?_
        refine Z.get dX4_told_70 inX4 (hc := rfl) (by decide) c4 5 (by decide) kw172 rfl rfl ?_
        refine Z.wf (fun hs70 => ?_)
        refine Z.iload_n dX4_told_73 1 rfl ?_
        refine bindC H (fun v4 hv4 H => ?_)
        refine Z.callV (As := [.int (x1)]) (rest := []) (st' := [.int (v4)]) dX4_told_74 (kX2_mostOftenWith hs70.1 (x1) M hv4) kw593 kw594 kw595 kw6 kw596 hdX2_mostOftenWith (cS hs70.1) (c2 hs70.1) (hc := rfl) (by decide) (by decide) rfl rfl (Nat.le_of_ble_eq_true rfl) rfl ?_
        exact Z.iret rfl dX4_told_77 (retR H)
      refine iteE H (fun e2 H => ?_) (fun e2 H => ?_)
      · refine Z.tabC (c := 2) (tgt := 78) e2 dX4_told_23 (by decide) (by decide) rfl rfl ?_
        refine Z.aload_n dX4_told_78 0 rfl ?_
        refine Z.get dX4_told_79 inX4 (hc := rfl) (by decide) c4 5 (by decide) kw172 rfl rfl ?_
        refine Z.wf (fun hs79 => ?_)
        refine Z.iload_n dX4_told_82 1 rfl ?_
        refine bindC H (fun v5 hv5 H => ?_)
        refine Z.callV (As := [.int (x1)]) (rest := []) (st' := [.int (v5)]) dX4_told_83 (kX2_firstSecondOf hs79.1 (x1) M hv5) kw598 kw599 kw600 kw6 kw601 hdX2_firstSecondOf (cS hs79.1) (c2 hs79.1) (hc := rfl) (by decide) (by decide) rfl rfl (Nat.le_of_ble_eq_true rfl) rfl ?_
        exact Z.iret rfl dX4_told_86 (retR H)
      refine Z.tabOut (tgt := 87) dX4_told_23 (by have := @Int32.toInt_inj; have z0 := sw_ne (k := 0) rfl e0; have z1 := sw_ne (k := 1) rfl e1; have z2 := sw_ne (k := 2) rfl e2; omega) rfl ?_
      refine Z.aload_n dX4_told_87 0 rfl ?_
      refine Z.get dX4_told_88 inX4 (hc := rfl) (by decide) c4 5 (by decide) kw172 rfl rfl ?_
      refine Z.wf (fun hs88 => ?_)
      refine Z.iload_n dX4_told_91 1 rfl ?_
      refine bindC H (fun v6 hv6 H => ?_)
      refine Z.callV (As := [.int (x1)]) (rest := []) (st' := [.int (v6)]) dX4_told_92 (kX2_lastSecondOf hs88.1 (x1) M hv6) kw602 kw603 kw604 kw6 kw605 hdX2_lastSecondOf (cS hs88.1) (c2 hs88.1) (hc := rfl) (by decide) (by decide) rfl rfl (Nat.le_of_ble_eq_true rfl) rfl ?_
      exact Z.iret rfl dX4_told_95 (retR H)
    · refine Z.iconst (v := (-1)) dX4_told_20 (by decide) ?_
      exact Z.iret rfl dX4_told_21 (retR H)
theorem kX4_told {l : Launch} {E : Env5}   (x1 : Int32) (x2 : Int32) (M : Mem) {v9 : Int32} (H : fX4_told x1 x2 M = some v9) : Cn l E yX4_told cX4_told 3 (some .int) 2 [.ref (eA E (0)), .int (x1), .int (x2)] M (PR (some (.int v9)) M) := Cn.ofZ rfl (Nat.le_of_ble_eq_true rfl) rfl (tX4_told_0  x1 x2 M H)
theorem hdX4_told : yX4_told.cls ≠ "java/lang/invoke/MethodHandle" ∧ yX4_told.cls ≠ "java/lang/invoke/VarHandle" ∧ (parseMethodDescriptor yX4_told.desc).map (fun d => d.parameters.length) = some 2 := by decide +kernel

set_option maxRecDepth 100000 in
theorem tX4_rule_15 {l : Launch} {E : Env5}   {k15 : Int32 → Int32 → Mem → Option (Int32 × Mem)} (x1 : Int32) (x2 : Int32) (M : Mem) {v9 : Int32} {M9 : Mem} (hk15 : ∀ (x1 : Int32) (x2 : Int32) (M : Mem), k15 x1 x2 M = some (v9, M9) → Z l E RX4 cX4_rule 3 (some .int) 6 15 [(0, .ref (eA E (0))), (1, .int (x1)), (2, .int (x2))] [] M (PR (some (.int v9)) M9)) (H : fX4_rule_15B k15 x1 x2 M = some (v9, M9)) : Z l E RX4 cX4_rule 3 (some .int) 6 15 [(0, .ref (eA E (0))), (1, .int (x1)), (2, .int (x2))] [] M (PR (some (.int v9)) M9) := by
  unfold fX4_rule_15B at H
  refine Z.iload_n dX4_rule_15 2 rfl ?_
  refine Z.if_leH dX4_rule_16 H (fun br16 H => ?_) (fun br16 H => ?_)
  · refine Z.iload_n dX4_rule_37 2 rfl ?_
    exact Z.iret rfl dX4_rule_38 (retW H)
  · refine Z.aload_n dX4_rule_19 0 rfl ?_
    refine Z.get dX4_rule_20 inX4 (hc := rfl) (by decide) c4 5 (by decide) kw172 rfl rfl ?_
    refine Z.wf (fun hs20 => ?_)
    refine Z.iload_n dX4_rule_23 2 rfl ?_
    refine bindC H (fun v1 hv1 H => ?_)
    refine Z.callV (As := [.int (x2)]) (rest := []) (st' := [.int (v1.1)]) dX4_rule_24 (kX2_mostPicturesOfOne hs20.1 (x2) M hv1) kw610 kw611 kw612 kw6 kw613 hdX2_mostPicturesOfOne (cS hs20.1) (c2 hs20.1) (hc := rfl) (by decide) (by decide) rfl rfl (Nat.le_of_ble_eq_true rfl) rfl ?_
    refine Z.iload_n dX4_rule_27 1 rfl ?_
    refine Z.icmp_leH dX4_rule_28 H (fun br28 H => ?_) (fun br28 H => ?_)
    · refine Z.iload_n dX4_rule_37 2 rfl ?_
      exact Z.iret rfl dX4_rule_38 (retW H)
    · refine Z.iinc (v := x2 + (-1)) (lv' := [(2, .int (x2 + (-1))), (0, .ref (eA E (0))), (1, .int (x1))]) dX4_rule_31 2 rfl rfl (by decide) rfl ?_
      refine Z.goto dX4_rule_34 ?_
      refine Z.sub [1, 2, 0] rfl ?_
      exact hk15 (x1) (x2 + (-1)) v1.2  H
theorem tX4_rule_15L {l : Launch} {E : Env5}     {v9 : Int32} {M9 : Mem}  : ∀ (n : Nat) (x1 : Int32) (x2 : Int32) (M : Mem), fX4_rule_15L   n x1 x2 M = some (v9, M9) → Z l E RX4 cX4_rule 3 (some .int) 6 15 [(0, .ref (eA E (0))), (1, .int (x1)), (2, .int (x2))] [] M (PR (some (.int v9)) M9) := by
  intro n
  induction n with
  | zero => intro x1 x2 M H; exact absurd H (by simp [fX4_rule_15L])
  | succ n ih => intro x1 x2 M H; exact tX4_rule_15  x1 x2 M  (fun x1 x2 M H => ih x1 x2 M H) H
set_option maxRecDepth 100000 in
theorem tX4_rule_0 {l : Launch} {E : Env5}    (x1 : Int32) (M : Mem) {v9 : Int32} {M9 : Mem}  (H : fX4_rule  x1 M = some (v9, M9)) : Z l E RX4 cX4_rule 3 (some .int) 6 0 [(0, .ref (eA E (0))), (1, .int (x1))] [] M (PR (some (.int v9)) M9) := by
  unfold fX4_rule at H
  refine Z.iload_n dX4_rule_0 1 rfl ?_
  refine Z.iconst (v := 0) dX4_rule_1 (by decide) ?_
  refine Z.bipush (v := 10) dX4_rule_2 (by decide) ?_
  refine bindC H (fun v1 hv1 H => ?_)
  refine Z.callS (As := [.int (x1), .int (0), .int (10)]) (rest := []) (st' := [.int (v1)]) dX4_rule_4 (kX4_isBetween  (x1) (0) (10) M hv1) kw196 kw197 kw1 kw198 hdX4_isBetween (by decide) (by decide) rfl rfl (Nat.le_of_ble_eq_true rfl) rfl ?_
  refine Z.if_neH dX4_rule_7 H (fun br7 H => ?_) (fun br7 H => ?_)
  · refine Z.bipush (v := 9) dX4_rule_12 (by decide) ?_
    refine Z.istore_n (lv' := [(2, .int (9)), (0, .ref (eA E (0))), (1, .int (x1))]) dX4_rule_14 (by decide) rfl ?_
    refine Z.sub [1, 2, 0] rfl ?_
    exact tX4_rule_15L   FU (x1) (9) M H
  · refine Z.iconst (v := (-1)) dX4_rule_10 (by decide) ?_
    exact Z.iret rfl dX4_rule_11 (retW H)
theorem kX4_rule {l : Launch} {E : Env5}   (x1 : Int32) (M : Mem) {v9 : Int32} {M9 : Mem} (H : fX4_rule x1 M = some (v9, M9)) : Cn l E yX4_rule cX4_rule 3 (some .int) 6 [.ref (eA E (0)), .int (x1)] M (PR (some (.int v9)) M9) := Cn.ofZ rfl (Nat.le_of_ble_eq_true rfl) rfl (tX4_rule_0  x1 M H)
theorem hdX4_rule : yX4_rule.cls ≠ "java/lang/invoke/MethodHandle" ∧ yX4_rule.cls ≠ "java/lang/invoke/VarHandle" ∧ (parseMethodDescriptor yX4_rule.desc).map (fun d => d.parameters.length) = some 1 := by decide +kernel

set_option maxRecDepth 100000 in
theorem tX4_untrue_0 {l : Launch} {E : Env5}    (x1 : Int32) (x2 : Int32) (M : Mem) {v9 : Int32}  (H : fX4_untrue  x1 x2 M = some v9) : Z l E RX4 cX4_untrue 3 (some .int) 2 0 [(0, .ref (eA E (0))), (1, .int (x1)), (2, .int (x2))] [] M (PR (some (.int v9)) M) := by
  unfold fX4_untrue at H
  refine Z.aload_n dX4_untrue_0 0 rfl ?_
  refine Z.get dX4_untrue_1 inX4 (hc := rfl) (by decide) c4 5 (by decide) kw172 rfl rfl ?_
  refine Z.wf (fun hs1 => ?_)
  refine Z.iload_n dX4_untrue_4 1 rfl ?_
  refine bindC H (fun v1 hv1 H => ?_)
  refine Z.callV (As := [.int (x1)]) (rest := []) (st' := [.int (v1)]) dX4_untrue_5 (kX2_isPicture hs1.1 (x1) M hv1) kw347 kw348 kw349 kw6 kw350 hdX2_isPicture (cS hs1.1) (c2 hs1.1) (hc := rfl) (by decide) (by decide) rfl rfl (Nat.le_of_ble_eq_true rfl) rfl ?_
  refine Z.if_eqH dX4_untrue_8 H (fun br8 H => ?_) (fun br8 H => ?_)
  · refine Z.iconst (v := (-1)) dX4_untrue_22 (by decide) ?_
    exact Z.iret rfl dX4_untrue_23 (retR H)
  · refine Z.aload_n dX4_untrue_11 0 rfl ?_
    refine Z.get dX4_untrue_12 inX4 (hc := rfl) (by decide) c4 5 (by decide) kw172 rfl rfl ?_
    refine Z.wf (fun hs12 => ?_)
    refine Z.iload_n dX4_untrue_15 2 rfl ?_
    refine bindC H (fun v2 hv2 H => ?_)
    refine Z.callV (As := [.int (x2)]) (rest := []) (st' := [.int (v2)]) dX4_untrue_16 (kX2_isSetOfPeople hs12.1 (x2) M hv2) kw386 kw387 kw388 kw6 kw389 hdX2_isSetOfPeople (cS hs12.1) (c2 hs12.1) (hc := rfl) (by decide) (by decide) rfl rfl (Nat.le_of_ble_eq_true rfl) rfl ?_
    refine Z.if_neH dX4_untrue_19 H (fun br19 H => ?_) (fun br19 H => ?_)
    · refine Z.aload_n dX4_untrue_24 0 rfl ?_
      refine Z.get dX4_untrue_25 inX4 (hc := rfl) (by decide) c4 5 (by decide) kw172 rfl rfl ?_
      refine Z.wf (fun hs25 => ?_)
      refine Z.getN dX4_untrue_28 inX2 (hc := rfl) (cS hs25.1) (c2 hs25.1) 11 (by decide) kn134 rfl rfl ?_
      refine Z.iload_n dX4_untrue_31 1 rfl ?_
      refine Z.ialdH dX4_untrue_32 (a2_shown hs25.1) H (fun v3 H => ?_)
      refine Z.iload_n dX4_untrue_33 2 rfl ?_
      refine Z.ixor dX4_untrue_34 ?_
      refine bindC H (fun v4 hv4 H => ?_)
      refine Z.callS (As := [.int (v3 ^^^ x2)]) (rest := []) (st' := [.int (v4)]) dX4_untrue_35 (kJ6_bitCount_0f7a4  (v3 ^^^ x2) M hv4) kw498 kw481 kw10 kw482 hdJ6_bitCount_0f7a4 (by decide) (by decide) rfl rfl (Nat.le_of_ble_eq_true rfl) rfl ?_
      exact Z.iret rfl dX4_untrue_38 (retR H)
    · refine Z.iconst (v := (-1)) dX4_untrue_22 (by decide) ?_
      exact Z.iret rfl dX4_untrue_23 (retR H)
theorem kX4_untrue {l : Launch} {E : Env5}   (x1 : Int32) (x2 : Int32) (M : Mem) {v9 : Int32} (H : fX4_untrue x1 x2 M = some v9) : Cn l E yX4_untrue cX4_untrue 3 (some .int) 2 [.ref (eA E (0)), .int (x1), .int (x2)] M (PR (some (.int v9)) M) := Cn.ofZ rfl (Nat.le_of_ble_eq_true rfl) rfl (tX4_untrue_0  x1 x2 M H)
theorem hdX4_untrue : yX4_untrue.cls ≠ "java/lang/invoke/MethodHandle" ∧ yX4_untrue.cls ≠ "java/lang/invoke/VarHandle" ∧ (parseMethodDescriptor yX4_untrue.desc).map (fun d => d.parameters.length) = some 2 := by decide +kernel

set_option maxRecDepth 100000 in
theorem tX4_ratePicture_0 {l : Launch} {E : Env5}    (x1 : Int32) (M : Mem) {v9 : Int32} {M9 : Mem}  (H : fX4_ratePicture  x1 M = some (v9, M9)) : Z l E RX4 cX4_ratePicture 2 (some .int) 1 0 [(0, .ref (eA E (0))), (1, .int (x1))] [] M (PR (some (.int v9)) M9) := by
  unfold fX4_ratePicture at H
  refine Z.aload_n dX4_ratePicture_0 0 rfl ?_
  refine Z.dup dX4_ratePicture_1 rfl ?_
  refine Z.get dX4_ratePicture_2 inX4 (hc := rfl) (by decide) c4 7 (by decide) kw174 rfl rfl ?_
  refine Z.lconst (v := 1) dX4_ratePicture_5 (by decide) ?_
  refine Z.ladd dX4_ratePicture_6 ?_
  refine wE H (fun M1 eM1 H => ?_)
  refine Z.put (ty := .long) (M' := M1) dX4_ratePicture_7 inX4 tyX4_ok nmX4 (hc := rfl) (by decide) c4 7 (by decide) kw174 rfl rfl (by decide +kernel) rfl rfl (Nat.le_of_ble_eq_true rfl) (by rw [← eM1, c4, sJ_k]; exact congrArg (fun q => Sum.inr (4, q)) u4_traced) (by rw [← eM1]; exact sJ_o) (by rw [← eM1]; exact (fun q => q)) ?_
  refine Z.aload_n dX4_ratePicture_10 0 rfl ?_
  refine Z.get dX4_ratePicture_11 inX4 (hc := rfl) (by decide) c4 5 (by decide) kw172 rfl rfl ?_
  refine Z.wf (fun hs11 => ?_)
  refine Z.getN dX4_ratePicture_14 inX2 (hc := rfl) (cS hs11.1) (c2 hs11.1) 11 (by decide) kn134 rfl rfl ?_
  refine Z.iload_n dX4_ratePicture_17 1 rfl ?_
  refine Z.ialdH dX4_ratePicture_18 (a2_shown hs11.1) H (fun v2 H => ?_)
  refine bindC H (fun v3 hv3 H => ?_)
  refine Z.callS (As := [.int (v2)]) (rest := []) (st' := [.int (v3)]) dX4_ratePicture_19 (kJ6_bitCount_0f7a4  (v2) M1 hv3) kw498 kw481 kw10 kw482 hdJ6_bitCount_0f7a4 (by decide) (by decide) rfl rfl (Nat.le_of_ble_eq_true rfl) rfl ?_
  exact Z.iret rfl dX4_ratePicture_22 (retW H)
theorem kX4_ratePicture {l : Launch} {E : Env5}   (x1 : Int32) (M : Mem) {v9 : Int32} {M9 : Mem} (H : fX4_ratePicture x1 M = some (v9, M9)) : Cn l E yX4_ratePicture cX4_ratePicture 2 (some .int) 1 [.ref (eA E (0)), .int (x1)] M (PR (some (.int v9)) M9) := Cn.ofZ rfl (Nat.le_of_ble_eq_true rfl) rfl (tX4_ratePicture_0  x1 M H)
theorem hdX4_ratePicture : yX4_ratePicture.cls ≠ "java/lang/invoke/MethodHandle" ∧ yX4_ratePicture.cls ≠ "java/lang/invoke/VarHandle" ∧ (parseMethodDescriptor yX4_ratePicture.desc).map (fun d => d.parameters.length) = some 1 := by decide +kernel

set_option maxRecDepth 100000 in
theorem tX4_ratePosed_0 {l : Launch} {E : Env5}    (x1 : Int32) (M : Mem) {v9 : Int32} {M9 : Mem}  (H : fX4_ratePosed  x1 M = some (v9, M9)) : Z l E RX4 cX4_ratePosed 2 (some .int) 2 0 [(0, .ref (eA E (0))), (1, .int (x1))] [] M (PR (some (.int v9)) M9) := by
  unfold fX4_ratePosed at H
  refine Z.aload_n dX4_ratePosed_0 0 rfl ?_
  refine Z.dup dX4_ratePosed_1 rfl ?_
  refine Z.get dX4_ratePosed_2 inX4 (hc := rfl) (by decide) c4 7 (by decide) kw174 rfl rfl ?_
  refine Z.ldc2 (v := 10) dX4_ratePosed_5 kw627 ?_
  refine Z.ladd dX4_ratePosed_8 ?_
  refine wE H (fun M1 eM1 H => ?_)
  refine Z.put (ty := .long) (M' := M1) dX4_ratePosed_9 inX4 tyX4_ok nmX4 (hc := rfl) (by decide) c4 7 (by decide) kw174 rfl rfl (by decide +kernel) rfl rfl (Nat.le_of_ble_eq_true rfl) (by rw [← eM1, c4, sJ_k]; exact congrArg (fun q => Sum.inr (4, q)) u4_traced) (by rw [← eM1]; exact sJ_o) (by rw [← eM1]; exact (fun q => q)) ?_
  refine Z.aload_n dX4_ratePosed_12 0 rfl ?_
  refine Z.iload_n dX4_ratePosed_13 1 rfl ?_
  refine bindC H (fun v2 hv2 H => ?_)
  refine Z.callV (As := [.int (x1)]) (rest := []) (st' := [.int (v2.1)]) dX4_ratePosed_14 (kX4_ratePicture  (x1) M1 hv2) kw628 kw630 ks27 kw1 kw631 hdX4_ratePicture (by decide) c4 (hc := rfl) (by decide) (by decide) rfl rfl (Nat.le_of_ble_eq_true rfl) rfl ?_
  refine Z.aload_n dX4_ratePosed_17 0 rfl ?_
  refine Z.get dX4_ratePosed_18 inX4 (hc := rfl) (by decide) c4 5 (by decide) kw172 rfl rfl ?_
  refine Z.wf (fun hs18 => ?_)
  refine Z.iload_n dX4_ratePosed_21 1 rfl ?_
  refine Z.iconst (v := 3) dX4_ratePosed_22 (by decide) ?_
  refine bindC H (fun v3 hv3 H => ?_)
  refine Z.callV (As := [.int (x1), .int (3)]) (rest := [.int (v2.1)]) (st' := [.int (v3), .int (v2.1)]) dX4_ratePosed_23 (kX2_ofPicture hs18.1 (x1) (3) v2.2 hv3) kw351 kw278 kw279 kw6 kw280 hdX2_ofPicture (cS hs18.1) (c2 hs18.1) (hc := rfl) (by decide) (by decide) rfl rfl (Nat.le_of_ble_eq_true rfl) rfl ?_
  refine Z.iadd dX4_ratePosed_26 ?_
  exact Z.iret rfl dX4_ratePosed_27 (retW H)
theorem kX4_ratePosed {l : Launch} {E : Env5}   (x1 : Int32) (M : Mem) {v9 : Int32} {M9 : Mem} (H : fX4_ratePosed x1 M = some (v9, M9)) : Cn l E yX4_ratePosed cX4_ratePosed 2 (some .int) 2 [.ref (eA E (0)), .int (x1)] M (PR (some (.int v9)) M9) := Cn.ofZ rfl (Nat.le_of_ble_eq_true rfl) rfl (tX4_ratePosed_0  x1 M H)
theorem hdX4_ratePosed : yX4_ratePosed.cls ≠ "java/lang/invoke/MethodHandle" ∧ yX4_ratePosed.cls ≠ "java/lang/invoke/VarHandle" ∧ (parseMethodDescriptor yX4_ratePosed.desc).map (fun d => d.parameters.length) = some 1 := by decide +kernel

set_option maxRecDepth 100000 in
theorem tX4_rateCrossed_0 {l : Launch} {E : Env5}    (x1 : Int32) (M : Mem) {v9 : Int32} {M9 : Mem}  (H : fX4_rateCrossed  x1 M = some (v9, M9)) : Z l E RX4 cX4_rateCrossed 2 (some .int) 2 0 [(0, .ref (eA E (0))), (1, .int (x1))] [] M (PR (some (.int v9)) M9) := by
  unfold fX4_rateCrossed at H
  refine Z.aload_n dX4_rateCrossed_0 0 rfl ?_
  refine Z.dup dX4_rateCrossed_1 rfl ?_
  refine Z.get dX4_rateCrossed_2 inX4 (hc := rfl) (by decide) c4 7 (by decide) kw174 rfl rfl ?_
  refine Z.ldc2 (v := 100) dX4_rateCrossed_5 kw636 ?_
  refine Z.ladd dX4_rateCrossed_8 ?_
  refine wE H (fun M1 eM1 H => ?_)
  refine Z.put (ty := .long) (M' := M1) dX4_rateCrossed_9 inX4 tyX4_ok nmX4 (hc := rfl) (by decide) c4 7 (by decide) kw174 rfl rfl (by decide +kernel) rfl rfl (Nat.le_of_ble_eq_true rfl) (by rw [← eM1, c4, sJ_k]; exact congrArg (fun q => Sum.inr (4, q)) u4_traced) (by rw [← eM1]; exact sJ_o) (by rw [← eM1]; exact (fun q => q)) ?_
  refine Z.aload_n dX4_rateCrossed_12 0 rfl ?_
  refine Z.iload_n dX4_rateCrossed_13 1 rfl ?_
  refine bindC H (fun v2 hv2 H => ?_)
  refine Z.callV (As := [.int (x1)]) (rest := []) (st' := [.int (v2.1)]) dX4_rateCrossed_14 (kX4_ratePicture  (x1) M1 hv2) kw628 kw630 ks27 kw1 kw631 hdX4_ratePicture (by decide) c4 (hc := rfl) (by decide) (by decide) rfl rfl (Nat.le_of_ble_eq_true rfl) rfl ?_
  refine Z.iconst (v := 3) dX4_rateCrossed_17 (by decide) ?_
  refine Z.imul dX4_rateCrossed_18 ?_
  exact Z.iret rfl dX4_rateCrossed_19 (retW H)
theorem kX4_rateCrossed {l : Launch} {E : Env5}   (x1 : Int32) (M : Mem) {v9 : Int32} {M9 : Mem} (H : fX4_rateCrossed x1 M = some (v9, M9)) : Cn l E yX4_rateCrossed cX4_rateCrossed 2 (some .int) 2 [.ref (eA E (0)), .int (x1)] M (PR (some (.int v9)) M9) := Cn.ofZ rfl (Nat.le_of_ble_eq_true rfl) rfl (tX4_rateCrossed_0  x1 M H)
theorem hdX4_rateCrossed : yX4_rateCrossed.cls ≠ "java/lang/invoke/MethodHandle" ∧ yX4_rateCrossed.cls ≠ "java/lang/invoke/VarHandle" ∧ (parseMethodDescriptor yX4_rateCrossed.desc).map (fun d => d.parameters.length) = some 1 := by decide +kernel

set_option maxRecDepth 100000 in
theorem tX4_rateWaitedFor_0 {l : Launch} {E : Env5}    (x1 : Int32) (M : Mem) {v9 : Int32} {M9 : Mem}  (H : fX4_rateWaitedFor  x1 M = some (v9, M9)) : Z l E RX4 cX4_rateWaitedFor 3 (some .int) 5 0 [(0, .ref (eA E (0))), (1, .int (x1))] [] M (PR (some (.int v9)) M9) := by
  unfold fX4_rateWaitedFor at H
  refine Z.aload_n dX4_rateWaitedFor_0 0 rfl ?_
  refine Z.dup dX4_rateWaitedFor_1 rfl ?_
  refine Z.get dX4_rateWaitedFor_2 inX4 (hc := rfl) (by decide) c4 7 (by decide) kw174 rfl rfl ?_
  refine Z.ldc2 (v := 1000) dX4_rateWaitedFor_5 kw641 ?_
  refine Z.ladd dX4_rateWaitedFor_8 ?_
  refine wE H (fun M1 eM1 H => ?_)
  refine Z.put (ty := .long) (M' := M1) dX4_rateWaitedFor_9 inX4 tyX4_ok nmX4 (hc := rfl) (by decide) c4 7 (by decide) kw174 rfl rfl (by decide +kernel) rfl rfl (Nat.le_of_ble_eq_true rfl) (by rw [← eM1, c4, sJ_k]; exact congrArg (fun q => Sum.inr (4, q)) u4_traced) (by rw [← eM1]; exact sJ_o) (by rw [← eM1]; exact (fun q => q)) ?_
  refine Z.aload_n dX4_rateWaitedFor_12 0 rfl ?_
  refine Z.get dX4_rateWaitedFor_13 inX4 (hc := rfl) (by decide) c4 5 (by decide) kw172 rfl rfl ?_
  refine Z.wf (fun hs13 => ?_)
  refine Z.iload_n dX4_rateWaitedFor_16 1 rfl ?_
  refine bindC H (fun v2 hv2 H => ?_)
  refine Z.callV (As := [.int (x1)]) (rest := []) (st' := [.int (v2.1)]) dX4_rateWaitedFor_17 (kX2_waitOf hs13.1 (x1) M1 hv2) kw578 kw579 kw580 kw6 kw581 hdX2_waitOf (cS hs13.1) (c2 hs13.1) (hc := rfl) (by decide) (by decide) rfl rfl (Nat.le_of_ble_eq_true rfl) rfl ?_
  refine Z.istore_n (lv' := [(2, .int (v2.1)), (0, .ref (eA E (0))), (1, .int (x1))]) dX4_rateWaitedFor_20 (by decide) rfl ?_
  refine Z.aload_n dX4_rateWaitedFor_21 1 rfl ?_
  refine Z.iload_n dX4_rateWaitedFor_22 2 rfl ?_
  refine bindC H (fun v3 hv3 H => ?_)
  refine Z.callV (As := [.int (x1)]) (rest := []) (st' := [.int (v3.1)]) dX4_rateWaitedFor_23 (kX4_rateCrossed  (x1) v2.2 hv3) kw632 kw634 ks28 kw1 kw635 hdX4_rateCrossed (by decide) c4 (hc := rfl) (by decide) (by decide) rfl rfl (Nat.le_of_ble_eq_true rfl) rfl ?_
  refine Z.iload_n dX4_rateWaitedFor_26 0 rfl ?_
  refine Z.bipush (v := (-9)) dX4_rateWaitedFor_27 (by decide) ?_
  refine Z.icmp_neH dX4_rateWaitedFor_29 H (fun br29 H => ?_) (fun br29 H => ?_)
  · refine Z.iload_n dX4_rateWaitedFor_37 0 rfl ?_
    refine Z.iadd dX4_rateWaitedFor_38 ?_
    exact Z.iret rfl dX4_rateWaitedFor_39 (retW H)
  · refine Z.bipush (v := 100) dX4_rateWaitedFor_32 (by decide) ?_
    refine Z.goto dX4_rateWaitedFor_34 ?_
    refine Z.iadd dX4_rateWaitedFor_38 ?_
    exact Z.iret rfl dX4_rateWaitedFor_39 (retW H)
theorem kX4_rateWaitedFor {l : Launch} {E : Env5}   (x1 : Int32) (M : Mem) {v9 : Int32} {M9 : Mem} (H : fX4_rateWaitedFor x1 M = some (v9, M9)) : Cn l E yX4_rateWaitedFor cX4_rateWaitedFor 3 (some .int) 5 [.ref (eA E (0)), .int (x1)] M (PR (some (.int v9)) M9) := Cn.ofZ rfl (Nat.le_of_ble_eq_true rfl) rfl (tX4_rateWaitedFor_0  x1 M H)
theorem hdX4_rateWaitedFor : yX4_rateWaitedFor.cls ≠ "java/lang/invoke/MethodHandle" ∧ yX4_rateWaitedFor.cls ≠ "java/lang/invoke/VarHandle" ∧ (parseMethodDescriptor yX4_rateWaitedFor.desc).map (fun d => d.parameters.length) = some 1 := by decide +kernel

set_option maxRecDepth 100000 in
theorem tX4_rateCopied_0 {l : Launch} {E : Env5}    (x1 : Int32) (M : Mem) {v9 : Int32} {M9 : Mem}  (H : fX4_rateCopied  x1 M = some (v9, M9)) : Z l E RX4 cX4_rateCopied 2 (some .int) 3 0 [(0, .ref (eA E (0))), (1, .int (x1))] [] M (PR (some (.int v9)) M9) := by
  unfold fX4_rateCopied at H
  refine Z.aload_n dX4_rateCopied_0 0 rfl ?_
  refine Z.dup dX4_rateCopied_1 rfl ?_
  refine Z.get dX4_rateCopied_2 inX4 (hc := rfl) (by decide) c4 7 (by decide) kw174 rfl rfl ?_
  refine Z.ldc2 (v := 10000) dX4_rateCopied_5 kw646 ?_
  refine Z.ladd dX4_rateCopied_8 ?_
  refine wE H (fun M1 eM1 H => ?_)
  refine Z.put (ty := .long) (M' := M1) dX4_rateCopied_9 inX4 tyX4_ok nmX4 (hc := rfl) (by decide) c4 7 (by decide) kw174 rfl rfl (by decide +kernel) rfl rfl (Nat.le_of_ble_eq_true rfl) (by rw [← eM1, c4, sJ_k]; exact congrArg (fun q => Sum.inr (4, q)) u4_traced) (by rw [← eM1]; exact sJ_o) (by rw [← eM1]; exact (fun q => q)) ?_
  refine Z.aload_n dX4_rateCopied_12 0 rfl ?_
  refine Z.iload_n dX4_rateCopied_13 1 rfl ?_
  refine bindC H (fun v2 hv2 H => ?_)
  refine Z.callV (As := [.int (x1)]) (rest := []) (st' := [.int (v2.1)]) dX4_rateCopied_14 (kX4_ratePosed  (x1) M1 hv2) kw623 kw625 ks26 kw1 kw626 hdX4_ratePosed (by decide) c4 (hc := rfl) (by decide) (by decide) rfl rfl (Nat.le_of_ble_eq_true rfl) rfl ?_
  refine Z.iconst (v := 2) dX4_rateCopied_17 (by decide) ?_
  refine Z.imul dX4_rateCopied_18 ?_
  exact Z.iret rfl dX4_rateCopied_19 (retW H)
theorem kX4_rateCopied {l : Launch} {E : Env5}   (x1 : Int32) (M : Mem) {v9 : Int32} {M9 : Mem} (H : fX4_rateCopied x1 M = some (v9, M9)) : Cn l E yX4_rateCopied cX4_rateCopied 2 (some .int) 3 [.ref (eA E (0)), .int (x1)] M (PR (some (.int v9)) M9) := Cn.ofZ rfl (Nat.le_of_ble_eq_true rfl) rfl (tX4_rateCopied_0  x1 M H)
theorem hdX4_rateCopied : yX4_rateCopied.cls ≠ "java/lang/invoke/MethodHandle" ∧ yX4_rateCopied.cls ≠ "java/lang/invoke/VarHandle" ∧ (parseMethodDescriptor yX4_rateCopied.desc).map (fun d => d.parameters.length) = some 1 := by decide +kernel

set_option maxRecDepth 100000 in
theorem tX4_rateClocked_0 {l : Launch} {E : Env5}    (x1 : Int32) (M : Mem) {v9 : Int32} {M9 : Mem}  (H : fX4_rateClocked  x1 M = some (v9, M9)) : Z l E RX4 cX4_rateClocked 2 (some .int) 2 0 [(0, .ref (eA E (0))), (1, .int (x1))] [] M (PR (some (.int v9)) M9) := by
  unfold fX4_rateClocked at H
  refine Z.aload_n dX4_rateClocked_0 0 rfl ?_
  refine Z.dup dX4_rateClocked_1 rfl ?_
  refine Z.get dX4_rateClocked_2 inX4 (hc := rfl) (by decide) c4 7 (by decide) kw174 rfl rfl ?_
  refine Z.ldc2 (v := 100000) dX4_rateClocked_5 kw651 ?_
  refine Z.ladd dX4_rateClocked_8 ?_
  refine wE H (fun M1 eM1 H => ?_)
  refine Z.put (ty := .long) (M' := M1) dX4_rateClocked_9 inX4 tyX4_ok nmX4 (hc := rfl) (by decide) c4 7 (by decide) kw174 rfl rfl (by decide +kernel) rfl rfl (Nat.le_of_ble_eq_true rfl) (by rw [← eM1, c4, sJ_k]; exact congrArg (fun q => Sum.inr (4, q)) u4_traced) (by rw [← eM1]; exact sJ_o) (by rw [← eM1]; exact (fun q => q)) ?_
  refine Z.aload_n dX4_rateClocked_12 0 rfl ?_
  refine Z.iload_n dX4_rateClocked_13 1 rfl ?_
  refine bindC H (fun v2 hv2 H => ?_)
  refine Z.callV (As := [.int (x1)]) (rest := []) (st' := [.int (v2.1)]) dX4_rateClocked_14 (kX4_ratePicture  (x1) M1 hv2) kw628 kw630 ks27 kw1 kw631 hdX4_ratePicture (by decide) c4 (hc := rfl) (by decide) (by decide) rfl rfl (Nat.le_of_ble_eq_true rfl) rfl ?_
  refine Z.aload_n dX4_rateClocked_17 0 rfl ?_
  refine Z.get dX4_rateClocked_18 inX4 (hc := rfl) (by decide) c4 5 (by decide) kw172 rfl rfl ?_
  refine Z.wf (fun hs18 => ?_)
  refine Z.iload_n dX4_rateClocked_21 1 rfl ?_
  refine Z.iconst (v := 4) dX4_rateClocked_22 (by decide) ?_
  refine bindC H (fun v3 hv3 H => ?_)
  refine Z.callV (As := [.int (x1), .int (4)]) (rest := [.int (v2.1)]) (st' := [.int (v3), .int (v2.1)]) dX4_rateClocked_23 (kX2_ofPicture hs18.1 (x1) (4) v2.2 hv3) kw351 kw278 kw279 kw6 kw280 hdX2_ofPicture (cS hs18.1) (c2 hs18.1) (hc := rfl) (by decide) (by decide) rfl rfl (Nat.le_of_ble_eq_true rfl) rfl ?_
  refine Z.isub dX4_rateClocked_26 ?_
  exact Z.iret rfl dX4_rateClocked_27 (retW H)
theorem kX4_rateClocked {l : Launch} {E : Env5}   (x1 : Int32) (M : Mem) {v9 : Int32} {M9 : Mem} (H : fX4_rateClocked x1 M = some (v9, M9)) : Cn l E yX4_rateClocked cX4_rateClocked 2 (some .int) 2 [.ref (eA E (0)), .int (x1)] M (PR (some (.int v9)) M9) := Cn.ofZ rfl (Nat.le_of_ble_eq_true rfl) rfl (tX4_rateClocked_0  x1 M H)
theorem hdX4_rateClocked : yX4_rateClocked.cls ≠ "java/lang/invoke/MethodHandle" ∧ yX4_rateClocked.cls ≠ "java/lang/invoke/VarHandle" ∧ (parseMethodDescriptor yX4_rateClocked.desc).map (fun d => d.parameters.length) = some 1 := by decide +kernel

set_option maxRecDepth 100000 in
theorem tX4_rate_0 {l : Launch} {E : Env5}    (x1 : Int32) (x2 : Int32) (M : Mem) {v9 : Int32} {M9 : Mem}  (H : fX4_rate  x1 x2 M = some (v9, M9)) : Z l E RX4 cX4_rate 3 (some .int) 6 0 [(0, .ref (eA E (0))), (1, .int (x1)), (2, .int (x2))] [] M (PR (some (.int v9)) M9) := by
  unfold fX4_rate at H
  refine Z.iload_n dX4_rate_0 1 rfl ?_
  refine Z.iconst (v := 0) dX4_rate_1 (by decide) ?_
  refine Z.iconst (v := 5) dX4_rate_2 (by decide) ?_
  refine bindC H (fun v1 hv1 H => ?_)
  refine Z.callS (As := [.int (x1), .int (0), .int (5)]) (rest := []) (st' := [.int (v1)]) dX4_rate_3 (kX4_isBetween  (x1) (0) (5) M hv1) kw196 kw197 kw1 kw198 hdX4_isBetween (by decide) (by decide) rfl rfl (Nat.le_of_ble_eq_true rfl) rfl ?_
  refine Z.if_eqH dX4_rate_6 H (fun br6 H => ?_) (fun br6 H => ?_)
  · refine Z.ldc (v := (-1000000)) dX4_rate_20 kw417 ?_
    exact Z.iret rfl dX4_rate_22 (retW H)
  · refine Z.aload_n dX4_rate_9 0 rfl ?_
    refine Z.get dX4_rate_10 inX4 (hc := rfl) (by decide) c4 5 (by decide) kw172 rfl rfl ?_
    refine Z.wf (fun hs10 => ?_)
    refine Z.iload_n dX4_rate_13 2 rfl ?_
    refine bindC H (fun v2 hv2 H => ?_)
    refine Z.callV (As := [.int (x2)]) (rest := []) (st' := [.int (v2)]) dX4_rate_14 (kX2_isPicture hs10.1 (x2) M hv2) kw347 kw348 kw349 kw6 kw350 hdX2_isPicture (cS hs10.1) (c2 hs10.1) (hc := rfl) (by decide) (by decide) rfl rfl (Nat.le_of_ble_eq_true rfl) rfl ?_
    refine Z.if_neH dX4_rate_17 H (fun br17 H => ?_) (fun br17 H => ?_)
    · refine Z.iload_n dX4_rate_23 1 rfl ?_
      refine iteE H (fun e1 H => ?_) (fun e1 H => ?_)
      · refine Z.tabC (c := 1) (tgt := 60) e1 dX4_rate_24 (by decide) (by decide) rfl rfl ?_
        refine Z.aload_n dX4_rate_60 0 rfl ?_
        refine Z.iload_n dX4_rate_61 2 rfl ?_
        refine bindC H (fun v3 hv3 H => ?_)
        refine Z.callV (As := [.int (x2)]) (rest := []) (st' := [.int (v3.1)]) dX4_rate_62 (kX4_ratePosed  (x2) M hv3) kw623 kw625 ks26 kw1 kw626 hdX4_ratePosed (by decide) c4 (hc := rfl) (by decide) (by decide) rfl rfl (Nat.le_of_ble_eq_true rfl) rfl ?_
        exact Z.iret rfl dX4_rate_65 (retW H)
      refine iteE H (fun e2 H => ?_) (fun e2 H => ?_)
      · refine Z.tabC (c := 2) (tgt := 66) e2 dX4_rate_24 (by decide) (by decide) rfl rfl ?_
        refine Z.aload_n dX4_rate_66 0 rfl ?_
        refine Z.iload_n dX4_rate_67 2 rfl ?_
        refine bindC H (fun v4 hv4 H => ?_)
        refine Z.callV (As := [.int (x2)]) (rest := []) (st' := [.int (v4.1)]) dX4_rate_68 (kX4_rateCrossed  (x2) M hv4) kw632 kw634 ks28 kw1 kw635 hdX4_rateCrossed (by decide) c4 (hc := rfl) (by decide) (by decide) rfl rfl (Nat.le_of_ble_eq_true rfl) rfl ?_
        exact Z.iret rfl dX4_rate_71 (retW H)
      refine iteE H (fun e3 H => ?_) (fun e3 H => ?_)
      · refine Z.tabC (c := 3) (tgt := 72) e3 dX4_rate_24 (by decide) (by decide) rfl rfl ?_
        refine Z.aload_n dX4_rate_72 0 rfl ?_
        refine Z.iload_n dX4_rate_73 2 rfl ?_
        refine bindC H (fun v5 hv5 H => ?_)
        refine Z.callV (As := [.int (x2)]) (rest := []) (st' := [.int (v5.1)]) dX4_rate_74 (kX4_rateWaitedFor  (x2) M hv5) kw637 kw639 ks29 kw1 kw640 hdX4_rateWaitedFor (by decide) c4 (hc := rfl) (by decide) (by decide) rfl rfl (Nat.le_of_ble_eq_true rfl) rfl ?_
        exact Z.iret rfl dX4_rate_77 (retW H)
      refine iteE H (fun e4 H => ?_) (fun e4 H => ?_)
      · refine Z.tabC (c := 4) (tgt := 78) e4 dX4_rate_24 (by decide) (by decide) rfl rfl ?_
        refine Z.aload_n dX4_rate_78 0 rfl ?_
        refine Z.iload_n dX4_rate_79 2 rfl ?_
        refine bindC H (fun v6 hv6 H => ?_)
        refine Z.callV (As := [.int (x2)]) (rest := []) (st' := [.int (v6.1)]) dX4_rate_80 (kX4_rateCopied  (x2) M hv6) kw642 kw644 ks30 kw1 kw645 hdX4_rateCopied (by decide) c4 (hc := rfl) (by decide) (by decide) rfl rfl (Nat.le_of_ble_eq_true rfl) rfl ?_
        exact Z.iret rfl dX4_rate_83 (retW H)
      refine iteE H (fun e5 H => ?_) (fun e5 H => ?_)
      · refine Z.tabC (c := 5) (tgt := 84) e5 dX4_rate_24 (by decide) (by decide) rfl rfl ?_
        refine Z.aload_n dX4_rate_84 0 rfl ?_
        refine Z.iload_n dX4_rate_85 2 rfl ?_
        refine bindC H (fun v7 hv7 H => ?_)
        refine Z.callV (As := [.int (x2)]) (rest := []) (st' := [.int (v7.1)]) dX4_rate_86 (kX4_rateClocked  (x2) M hv7) kw647 kw649 ks31 kw1 kw650 hdX4_rateClocked (by decide) c4 (hc := rfl) (by decide) (by decide) rfl rfl (Nat.le_of_ble_eq_true rfl) rfl ?_
        exact Z.iret rfl dX4_rate_89 (retW H)
      refine Z.tabOut (tgt := 90) dX4_rate_24 (by have := @Int32.toInt_inj; have z1 := sw_ne (k := 1) rfl e1; have z2 := sw_ne (k := 2) rfl e2; have z3 := sw_ne (k := 3) rfl e3; have z4 := sw_ne (k := 4) rfl e4; have z5 := sw_ne (k := 5) rfl e5; omega) rfl ?_
      refine Z.aload_n dX4_rate_90 0 rfl ?_
      refine Z.iload_n dX4_rate_91 2 rfl ?_
      refine bindC H (fun v8 hv8 H => ?_)
      refine Z.callV (As := [.int (x2)]) (rest := []) (st' := [.int (v8.1)]) dX4_rate_92 (kX4_ratePicture  (x2) M hv8) kw628 kw630 ks27 kw1 kw631 hdX4_ratePicture (by decide) c4 (hc := rfl) (by decide) (by decide) rfl rfl (Nat.le_of_ble_eq_true rfl) rfl ?_
      exact Z.iret rfl dX4_rate_95 (retW H)
    · refine Z.ldc (v := (-1000000)) dX4_rate_20 kw417 ?_
      exact Z.iret rfl dX4_rate_22 (retW H)
theorem kX4_rate {l : Launch} {E : Env5}   (x1 : Int32) (x2 : Int32) (M : Mem) {v9 : Int32} {M9 : Mem} (H : fX4_rate x1 x2 M = some (v9, M9)) : Cn l E yX4_rate cX4_rate 3 (some .int) 6 [.ref (eA E (0)), .int (x1), .int (x2)] M (PR (some (.int v9)) M9) := Cn.ofZ rfl (Nat.le_of_ble_eq_true rfl) rfl (tX4_rate_0  x1 x2 M H)
theorem hdX4_rate : yX4_rate.cls ≠ "java/lang/invoke/MethodHandle" ∧ yX4_rate.cls ≠ "java/lang/invoke/VarHandle" ∧ (parseMethodDescriptor yX4_rate.desc).map (fun d => d.parameters.length) = some 2 := by decide +kernel

set_option maxRecDepth 100000 in
theorem tX4_keep_0 {l : Launch} {E : Env5}    (x1 : Int32) (M : Mem) {v9 : Int32} {M9 : Mem}  (H : fX4_keep  x1 M = some (v9, M9)) : Z l E RX4 cX4_keep 2 (some .int) 2 0 [(0, .ref (eA E (0))), (1, .int (x1))] [] M (PR (some (.int v9)) M9) := by
  unfold fX4_keep at H
  refine Z.iload_n dX4_keep_0 1 rfl ?_
  refine Z.iconst (v := 0) dX4_keep_1 (by decide) ?_
  refine Z.iconst (v := 1) dX4_keep_2 (by decide) ?_
  refine bindC H (fun v1 hv1 H => ?_)
  refine Z.callS (As := [.int (x1), .int (0), .int (1)]) (rest := []) (st' := [.int (v1)]) dX4_keep_3 (kX4_isBetween  (x1) (0) (1) M hv1) kw196 kw197 kw1 kw198 hdX4_isBetween (by decide) (by decide) rfl rfl (Nat.le_of_ble_eq_true rfl) rfl ?_
  refine Z.if_neH dX4_keep_6 H (fun br6 H => ?_) (fun br6 H => ?_)
  · refine Z.aload_n dX4_keep_11 0 rfl ?_
    refine Z.get dX4_keep_12 inX4 (hc := rfl) (by decide) c4 2 (by decide) kw169 rfl rfl ?_
    refine Z.iload_n dX4_keep_15 1 rfl ?_
    refine Z.aaldH dX4_keep_16 H (fun q2 hq2 H => ?_)
    refine Z.aload_n dX4_keep_17 0 rfl ?_
    refine Z.get dX4_keep_18 inX4 (hc := rfl) (by decide) c4 1 (by decide) kw168 rfl rfl ?_
    refine bindC H (fun v3 hv3 H => ?_)
    refine Z.callV (As := [.ref (eA E (4))]) (rest := []) (st' := []) dX4_keep_21 (kX1_become hq2 (Or.inl rfl)  M hv3) kw656 kw657 kw658 kw3 kw659 hdX1_become (cN hq2) (c1 hq2) (hc := rfl) (by decide) (by decide) rfl rfl (Nat.le_of_ble_eq_true rfl) rfl ?_
    refine Z.aload_n dX4_keep_24 0 rfl ?_
    refine Z.get dX4_keep_25 inX4 (hc := rfl) (by decide) c4 3 (by decide) kw170 rfl rfl ?_
    refine Z.iload_n dX4_keep_28 1 rfl ?_
    refine Z.iconst (v := 1) dX4_keep_29 (by decide) ?_
    refine Z.zastH dX4_keep_30 a4_kept H (fun M4 H => ?_)
    refine Z.aload_n dX4_keep_31 0 rfl ?_
    refine Z.get dX4_keep_32 inX4 (hc := rfl) (by decide) c4 1 (by decide) kw168 rfl rfl ?_
    refine Z.getN dX4_keep_35 inX1 (hc := rfl) (cN (Or.inl rfl)) (c1 (Or.inl rfl)) 4 (by decide) kn67 rfl rfl ?_
    exact Z.iret rfl dX4_keep_38 (retW H)
  · refine Z.iconst (v := (-1)) dX4_keep_9 (by decide) ?_
    exact Z.iret rfl dX4_keep_10 (retW H)
theorem kX4_keep {l : Launch} {E : Env5}   (x1 : Int32) (M : Mem) {v9 : Int32} {M9 : Mem} (H : fX4_keep x1 M = some (v9, M9)) : Cn l E yX4_keep cX4_keep 2 (some .int) 2 [.ref (eA E (0)), .int (x1)] M (PR (some (.int v9)) M9) := Cn.ofZ rfl (Nat.le_of_ble_eq_true rfl) rfl (tX4_keep_0  x1 M H)
theorem hdX4_keep : yX4_keep.cls ≠ "java/lang/invoke/MethodHandle" ∧ yX4_keep.cls ≠ "java/lang/invoke/VarHandle" ∧ (parseMethodDescriptor yX4_keep.desc).map (fun d => d.parameters.length) = some 1 := by decide +kernel

set_option maxRecDepth 100000 in
theorem tX4_back_0 {l : Launch} {E : Env5}    (x1 : Int32) (M : Mem) {v9 : Int32} {M9 : Mem}  (H : fX4_back  x1 M = some (v9, M9)) : Z l E RX4 cX4_back 2 (some .int) 2 0 [(0, .ref (eA E (0))), (1, .int (x1))] [] M (PR (some (.int v9)) M9) := by
  unfold fX4_back at H
  refine Z.iload_n dX4_back_0 1 rfl ?_
  refine Z.iconst (v := 0) dX4_back_1 (by decide) ?_
  refine Z.iconst (v := 1) dX4_back_2 (by decide) ?_
  refine bindC H (fun v1 hv1 H => ?_)
  refine Z.callS (As := [.int (x1), .int (0), .int (1)]) (rest := []) (st' := [.int (v1)]) dX4_back_3 (kX4_isBetween  (x1) (0) (1) M hv1) kw196 kw197 kw1 kw198 hdX4_isBetween (by decide) (by decide) rfl rfl (Nat.le_of_ble_eq_true rfl) rfl ?_
  refine Z.if_neH dX4_back_6 H (fun br6 H => ?_) (fun br6 H => ?_)
  · refine Z.aload_n dX4_back_11 0 rfl ?_
    refine Z.get dX4_back_12 inX4 (hc := rfl) (by decide) c4 3 (by decide) kw170 rfl rfl ?_
    refine Z.iload_n dX4_back_15 1 rfl ?_
    refine Z.zaldH dX4_back_16 a4_kept H (fun v2 H => ?_)
    refine Z.if_neH dX4_back_17 H (fun br17 H => ?_) (fun br17 H => ?_)
    · refine Z.aload_n dX4_back_23 0 rfl ?_
      refine Z.get dX4_back_24 inX4 (hc := rfl) (by decide) c4 1 (by decide) kw168 rfl rfl ?_
      refine Z.aload_n dX4_back_27 0 rfl ?_
      refine Z.get dX4_back_28 inX4 (hc := rfl) (by decide) c4 2 (by decide) kw169 rfl rfl ?_
      refine Z.iload_n dX4_back_31 1 rfl ?_
      refine Z.aaldH dX4_back_32 H (fun q3 hq3 H => ?_)
      refine bindC H (fun v4 hv4 H => ?_)
      refine Z.callV (As := [.ref (eA E (q3))]) (rest := []) (st' := []) dX4_back_33 (kX1_become (Or.inl rfl) hq3  M hv4) kw656 kw657 kw658 kw3 kw659 hdX1_become (cN (Or.inl rfl)) (c1 (Or.inl rfl)) (hc := rfl) (by decide) (by decide) rfl rfl (Nat.le_of_ble_eq_true rfl) rfl ?_
      refine Z.aload_n dX4_back_36 0 rfl ?_
      refine Z.get dX4_back_37 inX4 (hc := rfl) (by decide) c4 1 (by decide) kw168 rfl rfl ?_
      refine Z.getN dX4_back_40 inX1 (hc := rfl) (cN (Or.inl rfl)) (c1 (Or.inl rfl)) 4 (by decide) kn67 rfl rfl ?_
      exact Z.iret rfl dX4_back_43 (retW H)
    · refine Z.bipush (v := (-2)) dX4_back_20 (by decide) ?_
      exact Z.iret rfl dX4_back_22 (retW H)
  · refine Z.iconst (v := (-1)) dX4_back_9 (by decide) ?_
    exact Z.iret rfl dX4_back_10 (retW H)
theorem kX4_back {l : Launch} {E : Env5}   (x1 : Int32) (M : Mem) {v9 : Int32} {M9 : Mem} (H : fX4_back x1 M = some (v9, M9)) : Cn l E yX4_back cX4_back 2 (some .int) 2 [.ref (eA E (0)), .int (x1)] M (PR (some (.int v9)) M9) := Cn.ofZ rfl (Nat.le_of_ble_eq_true rfl) rfl (tX4_back_0  x1 M H)
theorem hdX4_back : yX4_back.cls ≠ "java/lang/invoke/MethodHandle" ∧ yX4_back.cls ≠ "java/lang/invoke/VarHandle" ∧ (parseMethodDescriptor yX4_back.desc).map (fun d => d.parameters.length) = some 1 := by decide +kernel

set_option maxRecDepth 100000 in
theorem tX4_count_0 {l : Launch} {E : Env5}    (x1 : Int32) (M : Mem) {v9 : Int32}  (H : fX4_count  x1 M = some v9) : Z l E RX4 cX4_count 2 (some .int) 0 0 [(0, .ref (eA E (0))), (1, .int (x1))] [] M (PR (some (.int v9)) M) := by
  unfold fX4_count at H
  refine Z.iload_n dX4_count_0 1 rfl ?_
  refine iteE H (fun e0 H => ?_) (fun e0 H => ?_)
  · refine Z.tabC (c := 0) (tgt := 48) e0 dX4_count_1 (by decide) (by decide) rfl rfl ?_
    refine Z.aload_n dX4_count_48 0 rfl ?_
    refine Z.get dX4_count_49 inX4 (hc := rfl) (by decide) c4 5 (by decide) kw172 rfl rfl ?_
    refine Z.wf (fun hs49 => ?_)
    refine Z.getN dX4_count_52 inX2 (hc := rfl) (cS hs49.1) (c2 hs49.1) 6 (by decide) kn127 rfl rfl ?_
    exact Z.iret rfl dX4_count_55 (retR H)
  refine iteE H (fun e1 H => ?_) (fun e1 H => ?_)
  · refine Z.tabC (c := 1) (tgt := 56) e1 dX4_count_1 (by decide) (by decide) rfl rfl ?_
    refine Z.aload_n dX4_count_56 0 rfl ?_
    refine Z.get dX4_count_57 inX4 (hc := rfl) (by decide) c4 5 (by decide) kw172 rfl rfl ?_
    refine Z.wf (fun hs57 => ?_)
    refine Z.getN dX4_count_60 inX2 (hc := rfl) (cS hs57.1) (c2 hs57.1) 7 (by decide) kn129 rfl rfl ?_
    exact Z.iret rfl dX4_count_63 (retR H)
  refine iteE H (fun e2 H => ?_) (fun e2 H => ?_)
  · refine Z.tabC (c := 2) (tgt := 64) e2 dX4_count_1 (by decide) (by decide) rfl rfl ?_
    refine Z.aload_n dX4_count_64 0 rfl ?_
    refine Z.get dX4_count_65 inX4 (hc := rfl) (by decide) c4 5 (by decide) kw172 rfl rfl ?_
    refine Z.wf (fun hs65 => ?_)
    refine Z.getN dX4_count_68 inX2 (hc := rfl) (cS hs65.1) (c2 hs65.1) 5 (by decide) kn125 rfl rfl ?_
    exact Z.iret rfl dX4_count_71 (retR H)
  refine iteE H (fun e3 H => ?_) (fun e3 H => ?_)
  · refine Z.tabC (c := 3) (tgt := 72) e3 dX4_count_1 (by decide) (by decide) rfl rfl ?_
    refine Z.aload_n dX4_count_72 0 rfl ?_
    refine Z.get dX4_count_73 inX4 (hc := rfl) (by decide) c4 1 (by decide) kw168 rfl rfl ?_
    refine Z.getN dX4_count_76 inX1 (hc := rfl) (cN (Or.inl rfl)) (c1 (Or.inl rfl)) 4 (by decide) kn67 rfl rfl ?_
    exact Z.iret rfl dX4_count_79 (retR H)
  refine iteE H (fun e4 H => ?_) (fun e4 H => ?_)
  · refine Z.tabC (c := 4) (tgt := 80) e4 dX4_count_1 (by decide) (by decide) rfl rfl ?_
    refine Z.aload_n dX4_count_80 0 rfl ?_
    refine Z.get dX4_count_81 inX4 (hc := rfl) (by decide) c4 1 (by decide) kw168 rfl rfl ?_
    refine Z.getN dX4_count_84 inX1 (hc := rfl) (cN (Or.inl rfl)) (c1 (Or.inl rfl)) 5 (by decide) kn69 rfl rfl ?_
    exact Z.iret rfl dX4_count_87 (retR H)
  refine iteE H (fun e5 H => ?_) (fun e5 H => ?_)
  · refine Z.tabC (c := 5) (tgt := 88) e5 dX4_count_1 (by decide) (by decide) rfl rfl ?_
    refine Z.aload_n dX4_count_88 0 rfl ?_
    refine Z.get dX4_count_89 inX4 (hc := rfl) (by decide) c4 0 (by decide) kw167 rfl rfl ?_
    refine Z.getN dX4_count_92 inX3 (hc := rfl) (by decide) c3 2 (by decide) kn29 rfl rfl ?_
    exact Z.iret rfl dX4_count_95 (retR H)
  refine iteE H (fun e6 H => ?_) (fun e6 H => ?_)
  · refine Z.tabC (c := 6) (tgt := 96) e6 dX4_count_1 (by decide) (by decide) rfl rfl ?_
    refine Z.aload_n dX4_count_96 0 rfl ?_
    refine Z.get dX4_count_97 inX4 (hc := rfl) (by decide) c4 5 (by decide) kw172 rfl rfl ?_
    refine Z.wf (fun hs97 => ?_)
    refine Z.getN dX4_count_100 inX2 (hc := rfl) (cS hs97.1) (c2 hs97.1) 3 (by decide) kn120 rfl rfl ?_
    exact Z.iret rfl dX4_count_103 (retR H)
  refine iteE H (fun e7 H => ?_) (fun e7 H => ?_)
  · refine Z.tabC (c := 7) (tgt := 104) e7 dX4_count_1 (by decide) (by decide) rfl rfl ?_
    refine Z.aload_n dX4_count_104 0 rfl ?_
    refine Z.get dX4_count_105 inX4 (hc := rfl) (by decide) c4 5 (by decide) kw172 rfl rfl ?_
    refine Z.wf (fun hs105 => ?_)
    refine Z.getN dX4_count_108 inX2 (hc := rfl) (cS hs105.1) (c2 hs105.1) 4 (by decide) kn123 rfl rfl ?_
    exact Z.iret rfl dX4_count_111 (retR H)
  refine Z.tabOut (tgt := 112) dX4_count_1 (by have := @Int32.toInt_inj; have z0 := sw_ne (k := 0) rfl e0; have z1 := sw_ne (k := 1) rfl e1; have z2 := sw_ne (k := 2) rfl e2; have z3 := sw_ne (k := 3) rfl e3; have z4 := sw_ne (k := 4) rfl e4; have z5 := sw_ne (k := 5) rfl e5; have z6 := sw_ne (k := 6) rfl e6; have z7 := sw_ne (k := 7) rfl e7; omega) rfl ?_
  refine Z.iconst (v := (-1)) dX4_count_112 (by decide) ?_
  exact Z.iret rfl dX4_count_113 (retR H)
theorem kX4_count {l : Launch} {E : Env5}   (x1 : Int32) (M : Mem) {v9 : Int32} (H : fX4_count x1 M = some v9) : Cn l E yX4_count cX4_count 2 (some .int) 0 [.ref (eA E (0)), .int (x1)] M (PR (some (.int v9)) M) := Cn.ofZ rfl (Nat.le_of_ble_eq_true rfl) rfl (tX4_count_0  x1 M H)
theorem hdX4_count : yX4_count.cls ≠ "java/lang/invoke/MethodHandle" ∧ yX4_count.cls ≠ "java/lang/invoke/VarHandle" ∧ (parseMethodDescriptor yX4_count.desc).map (fun d => d.parameters.length) = some 1 := by decide +kernel

set_option maxRecDepth 100000 in
theorem tX4_trace_0 {l : Launch} {E : Env5}     (M : Mem) {v9 : Int64}  (H : fX4_trace   M = some v9) : Z l E RX4 cX4_trace 1 (some .long) 0 0 [(0, .ref (eA E (0)))] [] M (PR (some (.long v9)) M) := by
  unfold fX4_trace at H
  refine Z.aload_n dX4_trace_0 0 rfl ?_
  refine Z.get dX4_trace_1 inX4 (hc := rfl) (by decide) c4 7 (by decide) kw174 rfl rfl ?_
  exact Z.lret rfl dX4_trace_4 (retRL H)
theorem kX4_trace {l : Launch} {E : Env5}    (M : Mem) {v9 : Int64} (H : fX4_trace  M = some v9) : Cn l E yX4_trace cX4_trace 1 (some .long) 0 [.ref (eA E (0))] M (PR (some (.long v9)) M) := Cn.ofZ rfl (Nat.le_of_ble_eq_true rfl) rfl (tX4_trace_0   M H)
theorem hdX4_trace : yX4_trace.cls ≠ "java/lang/invoke/MethodHandle" ∧ yX4_trace.cls ≠ "java/lang/invoke/VarHandle" ∧ (parseMethodDescriptor yX4_trace.desc).map (fun d => d.parameters.length) = some 0 := by decide +kernel

set_option maxRecDepth 100000 in
theorem tX5_in_0 {l : Launch} {E : Env5}    (x0 : Int32) (x1 : Int32) (x2 : Int32) (M : Mem) {v9 : Int32}  (H : fX5_in  x0 x1 x2 = some v9) : Z l E RX5 cX5_in 3 (some .boolean) 0 0 [(0, .int (x0)), (1, .int (x1)), (2, .int (x2))] [] M (PR (some (.int v9)) M) := by
  unfold fX5_in at H
  refine Z.iload_n dX5_in_0 0 rfl ?_
  refine Z.iload_n dX5_in_1 1 rfl ?_
  refine Z.icmp_ltH dX5_in_2 H (fun br2 H => ?_) (fun br2 H => ?_)
  · refine Z.iconst (v := 0) dX5_in_14 (by decide) ?_
    exact Z.zret rfl rfl dX5_in_15 (retR H)
  · refine Z.iload_n dX5_in_5 0 rfl ?_
    refine Z.iload_n dX5_in_6 2 rfl ?_
    refine Z.icmp_gtH dX5_in_7 H (fun br7 H => ?_) (fun br7 H => ?_)
    · refine Z.iconst (v := 0) dX5_in_14 (by decide) ?_
      exact Z.zret rfl rfl dX5_in_15 (retR H)
    · refine Z.iconst (v := 1) dX5_in_10 (by decide) ?_
      refine Z.goto dX5_in_11 ?_
      exact Z.zret rfl rfl dX5_in_15 (retR H)
theorem kX5_in {l : Launch} {E : Env5}   (x0 : Int32) (x1 : Int32) (x2 : Int32) (M : Mem) {v9 : Int32} (H : fX5_in x0 x1 x2 = some v9) : Cn l E yX5_in cX5_in 3 (some .boolean) 0 [.int (x0), .int (x1), .int (x2)] M (PR (some (.int v9)) M) := Cn.ofZ rfl (Nat.le_of_ble_eq_true rfl) rfl (tX5_in_0  x0 x1 x2 M H)
theorem hdX5_in : yX5_in.cls ≠ "java/lang/invoke/MethodHandle" ∧ yX5_in.cls ≠ "java/lang/invoke/VarHandle" ∧ (parseMethodDescriptor yX5_in.desc).map (fun d => d.parameters.length) = some 3 := by decide +kernel

set_option maxRecDepth 100000 in
theorem tX5_type_32 {l : Launch} {E : Env5}   {k32 : Int64 → Int32 → Mem → Option (Int32 × Mem)} (x1 : Int64) (x4 : Int32) (M : Mem) {v9 : Int32} {M9 : Mem} (hk32 : ∀ (x1 : Int64) (x4 : Int32) (M : Mem), k32 x1 x4 M = some (v9, M9) → Z l E RX5 cX5_type 5 (some .int) 1 32 [(0, .ref (eA E (42))), (1, .long (x1)), (4, .int (x4))] [] M (PR (some (.int v9)) M9)) (H : fX5_type_32B k32 x1 x4 M = some (v9, M9)) : Z l E RX5 cX5_type 5 (some .int) 1 32 [(0, .ref (eA E (42))), (1, .long (x1)), (4, .int (x4))] [] M (PR (some (.int v9)) M9) := by
  unfold fX5_type_32B at H
  refine Z.iload dX5_type_32 2 rfl ?_
  refine Z.if_ltH dX5_type_34 H (fun br34 H => ?_) (fun br34 H => ?_)
  · refine Z.aload_n dX5_type_75 0 rfl ?_
    refine Z.get dX5_type_76 inX5 (hc := rfl) (by decide) c5 2 (by decide) kw681 rfl rfl ?_
    exact Z.iret rfl dX5_type_79 (retW H)
  · refine Z.aload_n dX5_type_37 0 rfl ?_
    refine Z.get dX5_type_38 inX5 (hc := rfl) (by decide) c5 1 (by decide) kw680 rfl rfl ?_
    refine Z.aload_n dX5_type_41 0 rfl ?_
    refine Z.get dX5_type_42 inX5 (hc := rfl) (by decide) c5 2 (by decide) kw681 rfl rfl ?_
    refine Z.lload_n dX5_type_45 1 rfl ?_
    refine Z.bipush (v := 8) dX5_type_46 (by decide) ?_
    refine Z.iload dX5_type_48 2 rfl ?_
    refine Z.imul dX5_type_50 ?_
    refine Z.lshr dX5_type_51 ?_
    refine Z.ldc2 (v := 255) dX5_type_52 kw801 ?_
    refine Z.land dX5_type_55 ?_
    refine Z.l2i dX5_type_56 ?_
    refine Z.i2b dX5_type_57 ?_
    refine Z.bastH dX5_type_58 a5_text H (fun M1 H => ?_)
    refine Z.aload_n dX5_type_59 0 rfl ?_
    refine Z.dup dX5_type_60 rfl ?_
    refine Z.get dX5_type_61 inX5 (hc := rfl) (by decide) c5 2 (by decide) kw681 rfl rfl ?_
    refine Z.iconst (v := 1) dX5_type_64 (by decide) ?_
    refine Z.iadd dX5_type_65 ?_
    refine wE H (fun M2 eM2 H => ?_)
    refine Z.put (ty := .int) (M' := M2) dX5_type_66 inX5 tyX5_ok nmX5 (hc := rfl) (by decide) c5 2 (by decide) kw681 rfl rfl (by decide +kernel) rfl rfl (Nat.le_of_ble_eq_true rfl) (by rw [← eM2, c5, sI_k]; exact congrArg (fun q => Sum.inr (5, q)) u5_typed) (by rw [← eM2]; exact sI_o) (by rw [← eM2]; exact (fun q => q)) ?_
    refine Z.iinc (v := x4 + (-1)) (lv' := [(4, .int (x4 + (-1))), (0, .ref (eA E (42))), (1, .long (x1))]) dX5_type_69 2 rfl rfl (by decide) rfl ?_
    refine Z.goto dX5_type_72 ?_
    refine Z.sub [1, 2, 0] rfl ?_
    exact hk32 (x1) (x4 + (-1)) M2  H
theorem tX5_type_32L {l : Launch} {E : Env5}     {v9 : Int32} {M9 : Mem}  : ∀ (n : Nat) (x1 : Int64) (x4 : Int32) (M : Mem), fX5_type_32L   n x1 x4 M = some (v9, M9) → Z l E RX5 cX5_type 5 (some .int) 1 32 [(0, .ref (eA E (42))), (1, .long (x1)), (4, .int (x4))] [] M (PR (some (.int v9)) M9) := by
  intro n
  induction n with
  | zero => intro x1 x4 M H; exact absurd H (by simp [fX5_type_32L])
  | succ n ih => intro x1 x4 M H; exact tX5_type_32  x1 x4 M  (fun x1 x4 M H => ih x1 x4 M H) H
set_option maxRecDepth 100000 in
theorem tX5_type_0 {l : Launch} {E : Env5}    (x1 : Int64) (x3 : Int32) (M : Mem) {v9 : Int32} {M9 : Mem}  (H : fX5_type  x1 x3 M = some (v9, M9)) : Z l E RX5 cX5_type 5 (some .int) 1 0 [(0, .ref (eA E (42))), (1, .long (x1)), (3, .int (x3))] [] M (PR (some (.int v9)) M9) := by
  unfold fX5_type at H
  refine Z.iload_n dX5_type_0 2 rfl ?_
  refine Z.iconst (v := 1) dX5_type_1 (by decide) ?_
  refine Z.bipush (v := 8) dX5_type_2 (by decide) ?_
  refine bindC H (fun v1 hv1 H => ?_)
  refine Z.callS (As := [.int (x3), .int (1), .int (8)]) (rest := []) (st' := [.int (v1)]) dX5_type_4 (kX5_in  (x3) (1) (8) M hv1) kw798 kw799 kw7 kw800 hdX5_in (by decide) (by decide) rfl rfl (Nat.le_of_ble_eq_true rfl) rfl ?_
  refine Z.if_neH dX5_type_7 H (fun br7 H => ?_) (fun br7 H => ?_)
  · refine Z.aload_n dX5_type_12 0 rfl ?_
    refine Z.get dX5_type_13 inX5 (hc := rfl) (by decide) c5 2 (by decide) kw681 rfl rfl ?_
    refine Z.iload_n dX5_type_16 2 rfl ?_
    refine Z.iadd dX5_type_17 ?_
    refine Z.sipush (v := 400) dX5_type_18 (by decide) ?_
    refine Z.icmp_leH dX5_type_21 H (fun br21 H => ?_) (fun br21 H => ?_)
    · refine Z.iload_n dX5_type_27 2 rfl ?_
      refine Z.iconst (v := 1) dX5_type_28 (by decide) ?_
      refine Z.isub dX5_type_29 ?_
      refine Z.istore (lv' := [(4, .int (x3 - 1)), (0, .ref (eA E (42))), (1, .long (x1)), (3, .int (x3))]) dX5_type_30 (by decide) rfl ?_
      refine Z.sub [1, 2, 0] rfl ?_
      exact tX5_type_32L   FU (x1) (x3 - 1) M H
    · refine Z.bipush (v := (-3)) dX5_type_24 (by decide) ?_
      exact Z.iret rfl dX5_type_26 (retW H)
  · refine Z.iconst (v := (-1)) dX5_type_10 (by decide) ?_
    exact Z.iret rfl dX5_type_11 (retW H)
theorem kX5_type {l : Launch} {E : Env5}   (x1 : Int64) (x3 : Int32) (M : Mem) {v9 : Int32} {M9 : Mem} (H : fX5_type x1 x3 M = some (v9, M9)) : Cn l E yX5_type cX5_type 5 (some .int) 1 [.ref (eA E (42)), .long (x1), .int (x3)] M (PR (some (.int v9)) M9) := Cn.ofZ rfl (Nat.le_of_ble_eq_true rfl) rfl (tX5_type_0  x1 x3 M H)
theorem hdX5_type : yX5_type.cls ≠ "java/lang/invoke/MethodHandle" ∧ yX5_type.cls ≠ "java/lang/invoke/VarHandle" ∧ (parseMethodDescriptor yX5_type.desc).map (fun d => d.parameters.length) = some 2 := by decide +kernel

set_option maxRecDepth 100000 in
theorem tX5_clear_0 {l : Launch} {E : Env5}     (M : Mem) {v9 : Int32} {M9 : Mem}  (H : fX5_clear   M = some (v9, M9)) : Z l E RX5 cX5_clear 2 (some .int) 0 0 [(0, .ref (eA E (42)))] [] M (PR (some (.int v9)) M9) := by
  unfold fX5_clear at H
  refine Z.aload_n dX5_clear_0 0 rfl ?_
  refine Z.get dX5_clear_1 inX5 (hc := rfl) (by decide) c5 2 (by decide) kw681 rfl rfl ?_
  refine Z.istore_n (lv' := [(1, .int (M.1 42 2)), (0, .ref (eA E (42)))]) dX5_clear_4 (by decide) rfl ?_
  refine Z.aload_n dX5_clear_5 1 rfl ?_
  refine Z.iconst (v := 0) dX5_clear_6 (by decide) ?_
  refine wE H (fun M1 eM1 H => ?_)
  refine Z.put (ty := .int) (M' := M1) dX5_clear_7 inX5 tyX5_ok nmX5 (hc := rfl) (by decide) c5 2 (by decide) kw681 rfl rfl (by decide +kernel) rfl rfl (Nat.le_of_ble_eq_true rfl) (by rw [← eM1, c5, sI_k]; exact congrArg (fun q => Sum.inr (5, q)) u5_typed) (by rw [← eM1]; exact sI_o) (by rw [← eM1]; exact (fun q => q)) ?_
  refine Z.iload_n dX5_clear_10 0 rfl ?_
  exact Z.iret rfl dX5_clear_11 (retW H)
theorem kX5_clear {l : Launch} {E : Env5}    (M : Mem) {v9 : Int32} {M9 : Mem} (H : fX5_clear  M = some (v9, M9)) : Cn l E yX5_clear cX5_clear 2 (some .int) 0 [.ref (eA E (42))] M (PR (some (.int v9)) M9) := Cn.ofZ rfl (Nat.le_of_ble_eq_true rfl) rfl (tX5_clear_0   M H)
theorem hdX5_clear : yX5_clear.cls ≠ "java/lang/invoke/MethodHandle" ∧ yX5_clear.cls ≠ "java/lang/invoke/VarHandle" ∧ (parseMethodDescriptor yX5_clear.desc).map (fun d => d.parameters.length) = some 0 := by decide +kernel

set_option maxRecDepth 100000 in
theorem tX5_here_0 {l : Launch} {E : Env5}     (M : Mem) {v9 : Int32}  (H : fX5_here   M = some v9) : Z l E RX5 cX5_here 1 (some .int) 0 0 [(0, .ref (eA E (42)))] [] M (PR (some (.int v9)) M) := by
  unfold fX5_here at H
  refine Z.aload_n dX5_here_0 0 rfl ?_
  refine Z.get dX5_here_1 inX5 (hc := rfl) (by decide) c5 10 (by decide) kw689 rfl rfl ?_
  refine Z.aload_n dX5_here_4 0 rfl ?_
  refine Z.get dX5_here_5 inX5 (hc := rfl) (by decide) c5 2 (by decide) kw681 rfl rfl ?_
  refine Z.icmp_geH dX5_here_8 H (fun br8 H => ?_) (fun br8 H => ?_)
  · refine Z.iconst (v := (-1)) dX5_here_27 (by decide) ?_
    exact Z.iret rfl dX5_here_28 (retR H)
  · refine Z.aload_n dX5_here_11 0 rfl ?_
    refine Z.get dX5_here_12 inX5 (hc := rfl) (by decide) c5 1 (by decide) kw680 rfl rfl ?_
    refine Z.aload_n dX5_here_15 0 rfl ?_
    refine Z.get dX5_here_16 inX5 (hc := rfl) (by decide) c5 10 (by decide) kw689 rfl rfl ?_
    refine Z.baldH dX5_here_19 a5_text H (fun v1 H => ?_)
    refine Z.sipush (v := 255) dX5_here_20 (by decide) ?_
    refine Z.iand dX5_here_23 ?_
    refine Z.goto dX5_here_24 ?_
    exact Z.iret rfl dX5_here_28 (retR H)
theorem kX5_here {l : Launch} {E : Env5}    (M : Mem) {v9 : Int32} (H : fX5_here  M = some v9) : Cn l E yX5_here cX5_here 1 (some .int) 0 [.ref (eA E (42))] M (PR (some (.int v9)) M) := Cn.ofZ rfl (Nat.le_of_ble_eq_true rfl) rfl (tX5_here_0   M H)
theorem hdX5_here : yX5_here.cls ≠ "java/lang/invoke/MethodHandle" ∧ yX5_here.cls ≠ "java/lang/invoke/VarHandle" ∧ (parseMethodDescriptor yX5_here.desc).map (fun d => d.parameters.length) = some 0 := by decide +kernel

set_option maxRecDepth 100000 in
theorem tX5_meaning_0 {l : Launch} {E : Env5}    (x0 : Int32) (x1 : Int32) (M : Mem) {v9 : Int32}  (H : fX5_meaning  x0 x1 = some v9) : Z l E RX5 cX5_meaning 2 (some .int) 0 0 [(0, .int (x0)), (1, .int (x1))] [] M (PR (some (.int v9)) M) := by
  unfold fX5_meaning at H
  refine Z.iload_n dX5_meaning_0 1 rfl ?_
  refine Z.if_leH dX5_meaning_1 H (fun br1 H => ?_) (fun br1 H => ?_)
  · refine Z.iload_n dX5_meaning_22 0 rfl ?_
    refine iteE H (fun e453774 H => ?_) (fun e453774 H => ?_)
    · refine Z.look (tgt := 58) dX5_meaning_23 (by decide) (show _ = (35 : Int) from by rw [e453774]; decide) rfl ?_
      refine Z.iconst (v := 1) dX5_meaning_58 (by decide) ?_
      exact Z.iret rfl dX5_meaning_59 (retR H)
    refine iteE H (fun e232608281 H => ?_) (fun e232608281 H => ?_)
    · refine Z.look (tgt := 60) dX5_meaning_23 (by decide) (show _ = (37 : Int) from by rw [e232608281]; decide) rfl ?_
      refine Z.iconst (v := 2) dX5_meaning_60 (by decide) ?_
      exact Z.iret rfl dX5_meaning_61 (retR H)
    refine iteE H (fun e282078293 H => ?_) (fun e282078293 H => ?_)
    · refine Z.look (tgt := 56) dX5_meaning_23 (by decide) (show _ = (33 : Int) from by rw [e282078293]; decide) rfl ?_
      refine Z.iconst (v := 0) dX5_meaning_56 (by decide) ?_
      exact Z.iret rfl dX5_meaning_57 (retR H)
    refine Z.look (tgt := 62) dX5_meaning_23 (by decide) (show _ = (39 : Int) from by have z453774 := sw_ne (k := 453774) rfl e453774; have z232608281 := sw_ne (k := 232608281) rfl e232608281; have z282078293 := sw_ne (k := 282078293) rfl e282078293; simp [Op.lookupswitch.offset, Ne.symm z453774, Ne.symm z232608281, Ne.symm z282078293]) rfl ?_
    refine Z.bipush (v := 7) dX5_meaning_62 (by decide) ?_
    exact Z.iret rfl dX5_meaning_64 (retR H)
  · refine Z.iload_n dX5_meaning_4 0 rfl ?_
    refine Z.ldc (v := 234439695) dX5_meaning_5 kw821 ?_
    refine Z.icmp_neH dX5_meaning_7 H (fun br7 H => ?_) (fun br7 H => ?_)
    · refine Z.bipush (v := 7) dX5_meaning_19 (by decide) ?_
      exact Z.iret rfl dX5_meaning_21 (retR H)
    · refine Z.iload_n dX5_meaning_10 1 rfl ?_
      refine Z.iconst (v := 5) dX5_meaning_11 (by decide) ?_
      refine Z.icmp_neH dX5_meaning_12 H (fun br12 H => ?_) (fun br12 H => ?_)
      · refine Z.bipush (v := 7) dX5_meaning_19 (by decide) ?_
        exact Z.iret rfl dX5_meaning_21 (retR H)
      · refine Z.iconst (v := 3) dX5_meaning_15 (by decide) ?_
        refine Z.goto dX5_meaning_16 ?_
        exact Z.iret rfl dX5_meaning_21 (retR H)
theorem kX5_meaning {l : Launch} {E : Env5}   (x0 : Int32) (x1 : Int32) (M : Mem) {v9 : Int32} (H : fX5_meaning x0 x1 = some v9) : Cn l E yX5_meaning cX5_meaning 2 (some .int) 0 [.int (x0), .int (x1)] M (PR (some (.int v9)) M) := Cn.ofZ rfl (Nat.le_of_ble_eq_true rfl) rfl (tX5_meaning_0  x0 x1 M H)
theorem hdX5_meaning : yX5_meaning.cls ≠ "java/lang/invoke/MethodHandle" ∧ yX5_meaning.cls ≠ "java/lang/invoke/VarHandle" ∧ (parseMethodDescriptor yX5_meaning.desc).map (fun d => d.parameters.length) = some 2 := by decide +kernel

set_option maxRecDepth 100000 in
theorem tX5_next_280 {l : Launch} {E : Env5}    (s0 : Int32) (M : Mem) {M9 : Mem}  (H : fX5_next_280  s0 M = some M9) : Z l E RX5 cX5_next 5 none 1 280 [] [.int (s0), .ref (eA E (42))] M (PR none M9) := by
  unfold fX5_next_280 at H
  refine wE H (fun M1 eM1 H => ?_)
  refine Z.put (ty := .int) (M' := M1) dX5_next_280 inX5 tyX5_ok nmX5 (hc := rfl) (by decide) c5 12 (by decide) kw691 rfl rfl (by decide +kernel) rfl rfl (Nat.le_of_ble_eq_true rfl) (by rw [← eM1, c5, sI_k]; exact congrArg (fun q => Sum.inr (5, q)) u5_sort) (by rw [← eM1]; exact sI_o) (by rw [← eM1]; exact (fun q => q)) ?_
  refine Z.goto dX5_next_283 ?_
  exact Z.vret rfl dX5_next_313 (retV H)
set_option maxRecDepth 100000 in
theorem tX5_next_279 {l : Launch} {E : Env5}     (M : Mem) {M9 : Mem}  (H : fX5_next_279   M = some M9) : Z l E RX5 cX5_next 5 none 1 279 [] [.ref (eA E (42))] M (PR none M9) := by
  unfold fX5_next_279 at H
  refine Z.iconst (v := 5) dX5_next_279 (by decide) ?_
  refine Z.sub [] rfl ?_
  exact tX5_next_280  (5) M  H
set_option maxRecDepth 100000 in
theorem tX5_next_274 {l : Launch} {E : Env5}     (M : Mem) {M9 : Mem}  (H : fX5_next_274   M = some M9) : Z l E RX5 cX5_next 5 none 1 274 [] [.ref (eA E (42))] M (PR none M9) := by
  unfold fX5_next_274 at H
  refine Z.bipush (v := 7) dX5_next_274 (by decide) ?_
  refine Z.goto dX5_next_276 ?_
  refine Z.sub [] rfl ?_
  exact tX5_next_280  (7) M  H
set_option maxRecDepth 100000 in
theorem tX5_next_229 {l : Launch} {E : Env5}   {k183 : Int32 → Mem → Option Mem} (x1 : Int32) (s0 : Int32) (M : Mem) {M9 : Mem} (hk183 : ∀ (x1 : Int32) (M : Mem), k183 x1 M = some M9 → Z l E RX5 cX5_next 5 none 1 183 [(0, .ref (eA E (42))), (1, .int (x1))] [] M (PR none M9)) (H : fX5_next_229 k183 x1 s0 M = some M9) : Z l E RX5 cX5_next 5 none 1 229 [(0, .ref (eA E (42))), (1, .int (x1))] [.int (s0), .ref (eA E (42))] M (PR none M9) := by
  unfold fX5_next_229 at H
  refine wE H (fun M1 eM1 H => ?_)
  refine Z.put (ty := .int) (M' := M1) dX5_next_229 inX5 tyX5_ok nmX5 (hc := rfl) (by decide) c5 13 (by decide) kw692 rfl rfl (by decide +kernel) rfl rfl (Nat.le_of_ble_eq_true rfl) (by rw [← eM1, c5, sI_k]; exact congrArg (fun q => Sum.inr (5, q)) u5_value) (by rw [← eM1]; exact sI_o) (by rw [← eM1]; exact (fun q => q)) ?_
  refine Z.aload_n dX5_next_232 0 rfl ?_
  refine Z.dup dX5_next_233 rfl ?_
  refine Z.get dX5_next_234 inX5 (hc := rfl) (by decide) c5 10 (by decide) kw689 rfl rfl ?_
  refine Z.iconst (v := 1) dX5_next_237 (by decide) ?_
  refine Z.iadd dX5_next_238 ?_
  refine wE H (fun M2 eM2 H => ?_)
  refine Z.put (ty := .int) (M' := M2) dX5_next_239 inX5 tyX5_ok nmX5 (hc := rfl) (by decide) c5 10 (by decide) kw689 rfl rfl (by decide +kernel) rfl rfl (Nat.le_of_ble_eq_true rfl) (by rw [← eM2, c5, sI_k]; exact congrArg (fun q => Sum.inr (5, q)) u5_at) (by rw [← eM2]; exact sI_o) (by rw [← eM2]; exact (fun q => q)) ?_
  refine Z.goto dX5_next_242 ?_
  refine Z.sub [0, 1] rfl ?_
  exact hk183 (x1) M2  H
set_option maxRecDepth 100000 in
theorem tX5_next_183 {l : Launch} {E : Env5}   {k183 : Int32 → Mem → Option Mem} (x1 : Int32) (M : Mem) {M9 : Mem} (hk183 : ∀ (x1 : Int32) (M : Mem), k183 x1 M = some M9 → Z l E RX5 cX5_next 5 none 1 183 [(0, .ref (eA E (42))), (1, .int (x1))] [] M (PR none M9)) (H : fX5_next_183B k183 x1 M = some M9) : Z l E RX5 cX5_next 5 none 1 183 [(0, .ref (eA E (42))), (1, .int (x1))] [] M (PR none M9) := by
  unfold fX5_next_183B at H
  refine Z.aload_n dX5_next_183 0 rfl ?_
  refine bindC H (fun v1 hv1 H => ?_)
  refine Z.callV (As := []) (rest := []) (st' := [.int (v1)]) dX5_next_184 (kX5_here   M hv1) kw814 kw816 ks33 kw7 kw817 hdX5_here (by decide) c5 (hc := rfl) (by decide) (by decide) rfl rfl (Nat.le_of_ble_eq_true rfl) rfl ?_
  refine Z.bipush (v := 48) dX5_next_187 (by decide) ?_
  refine Z.bipush (v := 57) dX5_next_189 (by decide) ?_
  refine bindC H (fun v2 hv2 H => ?_)
  refine Z.callS (As := [.int (v1), .int (48), .int (57)]) (rest := []) (st' := [.int (v2)]) dX5_next_191 (kX5_in  (v1) (48) (57) M hv2) kw798 kw799 kw7 kw800 hdX5_in (by decide) (by decide) rfl rfl (Nat.le_of_ble_eq_true rfl) rfl ?_
  refine Z.if_eqH dX5_next_194 H (fun br194 H => ?_) (fun br194 H => ?_)
  · refine Z.aload_n dX5_next_245 0 rfl ?_
    refine Z.aload_n dX5_next_246 0 rfl ?_
    refine Z.get dX5_next_247 inX5 (hc := rfl) (by decide) c5 13 (by decide) kw692 rfl rfl ?_
    refine Z.bipush (v := 99) dX5_next_250 (by decide) ?_
    refine Z.icmp_gtH dX5_next_252 H (fun br252 H => ?_) (fun br252 H => ?_)
    · refine Z.sub [] rfl ?_
      exact tX5_next_274   M  H
    · refine Z.iload_n dX5_next_255 1 rfl ?_
      refine Z.bipush (v := 48) dX5_next_256 (by decide) ?_
      refine Z.icmp_neH dX5_next_258 H (fun br258 H => ?_) (fun br258 H => ?_)
      · refine Z.sub [] rfl ?_
        exact tX5_next_279   M  H
      · refine Z.aload_n dX5_next_261 0 rfl ?_
        refine Z.get dX5_next_262 inX5 (hc := rfl) (by decide) c5 10 (by decide) kw689 rfl rfl ?_
        refine Z.aload_n dX5_next_265 0 rfl ?_
        refine Z.get dX5_next_266 inX5 (hc := rfl) (by decide) c5 11 (by decide) kw690 rfl rfl ?_
        refine Z.isub dX5_next_269 ?_
        refine Z.iconst (v := 1) dX5_next_270 (by decide) ?_
        refine Z.icmp_leH dX5_next_271 H (fun br271 H => ?_) (fun br271 H => ?_)
        · refine Z.sub [] rfl ?_
          exact tX5_next_279   M  H
        · refine Z.sub [] rfl ?_
          exact tX5_next_274   M  H
  · refine Z.aload_n dX5_next_197 0 rfl ?_
    refine Z.aload_n dX5_next_198 0 rfl ?_
    refine Z.get dX5_next_199 inX5 (hc := rfl) (by decide) c5 13 (by decide) kw692 rfl rfl ?_
    refine Z.bipush (v := 99) dX5_next_202 (by decide) ?_
    refine Z.icmp_leH dX5_next_204 H (fun br204 H => ?_) (fun br204 H => ?_)
    · refine Z.bipush (v := 10) dX5_next_214 (by decide) ?_
      refine Z.aload_n dX5_next_216 0 rfl ?_
      refine Z.get dX5_next_217 inX5 (hc := rfl) (by decide) c5 13 (by decide) kw692 rfl rfl ?_
      refine Z.imul dX5_next_220 ?_
      refine Z.aload_n dX5_next_221 0 rfl ?_
      refine bindC H (fun v3 hv3 H => ?_)
      refine Z.callV (As := []) (rest := [.int (10 * (M.1 42 13)), .ref (eA E (42))]) (st' := [.int (v3), .int (10 * (M.1 42 13)), .ref (eA E (42))]) dX5_next_222 (kX5_here   M hv3) kw814 kw816 ks33 kw7 kw817 hdX5_here (by decide) c5 (hc := rfl) (by decide) (by decide) rfl rfl (Nat.le_of_ble_eq_true rfl) rfl ?_
      refine Z.iadd dX5_next_225 ?_
      refine Z.bipush (v := 48) dX5_next_226 (by decide) ?_
      refine Z.isub dX5_next_228 ?_
      refine Z.sub [0, 1] rfl ?_
      exact tX5_next_229  (x1) (((10 * (M.1 42 13)) + v3) - 48) M hk183 H
    · refine Z.aload_n dX5_next_207 0 rfl ?_
      refine Z.get dX5_next_208 inX5 (hc := rfl) (by decide) c5 13 (by decide) kw692 rfl rfl ?_
      refine Z.goto dX5_next_211 ?_
      refine Z.sub [0, 1] rfl ?_
      exact tX5_next_229  (x1) (M.1 42 13) M hk183 H
theorem tX5_next_183L {l : Launch} {E : Env5}     {M9 : Mem}  : ∀ (n : Nat) (x1 : Int32) (M : Mem), fX5_next_183L   n x1 M = some M9 → Z l E RX5 cX5_next 5 none 1 183 [(0, .ref (eA E (42))), (1, .int (x1))] [] M (PR none M9) := by
  intro n
  induction n with
  | zero => intro x1 M H; exact absurd H (by simp [fX5_next_183L])
  | succ n ih => intro x1 M H; exact tX5_next_183  x1 M  (fun x1 M H => ih x1 M H) H
set_option maxRecDepth 100000 in
theorem tX5_next_146 {l : Launch} {E : Env5}   {k67 : Int32 → Int32 → Mem → Option Mem} (x2 : Int32) (s0 : Int32) (M : Mem) {M9 : Mem} (hk67 : ∀ (x2 : Int32) (x3 : Int32) (M : Mem), k67 x2 x3 M = some M9 → Z l E RX5 cX5_next 5 none 1 67 [(0, .ref (eA E (42))), (2, .int (x2)), (3, .int (x3))] [] M (PR none M9)) (H : fX5_next_146 k67 x2 s0 M = some M9) : Z l E RX5 cX5_next 5 none 1 146 [(0, .ref (eA E (42))), (2, .int (x2))] [.int (s0)] M (PR none M9) := by
  unfold fX5_next_146 at H
  refine Z.istore_n (lv' := [(3, .int (s0)), (0, .ref (eA E (42))), (2, .int (x2))]) dX5_next_146 (by decide) rfl ?_
  refine Z.aload_n dX5_next_147 1 rfl ?_
  refine Z.dup dX5_next_148 rfl ?_
  refine Z.get dX5_next_149 inX5 (hc := rfl) (by decide) c5 10 (by decide) kw689 rfl rfl ?_
  refine Z.iconst (v := 1) dX5_next_152 (by decide) ?_
  refine Z.iadd dX5_next_153 ?_
  refine wE H (fun M1 eM1 H => ?_)
  refine Z.put (ty := .int) (M' := M1) dX5_next_154 inX5 tyX5_ok nmX5 (hc := rfl) (by decide) c5 10 (by decide) kw689 rfl rfl (by decide +kernel) rfl rfl (Nat.le_of_ble_eq_true rfl) (by rw [← eM1, c5, sI_k]; exact congrArg (fun q => Sum.inr (5, q)) u5_at) (by rw [← eM1]; exact sI_o) (by rw [← eM1]; exact (fun q => q)) ?_
  refine Z.goto dX5_next_157 ?_
  refine Z.sub [1, 2, 0] rfl ?_
  exact hk67 (x2) (s0) M1  H
set_option maxRecDepth 100000 in
theorem tX5_next_115 {l : Launch} {E : Env5}   {k67 : Int32 → Int32 → Mem → Option Mem} (x3 : Int32) (x4 : Int32) (s0 : Int32) (M : Mem) {M9 : Mem} (hk67 : ∀ (x2 : Int32) (x3 : Int32) (M : Mem), k67 x2 x3 M = some M9 → Z l E RX5 cX5_next 5 none 1 67 [(0, .ref (eA E (42))), (2, .int (x2)), (3, .int (x3))] [] M (PR none M9)) (H : fX5_next_115 k67 x3 x4 s0 M = some M9) : Z l E RX5 cX5_next 5 none 1 115 [(0, .ref (eA E (42))), (3, .int (x3)), (4, .int (x4))] [.int (s0)] M (PR none M9) := by
  unfold fX5_next_115 at H
  refine Z.istore_n (lv' := [(2, .int (s0)), (0, .ref (eA E (42))), (3, .int (x3)), (4, .int (x4))]) dX5_next_115 (by decide) rfl ?_
  refine Z.iload dX5_next_116 3 rfl ?_
  refine Z.bipush (v := 6) dX5_next_118 (by decide) ?_
  refine Z.icmp_neH dX5_next_120 H (fun br120 H => ?_) (fun br120 H => ?_)
  · refine Z.iload dX5_next_133 3 rfl ?_
    refine Z.bipush (v := 6) dX5_next_135 (by decide) ?_
    refine Z.icmp_leH dX5_next_137 H (fun br137 H => ?_) (fun br137 H => ?_)
    · refine Z.iload_n dX5_next_145 2 rfl ?_
      refine Z.sub [1, 0] rfl ?_
      exact tX5_next_146  (s0) (x3) M hk67 H
    · refine Z.bipush (v := 99) dX5_next_140 (by decide) ?_
      refine Z.goto dX5_next_142 ?_
      refine Z.sub [1, 0] rfl ?_
      exact tX5_next_146  (s0) (99) M hk67 H
  · refine Z.aload_n dX5_next_123 1 rfl ?_
    refine bindC H (fun v1 hv1 H => ?_)
    refine Z.callV (As := []) (rest := []) (st' := [.int (v1)]) dX5_next_124 (kX5_here   M hv1) kw814 kw816 ks33 kw7 kw817 hdX5_here (by decide) c5 (hc := rfl) (by decide) (by decide) rfl rfl (Nat.le_of_ble_eq_true rfl) rfl ?_
    refine Z.bipush (v := 96) dX5_next_127 (by decide) ?_
    refine Z.isub dX5_next_129 ?_
    refine Z.goto dX5_next_130 ?_
    refine Z.sub [1, 0] rfl ?_
    exact tX5_next_146  (s0) (v1 - 96) M hk67 H
set_option maxRecDepth 100000 in
theorem tX5_next_67 {l : Launch} {E : Env5}   {k67 : Int32 → Int32 → Mem → Option Mem} (x2 : Int32) (x3 : Int32) (M : Mem) {M9 : Mem} (hk67 : ∀ (x2 : Int32) (x3 : Int32) (M : Mem), k67 x2 x3 M = some M9 → Z l E RX5 cX5_next 5 none 1 67 [(0, .ref (eA E (42))), (2, .int (x2)), (3, .int (x3))] [] M (PR none M9)) (H : fX5_next_67B k67 x2 x3 M = some M9) : Z l E RX5 cX5_next 5 none 1 67 [(0, .ref (eA E (42))), (2, .int (x2)), (3, .int (x3))] [] M (PR none M9) := by
  unfold fX5_next_67B at H
  refine Z.aload_n dX5_next_67 0 rfl ?_
  refine bindC H (fun v1 hv1 H => ?_)
  refine Z.callV (As := []) (rest := []) (st' := [.int (v1)]) dX5_next_68 (kX5_here   M hv1) kw814 kw816 ks33 kw7 kw817 hdX5_here (by decide) c5 (hc := rfl) (by decide) (by decide) rfl rfl (Nat.le_of_ble_eq_true rfl) rfl ?_
  refine Z.bipush (v := 97) dX5_next_71 (by decide) ?_
  refine Z.bipush (v := 122) dX5_next_73 (by decide) ?_
  refine bindC H (fun v2 hv2 H => ?_)
  refine Z.callS (As := [.int (v1), .int (97), .int (122)]) (rest := []) (st' := [.int (v2)]) dX5_next_75 (kX5_in  (v1) (97) (122) M hv2) kw798 kw799 kw7 kw800 hdX5_in (by decide) (by decide) rfl rfl (Nat.le_of_ble_eq_true rfl) rfl ?_
  refine Z.if_eqH dX5_next_78 H (fun br78 H => ?_) (fun br78 H => ?_)
  · refine Z.aload_n dX5_next_160 0 rfl ?_
    refine Z.iload_n dX5_next_161 1 rfl ?_
    refine Z.iload_n dX5_next_162 2 rfl ?_
    refine bindC H (fun v3 hv3 H => ?_)
    refine Z.callS (As := [.int (x2), .int (x3)]) (rest := [.ref (eA E (42))]) (st' := [.int (v3), .ref (eA E (42))]) dX5_next_163 (kX5_meaning  (x2) (x3) M hv3) kw818 kw819 kw7 kw820 hdX5_meaning (by decide) (by decide) rfl rfl (Nat.le_of_ble_eq_true rfl) rfl ?_
    refine wE H (fun M4 eM4 H => ?_)
    refine Z.put (ty := .int) (M' := M4) dX5_next_166 inX5 tyX5_ok nmX5 (hc := rfl) (by decide) c5 12 (by decide) kw691 rfl rfl (by decide +kernel) rfl rfl (Nat.le_of_ble_eq_true rfl) (by rw [← eM4, c5, sI_k]; exact congrArg (fun q => Sum.inr (5, q)) u5_sort) (by rw [← eM4]; exact sI_o) (by rw [← eM4]; exact (fun q => q)) ?_
    refine Z.goto dX5_next_169 ?_
    exact Z.vret rfl dX5_next_313 (retV H)
  · refine Z.aload_n dX5_next_81 0 rfl ?_
    refine Z.get dX5_next_82 inX5 (hc := rfl) (by decide) c5 10 (by decide) kw689 rfl rfl ?_
    refine Z.aload_n dX5_next_85 0 rfl ?_
    refine Z.get dX5_next_86 inX5 (hc := rfl) (by decide) c5 11 (by decide) kw690 rfl rfl ?_
    refine Z.isub dX5_next_89 ?_
    refine Z.istore (lv' := [(4, .int ((M.1 42 10) - (M.1 42 11))), (0, .ref (eA E (42))), (2, .int (x2)), (3, .int (x3))]) dX5_next_90 (by decide) rfl ?_
    refine Z.iload dX5_next_92 0 rfl ?_
    refine Z.bipush (v := 6) dX5_next_94 (by decide) ?_
    refine Z.icmp_geH dX5_next_96 H (fun br96 H => ?_) (fun br96 H => ?_)
    · refine Z.iload_n dX5_next_114 2 rfl ?_
      refine Z.sub [1, 3, 0] rfl ?_
      exact tX5_next_115  (x3) ((M.1 42 10) - (M.1 42 11)) (x2) M hk67 H
    · refine Z.bipush (v := 27) dX5_next_99 (by decide) ?_
      refine Z.iload_n dX5_next_101 2 rfl ?_
      refine Z.imul dX5_next_102 ?_
      refine Z.aload_n dX5_next_103 1 rfl ?_
      refine bindC H (fun v5 hv5 H => ?_)
      refine Z.callV (As := []) (rest := [.int (27 * x2)]) (st' := [.int (v5), .int (27 * x2)]) dX5_next_104 (kX5_here   M hv5) kw814 kw816 ks33 kw7 kw817 hdX5_here (by decide) c5 (hc := rfl) (by decide) (by decide) rfl rfl (Nat.le_of_ble_eq_true rfl) rfl ?_
      refine Z.iadd dX5_next_107 ?_
      refine Z.bipush (v := 96) dX5_next_108 (by decide) ?_
      refine Z.isub dX5_next_110 ?_
      refine Z.goto dX5_next_111 ?_
      refine Z.sub [1, 3, 0] rfl ?_
      exact tX5_next_115  (x3) ((M.1 42 10) - (M.1 42 11)) (((27 * x2) + v5) - 96) M hk67 H
theorem tX5_next_67L {l : Launch} {E : Env5}     {M9 : Mem}  : ∀ (n : Nat) (x2 : Int32) (x3 : Int32) (M : Mem), fX5_next_67L   n x2 x3 M = some M9 → Z l E RX5 cX5_next 5 none 1 67 [(0, .ref (eA E (42))), (2, .int (x2)), (3, .int (x3))] [] M (PR none M9) := by
  intro n
  induction n with
  | zero => intro x2 x3 M H; exact absurd H (by simp [fX5_next_67L])
  | succ n ih => intro x2 x3 M H; exact tX5_next_67  x2 x3 M  (fun x2 x3 M H => ih x2 x3 M H) H
set_option maxRecDepth 100000 in
theorem tX5_next_0 {l : Launch} {E : Env5}   {k0 : Mem → Option Mem}  (M : Mem) {M9 : Mem} (hk0 : ∀  (M : Mem), k0  M = some M9 → Z l E RX5 cX5_next 5 none 1 0 [(0, .ref (eA E (42)))] [] M (PR none M9)) (H : fX5_next_0B k0  M = some M9) : Z l E RX5 cX5_next 5 none 1 0 [(0, .ref (eA E (42)))] [] M (PR none M9) := by
  unfold fX5_next_0B at H
  refine Z.aload_n dX5_next_0 0 rfl ?_
  refine bindC H (fun v1 hv1 H => ?_)
  refine Z.callV (As := []) (rest := []) (st' := [.int (v1)]) dX5_next_1 (kX5_here   M hv1) kw814 kw816 ks33 kw7 kw817 hdX5_here (by decide) c5 (hc := rfl) (by decide) (by decide) rfl rfl (Nat.le_of_ble_eq_true rfl) rfl ?_
  refine Z.bipush (v := 32) dX5_next_4 (by decide) ?_
  refine Z.icmp_neH dX5_next_6 H (fun br6 H => ?_) (fun br6 H => ?_)
  · refine Z.aload_n dX5_next_22 0 rfl ?_
    refine Z.aload_n dX5_next_23 0 rfl ?_
    refine Z.get dX5_next_24 inX5 (hc := rfl) (by decide) c5 10 (by decide) kw689 rfl rfl ?_
    refine wE H (fun M2 eM2 H => ?_)
    refine Z.put (ty := .int) (M' := M2) dX5_next_27 inX5 tyX5_ok nmX5 (hc := rfl) (by decide) c5 11 (by decide) kw690 rfl rfl (by decide +kernel) rfl rfl (Nat.le_of_ble_eq_true rfl) (by rw [← eM2, c5, sI_k]; exact congrArg (fun q => Sum.inr (5, q)) u5_start) (by rw [← eM2]; exact sI_o) (by rw [← eM2]; exact (fun q => q)) ?_
    refine Z.aload_n dX5_next_30 0 rfl ?_
    refine Z.iconst (v := 0) dX5_next_31 (by decide) ?_
    refine wE H (fun M3 eM3 H => ?_)
    refine Z.put (ty := .int) (M' := M3) dX5_next_32 inX5 tyX5_ok nmX5 (hc := rfl) (by decide) c5 13 (by decide) kw692 rfl rfl (by decide +kernel) rfl rfl (Nat.le_of_ble_eq_true rfl) (by rw [← eM3, c5, sI_k]; exact congrArg (fun q => Sum.inr (5, q)) u5_value) (by rw [← eM3]; exact sI_o) (by rw [← eM3]; exact (fun q => q)) ?_
    refine Z.aload_n dX5_next_35 0 rfl ?_
    refine bindC H (fun v4 hv4 H => ?_)
    refine Z.callV (As := []) (rest := []) (st' := [.int (v4)]) dX5_next_36 (kX5_here   M3 hv4) kw814 kw816 ks33 kw7 kw817 hdX5_here (by decide) c5 (hc := rfl) (by decide) (by decide) rfl rfl (Nat.le_of_ble_eq_true rfl) rfl ?_
    refine Z.istore_n (lv' := [(1, .int (v4)), (0, .ref (eA E (42)))]) dX5_next_39 (by decide) rfl ?_
    refine Z.iload_n dX5_next_40 0 rfl ?_
    refine Z.if_geH dX5_next_41 H (fun br41 H => ?_) (fun br41 H => ?_)
    · refine Z.iload_n dX5_next_52 0 rfl ?_
      refine Z.bipush (v := 97) dX5_next_53 (by decide) ?_
      refine Z.bipush (v := 122) dX5_next_55 (by decide) ?_
      refine bindC H (fun v5 hv5 H => ?_)
      refine Z.callS (As := [.int (v4), .int (97), .int (122)]) (rest := []) (st' := [.int (v5)]) dX5_next_57 (kX5_in  (v4) (97) (122) M3 hv5) kw798 kw799 kw7 kw800 hdX5_in (by decide) (by decide) rfl rfl (Nat.le_of_ble_eq_true rfl) rfl ?_
      refine Z.if_eqH dX5_next_60 H (fun br60 H => ?_) (fun br60 H => ?_)
      · refine Z.iload_n dX5_next_172 0 rfl ?_
        refine Z.bipush (v := 48) dX5_next_173 (by decide) ?_
        refine Z.bipush (v := 57) dX5_next_175 (by decide) ?_
        refine bindC H (fun v6 hv6 H => ?_)
        refine Z.callS (As := [.int (v4), .int (48), .int (57)]) (rest := []) (st' := [.int (v6)]) dX5_next_177 (kX5_in  (v4) (48) (57) M3 hv6) kw798 kw799 kw7 kw800 hdX5_in (by decide) (by decide) rfl rfl (Nat.le_of_ble_eq_true rfl) rfl ?_
        refine Z.if_eqH dX5_next_180 H (fun br180 H => ?_) (fun br180 H => ?_)
        · refine Z.aload_n dX5_next_286 1 rfl ?_
          refine Z.dup dX5_next_287 rfl ?_
          refine Z.get dX5_next_288 inX5 (hc := rfl) (by decide) c5 10 (by decide) kw689 rfl rfl ?_
          refine Z.iconst (v := 1) dX5_next_291 (by decide) ?_
          refine Z.iadd dX5_next_292 ?_
          refine wE H (fun M7 eM7 H => ?_)
          refine Z.put (ty := .int) (M' := M7) dX5_next_293 inX5 tyX5_ok nmX5 (hc := rfl) (by decide) c5 10 (by decide) kw689 rfl rfl (by decide +kernel) rfl rfl (Nat.le_of_ble_eq_true rfl) (by rw [← eM7, c5, sI_k]; exact congrArg (fun q => Sum.inr (5, q)) u5_at) (by rw [← eM7]; exact sI_o) (by rw [← eM7]; exact (fun q => q)) ?_
          refine Z.aload_n dX5_next_296 1 rfl ?_
          refine Z.iload_n dX5_next_297 0 rfl ?_
          refine Z.bipush (v := 59) dX5_next_298 (by decide) ?_
          refine Z.icmp_neH dX5_next_300 H (fun br300 H => ?_) (fun br300 H => ?_)
          · refine Z.bipush (v := 7) dX5_next_308 (by decide) ?_
            refine wE H (fun M8 eM8 H => ?_)
            refine Z.put (ty := .int) (M' := M8) dX5_next_310 inX5 tyX5_ok nmX5 (hc := rfl) (by decide) c5 12 (by decide) kw691 rfl rfl (by decide +kernel) rfl rfl (Nat.le_of_ble_eq_true rfl) (by rw [← eM8, c5, sI_k]; exact congrArg (fun q => Sum.inr (5, q)) u5_sort) (by rw [← eM8]; exact sI_o) (by rw [← eM8]; exact (fun q => q)) ?_
            exact Z.vret rfl dX5_next_313 (retV H)
          · refine Z.bipush (v := 6) dX5_next_303 (by decide) ?_
            refine Z.goto dX5_next_305 ?_
            refine wE H (fun M9 eM9 H => ?_)
            refine Z.put (ty := .int) (M' := M9) dX5_next_310 inX5 tyX5_ok nmX5 (hc := rfl) (by decide) c5 12 (by decide) kw691 rfl rfl (by decide +kernel) rfl rfl (Nat.le_of_ble_eq_true rfl) (by rw [← eM9, c5, sI_k]; exact congrArg (fun q => Sum.inr (5, q)) u5_sort) (by rw [← eM9]; exact sI_o) (by rw [← eM9]; exact (fun q => q)) ?_
            exact Z.vret rfl dX5_next_313 (retV H)
        · refine Z.sub [1, 0] rfl ?_
          exact tX5_next_183L   FU (v4) M3 H
      · refine Z.iconst (v := 0) dX5_next_63 (by decide) ?_
        refine Z.istore_n (lv' := [(2, .int (0)), (1, .int (v4)), (0, .ref (eA E (42)))]) dX5_next_64 (by decide) rfl ?_
        refine Z.iconst (v := 0) dX5_next_65 (by decide) ?_
        refine Z.istore_n (lv' := [(3, .int (0)), (2, .int (0)), (1, .int (v4)), (0, .ref (eA E (42)))]) dX5_next_66 (by decide) rfl ?_
        refine Z.sub [3, 1, 0] rfl ?_
        exact tX5_next_67L   FU (0) (0) M3 H
    · refine Z.aload_n dX5_next_44 1 rfl ?_
      refine Z.iconst (v := 4) dX5_next_45 (by decide) ?_
      refine wE H (fun M10 eM10 H => ?_)
      refine Z.put (ty := .int) (M' := M10) dX5_next_46 inX5 tyX5_ok nmX5 (hc := rfl) (by decide) c5 12 (by decide) kw691 rfl rfl (by decide +kernel) rfl rfl (Nat.le_of_ble_eq_true rfl) (by rw [← eM10, c5, sI_k]; exact congrArg (fun q => Sum.inr (5, q)) u5_sort) (by rw [← eM10]; exact sI_o) (by rw [← eM10]; exact (fun q => q)) ?_
      refine Z.goto dX5_next_49 ?_
      exact Z.vret rfl dX5_next_313 (retV H)
  · refine Z.aload_n dX5_next_9 0 rfl ?_
    refine Z.dup dX5_next_10 rfl ?_
    refine Z.get dX5_next_11 inX5 (hc := rfl) (by decide) c5 10 (by decide) kw689 rfl rfl ?_
    refine Z.iconst (v := 1) dX5_next_14 (by decide) ?_
    refine Z.iadd dX5_next_15 ?_
    refine wE H (fun M11 eM11 H => ?_)
    refine Z.put (ty := .int) (M' := M11) dX5_next_16 inX5 tyX5_ok nmX5 (hc := rfl) (by decide) c5 10 (by decide) kw689 rfl rfl (by decide +kernel) rfl rfl (Nat.le_of_ble_eq_true rfl) (by rw [← eM11, c5, sI_k]; exact congrArg (fun q => Sum.inr (5, q)) u5_at) (by rw [← eM11]; exact sI_o) (by rw [← eM11]; exact (fun q => q)) ?_
    refine Z.goto dX5_next_19 ?_
    refine Z.sub [0] rfl ?_
    exact hk0  M11  H
theorem tX5_next_0L {l : Launch} {E : Env5}     {M9 : Mem}  : ∀ (n : Nat)  (M : Mem), fX5_next_0L   n  M = some M9 → Z l E RX5 cX5_next 5 none 1 0 [(0, .ref (eA E (42)))] [] M (PR none M9) := by
  intro n
  induction n with
  | zero => intro  M H; exact absurd H (by simp [fX5_next_0L])
  | succ n ih => intro  M H; exact tX5_next_0   M  (fun  M H => ih  M H) H
theorem kX5_next {l : Launch} {E : Env5}    (M : Mem) {M9 : Mem} (H : fX5_next  M = some M9) : Cn l E yX5_next cX5_next 5 none 1 [.ref (eA E (42))] M (PR none M9) := Cn.ofZ rfl (Nat.le_of_ble_eq_true rfl) rfl (Z.sub [0] rfl (tX5_next_0L   FU  M H))
theorem hdX5_next : yX5_next.cls ≠ "java/lang/invoke/MethodHandle" ∧ yX5_next.cls ≠ "java/lang/invoke/VarHandle" ∧ (parseMethodDescriptor yX5_next.desc).map (fun d => d.parameters.length) = some 0 := by decide +kernel

set_option maxRecDepth 100000 in
theorem tX5_due_0 {l : Launch} {E : Env5}    (x1 : Int32) (M : Mem) {v9 : Int32} {M9 : Mem}  (H : fX5_due  x1 M = some (v9, M9)) : Z l E RX5 cX5_due 3 (some .int) 2 0 [(0, .ref (eA E (42))), (1, .int (x1))] [] M (PR (some (.int v9)) M9) := by
  unfold fX5_due at H
  refine Z.aload_n dX5_due_0 0 rfl ?_
  refine Z.get dX5_due_1 inX5 (hc := rfl) (by decide) c5 13 (by decide) kw692 rfl rfl ?_
  refine Z.istore_n (lv' := [(2, .int (M.1 42 13)), (0, .ref (eA E (42))), (1, .int (x1))]) dX5_due_4 (by decide) rfl ?_
  refine Z.aload_n dX5_due_5 1 rfl ?_
  refine Z.get dX5_due_6 inX5 (hc := rfl) (by decide) c5 14 (by decide) kw693 rfl rfl ?_
  refine Z.bipush (v := (-9)) dX5_due_9 (by decide) ?_
  refine Z.icmp_neH dX5_due_11 H (fun br11 H => ?_) (fun br11 H => ?_)
  · refine Z.iload_n dX5_due_33 0 rfl ?_
    exact Z.iret rfl dX5_due_34 (retW H)
  · refine Z.iload_n dX5_due_14 2 rfl ?_
    refine Z.if_eqH dX5_due_15 H (fun br15 H => ?_) (fun br15 H => ?_)
    · refine Z.aload_n dX5_due_25 1 rfl ?_
      refine Z.aload_n dX5_due_26 1 rfl ?_
      refine Z.get dX5_due_27 inX5 (hc := rfl) (by decide) c5 11 (by decide) kw690 rfl rfl ?_
      refine wE H (fun M1 eM1 H => ?_)
      refine Z.put (ty := .int) (M' := M1) dX5_due_30 inX5 tyX5_ok nmX5 (hc := rfl) (by decide) c5 14 (by decide) kw693 rfl rfl (by decide +kernel) rfl rfl (Nat.le_of_ble_eq_true rfl) (by rw [← eM1, c5, sI_k]; exact congrArg (fun q => Sum.inr (5, q)) u5_fault) (by rw [← eM1]; exact sI_o) (by rw [← eM1]; exact (fun q => q)) ?_
      refine Z.iload_n dX5_due_33 0 rfl ?_
      exact Z.iret rfl dX5_due_34 (retW H)
    · refine Z.aload_n dX5_due_18 1 rfl ?_
      refine bindC H (fun v2 hv2 H => ?_)
      refine Z.callV (As := []) (rest := []) (st' := []) dX5_due_19 (kX5_next   M hv2) kw810 kw812 ks32 kw7 kw813 hdX5_next (by decide) c5 (hc := rfl) (by decide) (by decide) rfl rfl (Nat.le_of_ble_eq_true rfl) rfl ?_
      refine Z.goto dX5_due_22 ?_
      refine Z.iload_n dX5_due_33 0 rfl ?_
      exact Z.iret rfl dX5_due_34 (retW H)
theorem kX5_due {l : Launch} {E : Env5}   (x1 : Int32) (M : Mem) {v9 : Int32} {M9 : Mem} (H : fX5_due x1 M = some (v9, M9)) : Cn l E yX5_due cX5_due 3 (some .int) 2 [.ref (eA E (42)), .int (x1)] M (PR (some (.int v9)) M9) := Cn.ofZ rfl (Nat.le_of_ble_eq_true rfl) rfl (tX5_due_0  x1 M H)
theorem hdX5_due : yX5_due.cls ≠ "java/lang/invoke/MethodHandle" ∧ yX5_due.cls ≠ "java/lang/invoke/VarHandle" ∧ (parseMethodDescriptor yX5_due.desc).map (fun d => d.parameters.length) = some 1 := by decide +kernel

set_option maxRecDepth 100000 in
theorem tX5_number_26 {l : Launch} {E : Env5}    (s0 : Int32) (M : Mem) {v9 : Int32} {M9 : Mem}  (H : fX5_number_26  s0 M = some (v9, M9)) : Z l E RX5 cX5_number 3 (some .int) 3 26 [] [.int (s0), .ref (eA E (42))] M (PR (some (.int v9)) M9) := by
  unfold fX5_number_26 at H
  refine bindC H (fun v1 hv1 H => ?_)
  refine Z.callV (As := [.int (s0)]) (rest := []) (st' := [.int (v1.1)]) dX5_number_26 (kX5_due  (s0) M hv1) kw826 kw828 ks35 kw7 kw829 hdX5_due (by decide) c5 (hc := rfl) (by decide) (by decide) rfl rfl (Nat.le_of_ble_eq_true rfl) rfl ?_
  exact Z.iret rfl dX5_number_29 (retW H)
set_option maxRecDepth 100000 in
theorem tX5_number_25 {l : Launch} {E : Env5}     (M : Mem) {v9 : Int32} {M9 : Mem}  (H : fX5_number_25   M = some (v9, M9)) : Z l E RX5 cX5_number 3 (some .int) 3 25 [] [.ref (eA E (42))] M (PR (some (.int v9)) M9) := by
  unfold fX5_number_25 at H
  refine Z.iconst (v := 0) dX5_number_25 (by decide) ?_
  refine Z.sub [] rfl ?_
  exact tX5_number_26  (0) M  H
set_option maxRecDepth 100000 in
theorem tX5_number_0 {l : Launch} {E : Env5}    (x1 : Int32) (x2 : Int32) (M : Mem) {v9 : Int32} {M9 : Mem}  (H : fX5_number  x1 x2 M = some (v9, M9)) : Z l E RX5 cX5_number 3 (some .int) 3 0 [(0, .ref (eA E (42))), (1, .int (x1)), (2, .int (x2))] [] M (PR (some (.int v9)) M9) := by
  unfold fX5_number at H
  refine Z.aload_n dX5_number_0 0 rfl ?_
  refine Z.aload_n dX5_number_1 0 rfl ?_
  refine Z.get dX5_number_2 inX5 (hc := rfl) (by decide) c5 12 (by decide) kw691 rfl rfl ?_
  refine Z.iconst (v := 5) dX5_number_5 (by decide) ?_
  refine Z.icmp_neH dX5_number_6 H (fun br6 H => ?_) (fun br6 H => ?_)
  · refine Z.sub [] rfl ?_
    exact tX5_number_25   M  H
  · refine Z.aload_n dX5_number_9 0 rfl ?_
    refine Z.get dX5_number_10 inX5 (hc := rfl) (by decide) c5 13 (by decide) kw692 rfl rfl ?_
    refine Z.iload_n dX5_number_13 1 rfl ?_
    refine Z.iload_n dX5_number_14 2 rfl ?_
    refine bindC H (fun v1 hv1 H => ?_)
    refine Z.callS (As := [.int (M.1 42 13), .int (x1), .int (x2)]) (rest := [.ref (eA E (42))]) (st' := [.int (v1), .ref (eA E (42))]) dX5_number_15 (kX5_in  (M.1 42 13) (x1) (x2) M hv1) kw798 kw799 kw7 kw800 hdX5_in (by decide) (by decide) rfl rfl (Nat.le_of_ble_eq_true rfl) rfl ?_
    refine Z.if_eqH dX5_number_18 H (fun br18 H => ?_) (fun br18 H => ?_)
    · refine Z.sub [] rfl ?_
      exact tX5_number_25   M  H
    · refine Z.iconst (v := 1) dX5_number_21 (by decide) ?_
      refine Z.goto dX5_number_22 ?_
      refine Z.sub [] rfl ?_
      exact tX5_number_26  (1) M  H
theorem kX5_number {l : Launch} {E : Env5}   (x1 : Int32) (x2 : Int32) (M : Mem) {v9 : Int32} {M9 : Mem} (H : fX5_number x1 x2 M = some (v9, M9)) : Cn l E yX5_number cX5_number 3 (some .int) 3 [.ref (eA E (42)), .int (x1), .int (x2)] M (PR (some (.int v9)) M9) := Cn.ofZ rfl (Nat.le_of_ble_eq_true rfl) rfl (tX5_number_0  x1 x2 M H)
theorem hdX5_number : yX5_number.cls ≠ "java/lang/invoke/MethodHandle" ∧ yX5_number.cls ≠ "java/lang/invoke/VarHandle" ∧ (parseMethodDescriptor yX5_number.desc).map (fun d => d.parameters.length) = some 2 := by decide +kernel

set_option maxRecDepth 100000 in
theorem tX5_item_392 {l : Launch} {E : Env5}    (s0 : Int32) (M : Mem) {M9 : Mem}  (H : fX5_item_392  s0 M = some M9) : Z l E RX5 cX5_item 6 none 4 392 [] [.int (s0), .ref (eA E (42))] M (PR none M9) := by
  unfold fX5_item_392 at H
  refine bindC H (fun v1 hv1 H => ?_)
  refine Z.callV (As := [.int (s0)]) (rest := []) (st' := [.int (v1.1)]) dX5_item_392 (kX5_due  (s0) M hv1) kw826 kw828 ks35 kw7 kw829 hdX5_due (by decide) c5 (hc := rfl) (by decide) (by decide) rfl rfl (Nat.le_of_ble_eq_true rfl) rfl ?_
  refine Z.pop dX5_item_395 rfl ?_
  exact Z.vret rfl dX5_item_396 (retV H)
set_option maxRecDepth 100000 in
theorem tX5_item_377 {l : Launch} {E : Env5}     (M : Mem) {M9 : Mem}  (H : fX5_item_377   M = some M9) : Z l E RX5 cX5_item 6 none 4 377 [(0, .ref (eA E (42)))] [] M (PR none M9) := by
  unfold fX5_item_377 at H
  refine Z.aload_n dX5_item_377 0 rfl ?_
  refine Z.aload_n dX5_item_378 0 rfl ?_
  refine Z.get dX5_item_379 inX5 (hc := rfl) (by decide) c5 12 (by decide) kw691 rfl rfl ?_
  refine Z.bipush (v := 6) dX5_item_382 (by decide) ?_
  refine Z.icmp_neH dX5_item_384 H (fun br384 H => ?_) (fun br384 H => ?_)
  · refine Z.iconst (v := 0) dX5_item_391 (by decide) ?_
    refine Z.sub [] rfl ?_
    exact tX5_item_392  (0) M  H
  · refine Z.iconst (v := 1) dX5_item_387 (by decide) ?_
    refine Z.goto dX5_item_388 ?_
    refine Z.sub [] rfl ?_
    exact tX5_item_392  (1) M  H
set_option maxRecDepth 100000 in
theorem tX5_item_169 {l : Launch} {E : Env5}    (x1 : Int32) (x3 : Int32) (x4 : Int32) (M : Mem) {M9 : Mem}  (H : fX5_item_169  x1 x3 x4 M = some M9) : Z l E RX5 cX5_item 6 none 4 169 [(0, .ref (eA E (42))), (1, .int (x1)), (3, .int (x3)), (4, .int (x4))] [] M (PR none M9) := by
  unfold fX5_item_169 at H
  refine Z.iload_n dX5_item_169 1 rfl ?_
  refine Z.iconst (v := 2) dX5_item_170 (by decide) ?_
  refine Z.icmp_neH dX5_item_171 H (fun br171 H => ?_) (fun br171 H => ?_)
  · refine Z.iload_n dX5_item_283 1 rfl ?_
    refine Z.iconst (v := 3) dX5_item_284 (by decide) ?_
    refine Z.icmp_neH dX5_item_285 H (fun br285 H => ?_) (fun br285 H => ?_)
    · refine Z.sub [0] rfl ?_
      exact tX5_item_377   M  H
    · refine Z.bipush (v := 50) dX5_item_288 (by decide) ?_
      refine Z.iconst (v := 5) dX5_item_290 (by decide) ?_
      refine Z.aload_n dX5_item_291 0 rfl ?_
      refine Z.get dX5_item_292 inX5 (hc := rfl) (by decide) c5 8 (by decide) kw687 rfl rfl ?_
      refine Z.iconst (v := 1) dX5_item_295 (by decide) ?_
      refine Z.ialdH dX5_item_296 a5_pictures H (fun v1 H => ?_)
      refine Z.imul dX5_item_297 ?_
      refine Z.iadd dX5_item_298 ?_
      refine Z.istore (lv' := [(5, .int (50 + (5 * v1))), (0, .ref (eA E (42))), (1, .int (x1)), (3, .int (x3)), (4, .int (x4))]) dX5_item_299 (by decide) rfl ?_
      refine Z.aload_n dX5_item_301 1 rfl ?_
      refine Z.get dX5_item_302 inX5 (hc := rfl) (by decide) c5 9 (by decide) kw688 rfl rfl ?_
      refine Z.iload dX5_item_305 0 rfl ?_
      refine Z.iload_n dX5_item_307 3 rfl ?_
      refine Z.iastH dX5_item_308 a5_picture H (fun M2 H => ?_)
      refine Z.aload_n dX5_item_309 1 rfl ?_
      refine Z.get dX5_item_310 inX5 (hc := rfl) (by decide) c5 9 (by decide) kw688 rfl rfl ?_
      refine Z.iload dX5_item_313 0 rfl ?_
      refine Z.iconst (v := 1) dX5_item_315 (by decide) ?_
      refine Z.iadd dX5_item_316 ?_
      refine Z.iload dX5_item_317 4 rfl ?_
      refine Z.iastH dX5_item_319 a5_picture H (fun M3 H => ?_)
      refine Z.aload_n dX5_item_320 1 rfl ?_
      refine Z.get dX5_item_321 inX5 (hc := rfl) (by decide) c5 9 (by decide) kw688 rfl rfl ?_
      refine Z.iload dX5_item_324 0 rfl ?_
      refine Z.iconst (v := 2) dX5_item_326 (by decide) ?_
      refine Z.iadd dX5_item_327 ?_
      refine Z.aload_n dX5_item_328 1 rfl ?_
      refine Z.iconst (v := 0) dX5_item_329 (by decide) ?_
      refine Z.iconst (v := 3) dX5_item_330 (by decide) ?_
      refine bindC H (fun v4 hv4 H => ?_)
      refine Z.callV (As := [.int (0), .int (3)]) (rest := [.int ((50 + (5 * v1)) + 2), .ref (eA E (50))]) (st' := [.int (v4.1), .int ((50 + (5 * v1)) + 2), .ref (eA E (50))]) dX5_item_331 (kX5_number  (0) (3) M3 hv4) kw830 kw832 ks36 kw7 kw833 hdX5_number (by decide) c5 (hc := rfl) (by decide) (by decide) rfl rfl (Nat.le_of_ble_eq_true rfl) rfl ?_
      refine Z.iastH dX5_item_334 a5_picture H (fun M5 H => ?_)
      refine Z.aload_n dX5_item_335 1 rfl ?_
      refine Z.get dX5_item_336 inX5 (hc := rfl) (by decide) c5 9 (by decide) kw688 rfl rfl ?_
      refine Z.iload dX5_item_339 0 rfl ?_
      refine Z.iconst (v := 3) dX5_item_341 (by decide) ?_
      refine Z.iadd dX5_item_342 ?_
      refine Z.aload_n dX5_item_343 1 rfl ?_
      refine Z.iconst (v := 1) dX5_item_344 (by decide) ?_
      refine Z.bipush (v := 9) dX5_item_345 (by decide) ?_
      refine bindC H (fun v6 hv6 H => ?_)
      refine Z.callV (As := [.int (1), .int (9)]) (rest := [.int ((50 + (5 * v1)) + 3), .ref (eA E (50))]) (st' := [.int (v6.1), .int ((50 + (5 * v1)) + 3), .ref (eA E (50))]) dX5_item_347 (kX5_number  (1) (9) M5 hv6) kw830 kw832 ks36 kw7 kw833 hdX5_number (by decide) c5 (hc := rfl) (by decide) (by decide) rfl rfl (Nat.le_of_ble_eq_true rfl) rfl ?_
      refine Z.iastH dX5_item_350 a5_picture H (fun M7 H => ?_)
      refine Z.aload_n dX5_item_351 1 rfl ?_
      refine Z.get dX5_item_352 inX5 (hc := rfl) (by decide) c5 9 (by decide) kw688 rfl rfl ?_
      refine Z.iload dX5_item_355 0 rfl ?_
      refine Z.iconst (v := 4) dX5_item_357 (by decide) ?_
      refine Z.iadd dX5_item_358 ?_
      refine Z.aload_n dX5_item_359 1 rfl ?_
      refine Z.iconst (v := 0) dX5_item_360 (by decide) ?_
      refine Z.bipush (v := 99) dX5_item_361 (by decide) ?_
      refine bindC H (fun v8 hv8 H => ?_)
      refine Z.callV (As := [.int (0), .int (99)]) (rest := [.int ((50 + (5 * v1)) + 4), .ref (eA E (50))]) (st' := [.int (v8.1), .int ((50 + (5 * v1)) + 4), .ref (eA E (50))]) dX5_item_363 (kX5_number  (0) (99) M7 hv8) kw830 kw832 ks36 kw7 kw833 hdX5_number (by decide) c5 (hc := rfl) (by decide) (by decide) rfl rfl (Nat.le_of_ble_eq_true rfl) rfl ?_
      refine Z.iastH dX5_item_366 a5_picture H (fun M9 H => ?_)
      refine Z.aload_n dX5_item_367 1 rfl ?_
      refine Z.get dX5_item_368 inX5 (hc := rfl) (by decide) c5 8 (by decide) kw687 rfl rfl ?_
      refine Z.iconst (v := 1) dX5_item_371 (by decide) ?_
      refine Z.dup2 dX5_item_372 rfl rfl ?_
      refine Z.ialdH dX5_item_373 a5_pictures H (fun v10 H => ?_)
      refine Z.iconst (v := 1) dX5_item_374 (by decide) ?_
      refine Z.iadd dX5_item_375 ?_
      refine Z.iastH dX5_item_376 a5_pictures H (fun M11 H => ?_)
      refine Z.sub [1] rfl ?_
      exact tX5_item_377   M11  H
  · refine Z.bipush (v := 48) dX5_item_174 (by decide) ?_
    refine Z.bipush (v := 6) dX5_item_176 (by decide) ?_
    refine Z.aload_n dX5_item_178 0 rfl ?_
    refine Z.get dX5_item_179 inX5 (hc := rfl) (by decide) c5 6 (by decide) kw685 rfl rfl ?_
    refine Z.iconst (v := 1) dX5_item_182 (by decide) ?_
    refine Z.ialdH dX5_item_183 a5_people H (fun v12 H => ?_)
    refine Z.imul dX5_item_184 ?_
    refine Z.iadd dX5_item_185 ?_
    refine Z.istore (lv' := [(5, .int (48 + (6 * v12))), (0, .ref (eA E (42))), (1, .int (x1)), (3, .int (x3)), (4, .int (x4))]) dX5_item_186 (by decide) rfl ?_
    refine Z.aload_n dX5_item_188 1 rfl ?_
    refine Z.get dX5_item_189 inX5 (hc := rfl) (by decide) c5 7 (by decide) kw686 rfl rfl ?_
    refine Z.iload dX5_item_192 0 rfl ?_
    refine Z.iload_n dX5_item_194 3 rfl ?_
    refine Z.iastH dX5_item_195 a5_person H (fun M13 H => ?_)
    refine Z.aload_n dX5_item_196 1 rfl ?_
    refine Z.get dX5_item_197 inX5 (hc := rfl) (by decide) c5 7 (by decide) kw686 rfl rfl ?_
    refine Z.iload dX5_item_200 0 rfl ?_
    refine Z.iconst (v := 1) dX5_item_202 (by decide) ?_
    refine Z.iadd dX5_item_203 ?_
    refine Z.iload dX5_item_204 4 rfl ?_
    refine Z.iastH dX5_item_206 a5_person H (fun M14 H => ?_)
    refine Z.aload_n dX5_item_207 1 rfl ?_
    refine Z.get dX5_item_208 inX5 (hc := rfl) (by decide) c5 7 (by decide) kw686 rfl rfl ?_
    refine Z.iload dX5_item_211 0 rfl ?_
    refine Z.iconst (v := 2) dX5_item_213 (by decide) ?_
    refine Z.iadd dX5_item_214 ?_
    refine Z.aload_n dX5_item_215 1 rfl ?_
    refine Z.iconst (v := 0) dX5_item_216 (by decide) ?_
    refine Z.iconst (v := 4) dX5_item_217 (by decide) ?_
    refine bindC H (fun v15 hv15 H => ?_)
    refine Z.callV (As := [.int (0), .int (4)]) (rest := [.int ((48 + (6 * v12)) + 2), .ref (eA E (48))]) (st' := [.int (v15.1), .int ((48 + (6 * v12)) + 2), .ref (eA E (48))]) dX5_item_218 (kX5_number  (0) (4) M14 hv15) kw830 kw832 ks36 kw7 kw833 hdX5_number (by decide) c5 (hc := rfl) (by decide) (by decide) rfl rfl (Nat.le_of_ble_eq_true rfl) rfl ?_
    refine Z.iastH dX5_item_221 a5_person H (fun M16 H => ?_)
    refine Z.aload_n dX5_item_222 1 rfl ?_
    refine Z.get dX5_item_223 inX5 (hc := rfl) (by decide) c5 7 (by decide) kw686 rfl rfl ?_
    refine Z.iload dX5_item_226 0 rfl ?_
    refine Z.iconst (v := 3) dX5_item_228 (by decide) ?_
    refine Z.iadd dX5_item_229 ?_
    refine Z.aload_n dX5_item_230 1 rfl ?_
    refine Z.iconst (v := 0) dX5_item_231 (by decide) ?_
    refine Z.bipush (v := 99) dX5_item_232 (by decide) ?_
    refine bindC H (fun v17 hv17 H => ?_)
    refine Z.callV (As := [.int (0), .int (99)]) (rest := [.int ((48 + (6 * v12)) + 3), .ref (eA E (48))]) (st' := [.int (v17.1), .int ((48 + (6 * v12)) + 3), .ref (eA E (48))]) dX5_item_234 (kX5_number  (0) (99) M16 hv17) kw830 kw832 ks36 kw7 kw833 hdX5_number (by decide) c5 (hc := rfl) (by decide) (by decide) rfl rfl (Nat.le_of_ble_eq_true rfl) rfl ?_
    refine Z.iastH dX5_item_237 a5_person H (fun M18 H => ?_)
    refine Z.aload_n dX5_item_238 1 rfl ?_
    refine Z.get dX5_item_239 inX5 (hc := rfl) (by decide) c5 7 (by decide) kw686 rfl rfl ?_
    refine Z.iload dX5_item_242 0 rfl ?_
    refine Z.iconst (v := 4) dX5_item_244 (by decide) ?_
    refine Z.iadd dX5_item_245 ?_
    refine Z.aload_n dX5_item_246 1 rfl ?_
    refine Z.iconst (v := 0) dX5_item_247 (by decide) ?_
    refine Z.bipush (v := 99) dX5_item_248 (by decide) ?_
    refine bindC H (fun v19 hv19 H => ?_)
    refine Z.callV (As := [.int (0), .int (99)]) (rest := [.int ((48 + (6 * v12)) + 4), .ref (eA E (48))]) (st' := [.int (v19.1), .int ((48 + (6 * v12)) + 4), .ref (eA E (48))]) dX5_item_250 (kX5_number  (0) (99) M18 hv19) kw830 kw832 ks36 kw7 kw833 hdX5_number (by decide) c5 (hc := rfl) (by decide) (by decide) rfl rfl (Nat.le_of_ble_eq_true rfl) rfl ?_
    refine Z.iastH dX5_item_253 a5_person H (fun M20 H => ?_)
    refine Z.aload_n dX5_item_254 1 rfl ?_
    refine Z.get dX5_item_255 inX5 (hc := rfl) (by decide) c5 7 (by decide) kw686 rfl rfl ?_
    refine Z.iload dX5_item_258 0 rfl ?_
    refine Z.iconst (v := 5) dX5_item_260 (by decide) ?_
    refine Z.iadd dX5_item_261 ?_
    refine Z.aload_n dX5_item_262 1 rfl ?_
    refine Z.iconst (v := 0) dX5_item_263 (by decide) ?_
    refine Z.bipush (v := 9) dX5_item_264 (by decide) ?_
    refine bindC H (fun v21 hv21 H => ?_)
    refine Z.callV (As := [.int (0), .int (9)]) (rest := [.int ((48 + (6 * v12)) + 5), .ref (eA E (48))]) (st' := [.int (v21.1), .int ((48 + (6 * v12)) + 5), .ref (eA E (48))]) dX5_item_266 (kX5_number  (0) (9) M20 hv21) kw830 kw832 ks36 kw7 kw833 hdX5_number (by decide) c5 (hc := rfl) (by decide) (by decide) rfl rfl (Nat.le_of_ble_eq_true rfl) rfl ?_
    refine Z.iastH dX5_item_269 a5_person H (fun M22 H => ?_)
    refine Z.aload_n dX5_item_270 1 rfl ?_
    refine Z.get dX5_item_271 inX5 (hc := rfl) (by decide) c5 6 (by decide) kw685 rfl rfl ?_
    refine Z.iconst (v := 1) dX5_item_274 (by decide) ?_
    refine Z.dup2 dX5_item_275 rfl rfl ?_
    refine Z.ialdH dX5_item_276 a5_people H (fun v23 H => ?_)
    refine Z.iconst (v := 1) dX5_item_277 (by decide) ?_
    refine Z.iadd dX5_item_278 ?_
    refine Z.iastH dX5_item_279 a5_people H (fun M24 H => ?_)
    refine Z.goto dX5_item_280 ?_
    refine Z.sub [1] rfl ?_
    exact tX5_item_377   M24  H
set_option maxRecDepth 100000 in
theorem tX5_item_59 {l : Launch} {E : Env5}    (x1 : Int32) (s0 : Int32) (M : Mem) {M9 : Mem}  (H : fX5_item_59  x1 s0 M = some M9) : Z l E RX5 cX5_item 6 none 4 59 [(0, .ref (eA E (42))), (1, .int (x1))] [.int (s0), .ref (eA E (42))] M (PR none M9) := by
  unfold fX5_item_59 at H
  refine bindC H (fun v1 hv1 H => ?_)
  refine Z.callV (As := [.int (s0)]) (rest := []) (st' := [.int (v1.1)]) dX5_item_59 (kX5_due  (s0) M hv1) kw826 kw828 ks35 kw7 kw829 hdX5_due (by decide) c5 (hc := rfl) (by decide) (by decide) rfl rfl (Nat.le_of_ble_eq_true rfl) rfl ?_
  refine Z.pop dX5_item_62 rfl ?_
  refine Z.aload_n dX5_item_63 0 rfl ?_
  refine Z.get dX5_item_64 inX5 (hc := rfl) (by decide) c5 14 (by decide) kw693 rfl rfl ?_
  refine Z.bipush (v := (-9)) dX5_item_67 (by decide) ?_
  refine Z.icmp_eqH dX5_item_69 H (fun br69 H => ?_) (fun br69 H => ?_)
  · refine Z.iload_n dX5_item_73 1 rfl ?_
    refine Z.if_neH dX5_item_74 H (fun br74 H => ?_) (fun br74 H => ?_)
    · refine Z.aload_n dX5_item_106 0 rfl ?_
      refine Z.iconst (v := 0) dX5_item_107 (by decide) ?_
      refine Z.aload_n dX5_item_108 0 rfl ?_
      refine Z.get dX5_item_109 inX5 (hc := rfl) (by decide) c5 3 (by decide) kw682 rfl rfl ?_
      refine Z.iconst (v := 1) dX5_item_112 (by decide) ?_
      refine Z.ialdH dX5_item_113 a5_wides H (fun v2 H => ?_)
      refine Z.iconst (v := 1) dX5_item_114 (by decide) ?_
      refine Z.isub dX5_item_115 ?_
      refine bindC H (fun v3 hv3 H => ?_)
      refine Z.callV (As := [.int (0), .int (v2 - 1)]) (rest := []) (st' := [.int (v3.1)]) dX5_item_116 (kX5_number  (0) (v2 - 1) v1.2 hv3) kw830 kw832 ks36 kw7 kw833 hdX5_number (by decide) c5 (hc := rfl) (by decide) (by decide) rfl rfl (Nat.le_of_ble_eq_true rfl) rfl ?_
      refine Z.istore_n (lv' := [(3, .int (v3.1)), (0, .ref (eA E (42))), (1, .int (x1))]) dX5_item_119 (by decide) rfl ?_
      refine Z.aload_n dX5_item_120 1 rfl ?_
      refine Z.iconst (v := 0) dX5_item_121 (by decide) ?_
      refine Z.aload_n dX5_item_122 1 rfl ?_
      refine Z.get dX5_item_123 inX5 (hc := rfl) (by decide) c5 4 (by decide) kw683 rfl rfl ?_
      refine Z.iconst (v := 1) dX5_item_126 (by decide) ?_
      refine Z.ialdH dX5_item_127 a5_highs H (fun v4 H => ?_)
      refine Z.iconst (v := 1) dX5_item_128 (by decide) ?_
      refine Z.isub dX5_item_129 ?_
      refine bindC H (fun v5 hv5 H => ?_)
      refine Z.callV (As := [.int (0), .int (v4 - 1)]) (rest := []) (st' := [.int (v5.1)]) dX5_item_130 (kX5_number  (0) (v4 - 1) v3.2 hv5) kw830 kw832 ks36 kw7 kw833 hdX5_number (by decide) c5 (hc := rfl) (by decide) (by decide) rfl rfl (Nat.le_of_ble_eq_true rfl) rfl ?_
      refine Z.istore (lv' := [(4, .int (v5.1)), (3, .int (v3.1)), (0, .ref (eA E (42))), (1, .int (x1))]) dX5_item_133 (by decide) rfl ?_
      refine Z.iload_n dX5_item_135 3 rfl ?_
      refine Z.iconst (v := 1) dX5_item_136 (by decide) ?_
      refine Z.icmp_neH dX5_item_137 H (fun br137 H => ?_) (fun br137 H => ?_)
      · refine Z.sub [2, 3, 1, 0] rfl ?_
        exact tX5_item_169  (x1) (v3.1) (v5.1) v5.2  H
      · refine Z.aload_n dX5_item_140 2 rfl ?_
        refine Z.get dX5_item_141 inX5 (hc := rfl) (by decide) c5 14 (by decide) kw693 rfl rfl ?_
        refine Z.bipush (v := (-9)) dX5_item_144 (by decide) ?_
        refine Z.icmp_neH dX5_item_146 H (fun br146 H => ?_) (fun br146 H => ?_)
        · refine Z.sub [2, 3, 1, 0] rfl ?_
          exact tX5_item_169  (x1) (v3.1) (v5.1) v5.2  H
        · refine Z.aload_n dX5_item_149 2 rfl ?_
          refine Z.get dX5_item_150 inX5 (hc := rfl) (by decide) c5 5 (by decide) kw684 rfl rfl ?_
          refine Z.sipush (v := 144) dX5_item_153 (by decide) ?_
          refine Z.bipush (v := 12) dX5_item_156 (by decide) ?_
          refine Z.iload dX5_item_158 0 rfl ?_
          refine Z.imul dX5_item_160 ?_
          refine Z.iadd dX5_item_161 ?_
          refine Z.iload_n dX5_item_162 1 rfl ?_
          refine Z.iadd dX5_item_163 ?_
          refine Z.iconst (v := 1) dX5_item_164 (by decide) ?_
          refine Z.zastH dX5_item_165 a5_walls H (fun M6 H => ?_)
          refine Z.goto dX5_item_166 ?_
          refine Z.sub [2] rfl ?_
          exact tX5_item_377   M6  H
    · refine Z.aload_n dX5_item_77 0 rfl ?_
      refine Z.get dX5_item_78 inX5 (hc := rfl) (by decide) c5 3 (by decide) kw682 rfl rfl ?_
      refine Z.iconst (v := 1) dX5_item_81 (by decide) ?_
      refine Z.aload_n dX5_item_82 0 rfl ?_
      refine Z.iconst (v := 3) dX5_item_83 (by decide) ?_
      refine Z.bipush (v := 12) dX5_item_84 (by decide) ?_
      refine bindC H (fun v7 hv7 H => ?_)
      refine Z.callV (As := [.int (3), .int (12)]) (rest := [.int (1), .ref (eA E (44))]) (st' := [.int (v7.1), .int (1), .ref (eA E (44))]) dX5_item_86 (kX5_number  (3) (12) v1.2 hv7) kw830 kw832 ks36 kw7 kw833 hdX5_number (by decide) c5 (hc := rfl) (by decide) (by decide) rfl rfl (Nat.le_of_ble_eq_true rfl) rfl ?_
      refine Z.iastH dX5_item_89 a5_wides H (fun M8 H => ?_)
      refine Z.aload_n dX5_item_90 0 rfl ?_
      refine Z.get dX5_item_91 inX5 (hc := rfl) (by decide) c5 4 (by decide) kw683 rfl rfl ?_
      refine Z.iconst (v := 1) dX5_item_94 (by decide) ?_
      refine Z.aload_n dX5_item_95 0 rfl ?_
      refine Z.iconst (v := 3) dX5_item_96 (by decide) ?_
      refine Z.bipush (v := 12) dX5_item_97 (by decide) ?_
      refine bindC H (fun v9 hv9 H => ?_)
      refine Z.callV (As := [.int (3), .int (12)]) (rest := [.int (1), .ref (eA E (45))]) (st' := [.int (v9.1), .int (1), .ref (eA E (45))]) dX5_item_99 (kX5_number  (3) (12) M8 hv9) kw830 kw832 ks36 kw7 kw833 hdX5_number (by decide) c5 (hc := rfl) (by decide) (by decide) rfl rfl (Nat.le_of_ble_eq_true rfl) rfl ?_
      refine Z.iastH dX5_item_102 a5_highs H (fun M10 H => ?_)
      refine Z.goto dX5_item_103 ?_
      refine Z.sub [0] rfl ?_
      exact tX5_item_377   M10  H
  · exact Z.vret rfl dX5_item_72 (retV H)
set_option maxRecDepth 100000 in
theorem tX5_item_58 {l : Launch} {E : Env5}    (x1 : Int32) (M : Mem) {M9 : Mem}  (H : fX5_item_58  x1 M = some M9) : Z l E RX5 cX5_item 6 none 4 58 [(0, .ref (eA E (42))), (1, .int (x1))] [.ref (eA E (42))] M (PR none M9) := by
  unfold fX5_item_58 at H
  refine Z.iconst (v := 0) dX5_item_58 (by decide) ?_
  refine Z.sub [0, 1] rfl ?_
  exact tX5_item_59  (x1) (0) M  H
set_option maxRecDepth 100000 in
theorem tX5_item_54 {l : Launch} {E : Env5}    (x1 : Int32) (M : Mem) {M9 : Mem}  (H : fX5_item_54  x1 M = some M9) : Z l E RX5 cX5_item 6 none 4 54 [(0, .ref (eA E (42))), (1, .int (x1))] [.ref (eA E (42))] M (PR none M9) := by
  unfold fX5_item_54 at H
  refine Z.iconst (v := 1) dX5_item_54 (by decide) ?_
  refine Z.goto dX5_item_55 ?_
  refine Z.sub [0, 1] rfl ?_
  exact tX5_item_59  (x1) (1) M  H
set_option maxRecDepth 100000 in
theorem tX5_item_38 {l : Launch} {E : Env5}    (x1 : Int32) (M : Mem) {M9 : Mem}  (H : fX5_item_38  x1 M = some M9) : Z l E RX5 cX5_item 6 none 4 38 [(0, .ref (eA E (42))), (1, .int (x1))] [.ref (eA E (42))] M (PR none M9) := by
  unfold fX5_item_38 at H
  refine Z.iload_n dX5_item_38 1 rfl ?_
  refine Z.iconst (v := 3) dX5_item_39 (by decide) ?_
  refine Z.icmp_neH dX5_item_40 H (fun br40 H => ?_) (fun br40 H => ?_)
  · refine Z.sub [0, 1] rfl ?_
    exact tX5_item_58  (x1) M  H
  · refine Z.aload_n dX5_item_43 0 rfl ?_
    refine Z.get dX5_item_44 inX5 (hc := rfl) (by decide) c5 8 (by decide) kw687 rfl rfl ?_
    refine Z.iconst (v := 1) dX5_item_47 (by decide) ?_
    refine Z.ialdH dX5_item_48 a5_pictures H (fun v1 H => ?_)
    refine Z.bipush (v := 10) dX5_item_49 (by decide) ?_
    refine Z.icmp_geH dX5_item_51 H (fun br51 H => ?_) (fun br51 H => ?_)
    · refine Z.sub [0, 1] rfl ?_
      exact tX5_item_58  (x1) M  H
    · refine Z.sub [0, 1] rfl ?_
      exact tX5_item_54  (x1) M  H
set_option maxRecDepth 100000 in
theorem tX5_item_0 {l : Launch} {E : Env5}    (x1 : Int32) (x2 : Int32) (M : Mem) {M9 : Mem}  (H : fX5_item  x1 x2 M = some M9) : Z l E RX5 cX5_item 6 none 4 0 [(0, .ref (eA E (42))), (1, .int (x1)), (2, .int (x2))] [] M (PR none M9) := by
  unfold fX5_item at H
  refine Z.aload_n dX5_item_0 0 rfl ?_
  refine Z.iload_n dX5_item_1 1 rfl ?_
  refine Z.if_neH dX5_item_2 H (fun br2 H => ?_) (fun br2 H => ?_)
  · refine Z.iload_n dX5_item_17 1 rfl ?_
    refine Z.iconst (v := 1) dX5_item_18 (by decide) ?_
    refine Z.icmp_eqH dX5_item_19 H (fun br19 H => ?_) (fun br19 H => ?_)
    · refine Z.sub [0, 1] rfl ?_
      exact tX5_item_54  (x1) M  H
    · refine Z.iload_n dX5_item_22 1 rfl ?_
      refine Z.iconst (v := 2) dX5_item_23 (by decide) ?_
      refine Z.icmp_neH dX5_item_24 H (fun br24 H => ?_) (fun br24 H => ?_)
      · refine Z.sub [0, 1] rfl ?_
        exact tX5_item_38  (x1) M  H
      · refine Z.aload_n dX5_item_27 0 rfl ?_
        refine Z.get dX5_item_28 inX5 (hc := rfl) (by decide) c5 6 (by decide) kw685 rfl rfl ?_
        refine Z.iconst (v := 1) dX5_item_31 (by decide) ?_
        refine Z.ialdH dX5_item_32 a5_people H (fun v1 H => ?_)
        refine Z.bipush (v := 8) dX5_item_33 (by decide) ?_
        refine Z.icmp_ltH dX5_item_35 H (fun br35 H => ?_) (fun br35 H => ?_)
        · refine Z.sub [0, 1] rfl ?_
          exact tX5_item_54  (x1) M  H
        · refine Z.sub [0, 1] rfl ?_
          exact tX5_item_38  (x1) M  H
  · refine Z.iload_n dX5_item_5 2 rfl ?_
    refine Z.if_neH dX5_item_6 H (fun br6 H => ?_) (fun br6 H => ?_)
    · refine Z.iconst (v := 0) dX5_item_13 (by decide) ?_
      refine Z.goto dX5_item_14 ?_
      refine Z.sub [0, 1] rfl ?_
      exact tX5_item_59  (x1) (0) M  H
    · refine Z.iconst (v := 1) dX5_item_9 (by decide) ?_
      refine Z.goto dX5_item_10 ?_
      refine Z.sub [0, 1] rfl ?_
      exact tX5_item_59  (x1) (1) M  H
theorem kX5_item {l : Launch} {E : Env5}   (x1 : Int32) (x2 : Int32) (M : Mem) {M9 : Mem} (H : fX5_item x1 x2 M = some M9) : Cn l E yX5_item cX5_item 6 none 4 [.ref (eA E (42)), .int (x1), .int (x2)] M (PR none M9) := Cn.ofZ rfl (Nat.le_of_ble_eq_true rfl) rfl (tX5_item_0  x1 x2 M H)
theorem hdX5_item : yX5_item.cls ≠ "java/lang/invoke/MethodHandle" ∧ yX5_item.cls ≠ "java/lang/invoke/VarHandle" ∧ (parseMethodDescriptor yX5_item.desc).map (fun d => d.parameters.length) = some 2 := by decide +kernel

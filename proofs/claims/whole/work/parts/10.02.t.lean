set_option maxRecDepth 100000 in
theorem tX2_mostPicturesOfOne_13 {l : Launch} {E : Env5} {b : Nat} (hb : isSc b) {k13 : Int32 → Int32 → Mem → Option (Int32 × Mem)} (x2 : Int32) (x3 : Int32) (M : Mem) {v9 : Int32} {M9 : Mem} (hk13 : ∀ (x2 : Int32) (x3 : Int32) (M : Mem), k13 x2 x3 M = some (v9, M9) → Z l E RX2 cX2_mostPicturesOfOne 4 (some .int) 5 13 [(0, .ref (eA E (b))), (2, .int (x2)), (3, .int (x3))] [] M (PR (some (.int v9)) M9)) (H : fX2_mostPicturesOfOne_13B k13 b x2 x3 M = some (v9, M9)) : Z l E RX2 cX2_mostPicturesOfOne 4 (some .int) 5 13 [(0, .ref (eA E (b))), (2, .int (x2)), (3, .int (x3))] [] M (PR (some (.int v9)) M9) := by
  unfold fX2_mostPicturesOfOne_13B at H
  refine Z.iload_n dX2_mostPicturesOfOne_13 2 rfl ?_
  refine Z.aload_n dX2_mostPicturesOfOne_14 0 rfl ?_
  refine Z.get dX2_mostPicturesOfOne_15 inX2 (hc := rfl) (cS hb) (c2 hb) 6 (by decide) kw126 rfl rfl ?_
  refine Z.icmp_geH dX2_mostPicturesOfOne_18 H (fun br18 H => ?_) (fun br18 H => ?_)
  · refine Z.iload_n dX2_mostPicturesOfOne_46 1 rfl ?_
    exact Z.iret rfl dX2_mostPicturesOfOne_47 (retW H)
  · refine Z.iload_n dX2_mostPicturesOfOne_21 1 rfl ?_
    refine Z.aload_n dX2_mostPicturesOfOne_22 0 rfl ?_
    refine Z.get dX2_mostPicturesOfOne_23 inX2 (hc := rfl) (cS hb) (c2 hb) 12 (by decide) kw135 rfl rfl ?_
    refine Z.aload_n dX2_mostPicturesOfOne_26 0 rfl ?_
    refine Z.get dX2_mostPicturesOfOne_27 inX2 (hc := rfl) (cS hb) (c2 hb) 7 (by decide) kw128 rfl rfl ?_
    refine Z.iconst (v := 1) dX2_mostPicturesOfOne_30 (by decide) ?_
    refine Z.iload_n dX2_mostPicturesOfOne_31 2 rfl ?_
    refine Z.ishl dX2_mostPicturesOfOne_32 ?_
    refine bindC H (fun v1 hv1 H => ?_)
    refine Z.callSN (As := [.ref (eA E (b + 7)), .int (M.1 b 7), .int (1 <<< (x3 &&& 31))]) (rest := [.int (x2)]) (st' := [.int (v1), .int (x2)]) dX2_mostPicturesOfOne_33 (kX4_countShowing (a2_shownNear hb) (M.1 b 7) (1 <<< (x3 &&& 31)) M hv1) kn597 kw591 kw1 kw592 hdX4_countShowing (by decide) (by decide) rfl rfl (Nat.le_of_ble_eq_true rfl) rfl ?_
    refine Z.mmax dX2_mostPicturesOfOne_36 kw528 kw433 kw8 km_max (by decide) (Nat.le_of_ble_eq_true rfl) ?_
    refine Z.istore_n (lv' := [(2, .int (imax x2 v1)), (0, .ref (eA E (b))), (3, .int (x3))]) dX2_mostPicturesOfOne_39 (by decide) rfl ?_
    refine Z.iinc (v := x3 + 1) (lv' := [(3, .int (x3 + 1)), (2, .int (imax x2 v1)), (0, .ref (eA E (b)))]) dX2_mostPicturesOfOne_40 2 rfl rfl (by decide) rfl ?_
    refine Z.goto dX2_mostPicturesOfOne_43 ?_
    refine Z.sub [2, 1, 0] rfl ?_
    exact hk13 (imax x2 v1) (x3 + 1) M  H
theorem tX2_mostPicturesOfOne_13L {l : Launch} {E : Env5} {b : Nat} (hb : isSc b)   {v9 : Int32} {M9 : Mem}  : ∀ (n : Nat) (x2 : Int32) (x3 : Int32) (M : Mem), fX2_mostPicturesOfOne_13L  b n x2 x3 M = some (v9, M9) → Z l E RX2 cX2_mostPicturesOfOne 4 (some .int) 5 13 [(0, .ref (eA E (b))), (2, .int (x2)), (3, .int (x3))] [] M (PR (some (.int v9)) M9) := by
  intro n
  induction n with
  | zero => intro x2 x3 M H; exact absurd H (by simp [fX2_mostPicturesOfOne_13L])
  | succ n ih => intro x2 x3 M H; exact tX2_mostPicturesOfOne_13 hb x2 x3 M  (fun x2 x3 M H => ih x2 x3 M H) H
set_option maxRecDepth 100000 in
theorem tX2_mostPicturesOfOne_0 {l : Launch} {E : Env5} {b : Nat} (hb : isSc b)  (x1 : Int32) (M : Mem) {v9 : Int32} {M9 : Mem}  (H : fX2_mostPicturesOfOne  b x1 M = some (v9, M9)) : Z l E RX2 cX2_mostPicturesOfOne 4 (some .int) 5 0 [(0, .ref (eA E (b))), (1, .int (x1))] [] M (PR (some (.int v9)) M9) := by
  unfold fX2_mostPicturesOfOne at H
  refine Z.aload_n dX2_mostPicturesOfOne_0 0 rfl ?_
  refine Z.iload_n dX2_mostPicturesOfOne_1 1 rfl ?_
  refine Z.aload_n dX2_mostPicturesOfOne_2 0 rfl ?_
  refine Z.get dX2_mostPicturesOfOne_3 inX2 (hc := rfl) (cS hb) (c2 hb) 12 (by decide) kw135 rfl rfl ?_
  refine bindC H (fun v1 hv1 H => ?_)
  refine Z.callV (As := [.int (x1), .ref (eA E (b + 7))]) (rest := []) (st' := []) dX2_mostPicturesOfOne_6 (kX2_showAll hb (a2_shownNear hb) (x1) M hv1) kw614 kw274 kw275 kw6 kw276 hdX2_showAll (cS hb) (c2 hb) (hc := rfl) (by decide) (by decide) rfl rfl (Nat.le_of_ble_eq_true rfl) rfl ?_
  refine Z.iconst (v := 0) dX2_mostPicturesOfOne_9 (by decide) ?_
  refine Z.istore_n (lv' := [(2, .int (0)), (0, .ref (eA E (b))), (1, .int (x1))]) dX2_mostPicturesOfOne_10 (by decide) rfl ?_
  refine Z.iconst (v := 0) dX2_mostPicturesOfOne_11 (by decide) ?_
  refine Z.istore_n (lv' := [(3, .int (0)), (2, .int (0)), (0, .ref (eA E (b))), (1, .int (x1))]) dX2_mostPicturesOfOne_12 (by decide) rfl ?_
  refine Z.sub [2, 1, 0] rfl ?_
  exact tX2_mostPicturesOfOne_13L hb  FU (0) (0) v1 H
theorem kX2_mostPicturesOfOne {l : Launch} {E : Env5} {b : Nat} (hb : isSc b) (x1 : Int32) (M : Mem) {v9 : Int32} {M9 : Mem} (H : fX2_mostPicturesOfOne b x1 M = some (v9, M9)) : Cn l E yX2_mostPicturesOfOne cX2_mostPicturesOfOne 4 (some .int) 5 [.ref (eA E (b)), .int (x1)] M (PR (some (.int v9)) M9) := Cn.ofZ rfl (Nat.le_of_ble_eq_true rfl) rfl (tX2_mostPicturesOfOne_0 hb x1 M H)
theorem hdX2_mostPicturesOfOne : yX2_mostPicturesOfOne.cls ≠ "java/lang/invoke/MethodHandle" ∧ yX2_mostPicturesOfOne.cls ≠ "java/lang/invoke/VarHandle" ∧ (parseMethodDescriptor yX2_mostPicturesOfOne.desc).map (fun d => d.parameters.length) = some 1 := by decide +kernel

set_option maxRecDepth 100000 in
theorem tX3_append_5 {l : Launch} {E : Env5}   {k5 : Int64 → Int32 → Mem → Option (Int32 × Mem)} (x1 : Int64) (x4 : Int32) (M : Mem) {v9 : Int32} {M9 : Mem} (hk5 : ∀ (x1 : Int64) (x4 : Int32) (M : Mem), k5 x1 x4 M = some (v9, M9) → Z l E RX3 cX3_append 5 (some .int) 0 5 [(0, .ref (eA E (1))), (1, .long (x1)), (4, .int (x4))] [] M (PR (some (.int v9)) M9)) (H : fX3_append_5B k5 x1 x4 M = some (v9, M9)) : Z l E RX3 cX3_append 5 (some .int) 0 5 [(0, .ref (eA E (1))), (1, .long (x1)), (4, .int (x4))] [] M (PR (some (.int v9)) M9) := by
  unfold fX3_append_5B at H
  refine Z.iload dX3_append_5 2 rfl ?_
  refine Z.if_ltH dX3_append_7 H (fun br7 H => ?_) (fun br7 H => ?_)
  · refine Z.aload_n dX3_append_54 0 rfl ?_
    refine Z.get dX3_append_55 inX3 (hc := rfl) (by decide) c3 2 (by decide) kw28 rfl rfl ?_
    exact Z.iret rfl dX3_append_58 (retW H)
  · refine Z.aload_n dX3_append_10 0 rfl ?_
    refine Z.get dX3_append_11 inX3 (hc := rfl) (by decide) c3 2 (by decide) kw28 rfl rfl ?_
    refine Z.sipush (v := 400) dX3_append_14 (by decide) ?_
    refine Z.icmp_geH dX3_append_17 H (fun br17 H => ?_) (fun br17 H => ?_)
    · refine Z.aload_n dX3_append_54 0 rfl ?_
      refine Z.get dX3_append_55 inX3 (hc := rfl) (by decide) c3 2 (by decide) kw28 rfl rfl ?_
      exact Z.iret rfl dX3_append_58 (retW H)
    · refine Z.aload_n dX3_append_20 0 rfl ?_
      refine Z.get dX3_append_21 inX3 (hc := rfl) (by decide) c3 0 (by decide) kw26 rfl rfl ?_
      refine Z.aload_n dX3_append_24 0 rfl ?_
      refine Z.get dX3_append_25 inX3 (hc := rfl) (by decide) c3 2 (by decide) kw28 rfl rfl ?_
      refine Z.lload_n dX3_append_28 1 rfl ?_
      refine Z.bipush (v := 8) dX3_append_29 (by decide) ?_
      refine Z.iload dX3_append_31 2 rfl ?_
      refine Z.imul dX3_append_33 ?_
      refine Z.lshr dX3_append_34 ?_
      refine Z.l2i dX3_append_35 ?_
      refine Z.i2b dX3_append_36 ?_
      refine Z.bastH dX3_append_37 a3_bytes H (fun M1 H => ?_)
      refine Z.aload_n dX3_append_38 0 rfl ?_
      refine Z.dup dX3_append_39 rfl ?_
      refine Z.get dX3_append_40 inX3 (hc := rfl) (by decide) c3 2 (by decide) kw28 rfl rfl ?_
      refine Z.iconst (v := 1) dX3_append_43 (by decide) ?_
      refine Z.iadd dX3_append_44 ?_
      refine wE H (fun M2 eM2 H => ?_)
      refine Z.put (ty := .int) (M' := M2) dX3_append_45 inX3 tyX3_ok nmX3 (hc := rfl) (by decide) c3 2 (by decide) kw28 rfl rfl (by decide +kernel) rfl rfl (Nat.le_of_ble_eq_true rfl) (by rw [← eM2, c3, sI_k]; exact congrArg (fun q => Sum.inr (3, q)) u3_length) (by rw [← eM2]; exact sI_o) (by rw [← eM2]; exact (fun q => q)) ?_
      refine Z.iinc (v := x4 + (-1)) (lv' := [(4, .int (x4 + (-1))), (0, .ref (eA E (1))), (1, .long (x1))]) dX3_append_48 2 rfl rfl (by decide) rfl ?_
      refine Z.goto dX3_append_51 ?_
      refine Z.sub [1, 2, 0] rfl ?_
      exact hk5 (x1) (x4 + (-1)) M2  H
theorem tX3_append_5L {l : Launch} {E : Env5}     {v9 : Int32} {M9 : Mem}  : ∀ (n : Nat) (x1 : Int64) (x4 : Int32) (M : Mem), fX3_append_5L   n x1 x4 M = some (v9, M9) → Z l E RX3 cX3_append 5 (some .int) 0 5 [(0, .ref (eA E (1))), (1, .long (x1)), (4, .int (x4))] [] M (PR (some (.int v9)) M9) := by
  intro n
  induction n with
  | zero => intro x1 x4 M H; exact absurd H (by simp [fX3_append_5L])
  | succ n ih => intro x1 x4 M H; exact tX3_append_5  x1 x4 M  (fun x1 x4 M H => ih x1 x4 M H) H
set_option maxRecDepth 100000 in
theorem tX3_append_0 {l : Launch} {E : Env5}    (x1 : Int64) (x3 : Int32) (M : Mem) {v9 : Int32} {M9 : Mem}  (H : fX3_append  x1 x3 M = some (v9, M9)) : Z l E RX3 cX3_append 5 (some .int) 0 0 [(0, .ref (eA E (1))), (1, .long (x1)), (3, .int (x3))] [] M (PR (some (.int v9)) M9) := by
  unfold fX3_append at H
  refine Z.iload_n dX3_append_0 2 rfl ?_
  refine Z.iconst (v := 1) dX3_append_1 (by decide) ?_
  refine Z.isub dX3_append_2 ?_
  refine Z.istore (lv' := [(4, .int (x3 - 1)), (0, .ref (eA E (1))), (1, .long (x1)), (3, .int (x3))]) dX3_append_3 (by decide) rfl ?_
  refine Z.sub [1, 2, 0] rfl ?_
  exact tX3_append_5L   FU (x1) (x3 - 1) M H
theorem kX3_append {l : Launch} {E : Env5}   (x1 : Int64) (x3 : Int32) (M : Mem) {v9 : Int32} {M9 : Mem} (H : fX3_append x1 x3 M = some (v9, M9)) : Cn l E yX3_append cX3_append 5 (some .int) 0 [.ref (eA E (1)), .long (x1), .int (x3)] M (PR (some (.int v9)) M9) := Cn.ofZ rfl (Nat.le_of_ble_eq_true rfl) rfl (tX3_append_0  x1 x3 M H)
theorem hdX3_append : yX3_append.cls ≠ "java/lang/invoke/MethodHandle" ∧ yX3_append.cls ≠ "java/lang/invoke/VarHandle" ∧ (parseMethodDescriptor yX3_append.desc).map (fun d => d.parameters.length) = some 2 := by decide +kernel

set_option maxRecDepth 100000 in
theorem tX3_takeNumber_124 {l : Launch} {E : Env5}     (M : Mem) {M9 : Mem}  (H : fX3_takeNumber_124   M = some M9) : Z l E RX3 cX3_takeNumber 2 none 1 124 [] [.ref (eA E (1))] M (PR none M9) := by
  unfold fX3_takeNumber_124 at H
  refine Z.bipush (v := 13) dX3_takeNumber_124 (by decide) ?_
  refine Z.goto dX3_takeNumber_126 ?_
  refine wE H (fun M1 eM1 H => ?_)
  refine Z.put (ty := .int) (M' := M1) dX3_takeNumber_131 inX3 tyX3_ok nmX3 (hc := rfl) (by decide) c3 4 (by decide) kw31 rfl rfl (by decide +kernel) rfl rfl (Nat.le_of_ble_eq_true rfl) (by rw [← eM1, c3, sI_k]; exact congrArg (fun q => Sum.inr (3, q)) u3_token) (by rw [← eM1]; exact sI_o) (by rw [← eM1]; exact (fun q => q)) ?_
  exact Z.vret rfl dX3_takeNumber_134 (retV H)
set_option maxRecDepth 100000 in
theorem tX3_takeNumber_109 {l : Launch} {E : Env5}    (s0 : Int32) (M : Mem) {M9 : Mem}  (H : fX3_takeNumber_109  s0 M = some M9) : Z l E RX3 cX3_takeNumber 2 none 1 109 [(0, .ref (eA E (1)))] [.int (s0)] M (PR none M9) := by
  unfold fX3_takeNumber_109 at H
  refine Z.istore_n (lv' := [(1, .int (s0)), (0, .ref (eA E (1)))]) dX3_takeNumber_109 (by decide) rfl ?_
  refine Z.aload_n dX3_takeNumber_110 1 rfl ?_
  refine Z.aload_n dX3_takeNumber_111 1 rfl ?_
  refine Z.get dX3_takeNumber_112 inX3 (hc := rfl) (by decide) c3 6 (by decide) kw33 rfl rfl ?_
  refine Z.bipush (v := 99) dX3_takeNumber_115 (by decide) ?_
  refine Z.icmp_gtH dX3_takeNumber_117 H (fun br117 H => ?_) (fun br117 H => ?_)
  · refine Z.sub [] rfl ?_
    exact tX3_takeNumber_124   M  H
  · refine Z.iload_n dX3_takeNumber_120 0 rfl ?_
    refine Z.if_eqH dX3_takeNumber_121 H (fun br121 H => ?_) (fun br121 H => ?_)
    · refine Z.bipush (v := 12) dX3_takeNumber_129 (by decide) ?_
      refine wE H (fun M1 eM1 H => ?_)
      refine Z.put (ty := .int) (M' := M1) dX3_takeNumber_131 inX3 tyX3_ok nmX3 (hc := rfl) (by decide) c3 4 (by decide) kw31 rfl rfl (by decide +kernel) rfl rfl (Nat.le_of_ble_eq_true rfl) (by rw [← eM1, c3, sI_k]; exact congrArg (fun q => Sum.inr (3, q)) u3_token) (by rw [← eM1]; exact sI_o) (by rw [← eM1]; exact (fun q => q)) ?_
      exact Z.vret rfl dX3_takeNumber_134 (retV H)
    · refine Z.sub [] rfl ?_
      exact tX3_takeNumber_124   M  H
set_option maxRecDepth 100000 in
theorem tX3_takeNumber_108 {l : Launch} {E : Env5}     (M : Mem) {M9 : Mem}  (H : fX3_takeNumber_108   M = some M9) : Z l E RX3 cX3_takeNumber 2 none 1 108 [(0, .ref (eA E (1)))] [] M (PR none M9) := by
  unfold fX3_takeNumber_108 at H
  refine Z.iconst (v := 0) dX3_takeNumber_108 (by decide) ?_
  refine Z.sub [0] rfl ?_
  exact tX3_takeNumber_109  (0) M  H
set_option maxRecDepth 100000 in
theorem tX3_takeNumber_77 {l : Launch} {E : Env5}     (M : Mem) {M9 : Mem}  (H : fX3_takeNumber_77   M = some M9) : Z l E RX3 cX3_takeNumber 2 none 1 77 [(0, .ref (eA E (1)))] [] M (PR none M9) := by
  unfold fX3_takeNumber_77 at H
  refine Z.aload_n dX3_takeNumber_77 0 rfl ?_
  refine Z.get dX3_takeNumber_78 inX3 (hc := rfl) (by decide) c3 3 (by decide) kw30 rfl rfl ?_
  refine Z.aload_n dX3_takeNumber_81 0 rfl ?_
  refine Z.get dX3_takeNumber_82 inX3 (hc := rfl) (by decide) c3 5 (by decide) kw32 rfl rfl ?_
  refine Z.isub dX3_takeNumber_85 ?_
  refine Z.iconst (v := 1) dX3_takeNumber_86 (by decide) ?_
  refine Z.icmp_leH dX3_takeNumber_87 H (fun br87 H => ?_) (fun br87 H => ?_)
  · refine Z.sub [0] rfl ?_
    exact tX3_takeNumber_108   M  H
  · refine Z.aload_n dX3_takeNumber_90 0 rfl ?_
    refine Z.get dX3_takeNumber_91 inX3 (hc := rfl) (by decide) c3 0 (by decide) kw26 rfl rfl ?_
    refine Z.aload_n dX3_takeNumber_94 0 rfl ?_
    refine Z.get dX3_takeNumber_95 inX3 (hc := rfl) (by decide) c3 5 (by decide) kw32 rfl rfl ?_
    refine Z.baldH dX3_takeNumber_98 a3_bytes H (fun v1 H => ?_)
    refine Z.bipush (v := 48) dX3_takeNumber_99 (by decide) ?_
    refine Z.icmp_neH dX3_takeNumber_101 H (fun br101 H => ?_) (fun br101 H => ?_)
    · refine Z.sub [0] rfl ?_
      exact tX3_takeNumber_108   M  H
    · refine Z.iconst (v := 1) dX3_takeNumber_104 (by decide) ?_
      refine Z.goto dX3_takeNumber_105 ?_
      refine Z.sub [0] rfl ?_
      exact tX3_takeNumber_109  (1) M  H
set_option maxRecDepth 100000 in
theorem tX3_takeNumber_5 {l : Launch} {E : Env5}   {k5 : Mem → Option Mem}  (M : Mem) {M9 : Mem} (hk5 : ∀  (M : Mem), k5  M = some M9 → Z l E RX3 cX3_takeNumber 2 none 1 5 [(0, .ref (eA E (1)))] [] M (PR none M9)) (H : fX3_takeNumber_5B k5  M = some M9) : Z l E RX3 cX3_takeNumber 2 none 1 5 [(0, .ref (eA E (1)))] [] M (PR none M9) := by
  unfold fX3_takeNumber_5B at H
  refine Z.aload_n dX3_takeNumber_5 0 rfl ?_
  refine Z.get dX3_takeNumber_6 inX3 (hc := rfl) (by decide) c3 3 (by decide) kw30 rfl rfl ?_
  refine Z.aload_n dX3_takeNumber_9 0 rfl ?_
  refine Z.get dX3_takeNumber_10 inX3 (hc := rfl) (by decide) c3 2 (by decide) kw28 rfl rfl ?_
  refine Z.icmp_geH dX3_takeNumber_13 H (fun br13 H => ?_) (fun br13 H => ?_)
  · refine Z.sub [0] rfl ?_
    exact tX3_takeNumber_77   M  H
  · refine Z.aload_n dX3_takeNumber_16 0 rfl ?_
    refine Z.get dX3_takeNumber_17 inX3 (hc := rfl) (by decide) c3 0 (by decide) kw26 rfl rfl ?_
    refine Z.aload_n dX3_takeNumber_20 0 rfl ?_
    refine Z.get dX3_takeNumber_21 inX3 (hc := rfl) (by decide) c3 3 (by decide) kw30 rfl rfl ?_
    refine Z.baldH dX3_takeNumber_24 a3_bytes H (fun v1 H => ?_)
    refine Z.bipush (v := 48) dX3_takeNumber_25 (by decide) ?_
    refine Z.bipush (v := 57) dX3_takeNumber_27 (by decide) ?_
    refine bindC H (fun v2 hv2 H => ?_)
    refine Z.callSN (As := [.int (v1), .int (48), .int (57)]) (rest := []) (st' := [.int (v2)]) dX3_takeNumber_29 (kX4_isBetween  (v1) (48) (57) M hv2) kn223 kw197 kw1 kw198 hdX4_isBetween (by decide) (by decide) rfl rfl (Nat.le_of_ble_eq_true rfl) rfl ?_
    refine Z.if_eqH dX3_takeNumber_32 H (fun br32 H => ?_) (fun br32 H => ?_)
    · refine Z.sub [0] rfl ?_
      exact tX3_takeNumber_77   M  H
    · refine Z.aload_n dX3_takeNumber_35 0 rfl ?_
      refine Z.bipush (v := 10) dX3_takeNumber_36 (by decide) ?_
      refine Z.aload_n dX3_takeNumber_38 0 rfl ?_
      refine Z.get dX3_takeNumber_39 inX3 (hc := rfl) (by decide) c3 6 (by decide) kw33 rfl rfl ?_
      refine Z.imul dX3_takeNumber_42 ?_
      refine Z.aload_n dX3_takeNumber_43 0 rfl ?_
      refine Z.get dX3_takeNumber_44 inX3 (hc := rfl) (by decide) c3 0 (by decide) kw26 rfl rfl ?_
      refine Z.aload_n dX3_takeNumber_47 0 rfl ?_
      refine Z.get dX3_takeNumber_48 inX3 (hc := rfl) (by decide) c3 3 (by decide) kw30 rfl rfl ?_
      refine Z.baldH dX3_takeNumber_51 a3_bytes H (fun v3 H => ?_)
      refine Z.iadd dX3_takeNumber_52 ?_
      refine Z.bipush (v := 48) dX3_takeNumber_53 (by decide) ?_
      refine Z.isub dX3_takeNumber_55 ?_
      refine Z.bipush (v := 100) dX3_takeNumber_56 (by decide) ?_
      refine Z.mmin dX3_takeNumber_58 kw228 kw229 kw8 km_min (by decide) (Nat.le_of_ble_eq_true rfl) ?_
      refine wE H (fun M4 eM4 H => ?_)
      refine Z.put (ty := .int) (M' := M4) dX3_takeNumber_61 inX3 tyX3_ok nmX3 (hc := rfl) (by decide) c3 6 (by decide) kw33 rfl rfl (by decide +kernel) rfl rfl (Nat.le_of_ble_eq_true rfl) (by rw [← eM4, c3, sI_k]; exact congrArg (fun q => Sum.inr (3, q)) u3_number) (by rw [← eM4]; exact sI_o) (by rw [← eM4]; exact (fun q => q)) ?_
      refine Z.aload_n dX3_takeNumber_64 0 rfl ?_
      refine Z.dup dX3_takeNumber_65 rfl ?_
      refine Z.get dX3_takeNumber_66 inX3 (hc := rfl) (by decide) c3 3 (by decide) kw30 rfl rfl ?_
      refine Z.iconst (v := 1) dX3_takeNumber_69 (by decide) ?_
      refine Z.iadd dX3_takeNumber_70 ?_
      refine wE H (fun M5 eM5 H => ?_)
      refine Z.put (ty := .int) (M' := M5) dX3_takeNumber_71 inX3 tyX3_ok nmX3 (hc := rfl) (by decide) c3 3 (by decide) kw30 rfl rfl (by decide +kernel) rfl rfl (Nat.le_of_ble_eq_true rfl) (by rw [← eM5, c3, sI_k]; exact congrArg (fun q => Sum.inr (3, q)) u3_place) (by rw [← eM5]; exact sI_o) (by rw [← eM5]; exact (fun q => q)) ?_
      refine Z.goto dX3_takeNumber_74 ?_
      refine Z.sub [0] rfl ?_
      exact hk5  M5  H
theorem tX3_takeNumber_5L {l : Launch} {E : Env5}     {M9 : Mem}  : ∀ (n : Nat)  (M : Mem), fX3_takeNumber_5L   n  M = some M9 → Z l E RX3 cX3_takeNumber 2 none 1 5 [(0, .ref (eA E (1)))] [] M (PR none M9) := by
  intro n
  induction n with
  | zero => intro  M H; exact absurd H (by simp [fX3_takeNumber_5L])
  | succ n ih => intro  M H; exact tX3_takeNumber_5   M  (fun  M H => ih  M H) H
set_option maxRecDepth 100000 in
theorem tX3_takeNumber_0 {l : Launch} {E : Env5}     (M : Mem) {M9 : Mem}  (H : fX3_takeNumber   M = some M9) : Z l E RX3 cX3_takeNumber 2 none 1 0 [(0, .ref (eA E (1)))] [] M (PR none M9) := by
  unfold fX3_takeNumber at H
  refine Z.aload_n dX3_takeNumber_0 0 rfl ?_
  refine Z.iconst (v := 0) dX3_takeNumber_1 (by decide) ?_
  refine wE H (fun M1 eM1 H => ?_)
  refine Z.put (ty := .int) (M' := M1) dX3_takeNumber_2 inX3 tyX3_ok nmX3 (hc := rfl) (by decide) c3 6 (by decide) kw33 rfl rfl (by decide +kernel) rfl rfl (Nat.le_of_ble_eq_true rfl) (by rw [← eM1, c3, sI_k]; exact congrArg (fun q => Sum.inr (3, q)) u3_number) (by rw [← eM1]; exact sI_o) (by rw [← eM1]; exact (fun q => q)) ?_
  refine Z.sub [0] rfl ?_
  exact tX3_takeNumber_5L   FU  M1 H
theorem kX3_takeNumber {l : Launch} {E : Env5}    (M : Mem) {M9 : Mem} (H : fX3_takeNumber  M = some M9) : Cn l E yX3_takeNumber cX3_takeNumber 2 none 1 [.ref (eA E (1))] M (PR none M9) := Cn.ofZ rfl (Nat.le_of_ble_eq_true rfl) rfl (tX3_takeNumber_0   M H)
theorem hdX3_takeNumber : yX3_takeNumber.cls ≠ "java/lang/invoke/MethodHandle" ∧ yX3_takeNumber.cls ≠ "java/lang/invoke/VarHandle" ∧ (parseMethodDescriptor yX3_takeNumber.desc).map (fun d => d.parameters.length) = some 0 := by decide +kernel

set_option maxRecDepth 100000 in
theorem tX3_takeWord_61 {l : Launch} {E : Env5}    (x1 : Int64) (M : Mem) {M9 : Mem}  (H : fX3_takeWord_61  x1 M = some M9) : Z l E RX3 cX3_takeWord 3 none 1 61 [(0, .ref (eA E (1))), (1, .long (x1))] [] M (PR none M9) := by
  unfold fX3_takeWord_61 at H
  refine Z.lload_n dX3_takeWord_61 1 rfl ?_
  refine Z.ldc2 (v := 126931137819237) dX3_takeWord_62 kw235 ?_
  refine Z.lcmp dX3_takeWord_65 ?_
  refine Z.if_neH dX3_takeWord_66 H (fun br66 H => ?_) (fun br66 H => ?_)
  · refine Z.lload_n dX3_takeWord_77 1 rfl ?_
    refine Z.ldc2 (v := 2002873452) dX3_takeWord_78 kw236 ?_
    refine Z.lcmp dX3_takeWord_81 ?_
    refine Z.if_neH dX3_takeWord_82 H (fun br82 H => ?_) (fun br82 H => ?_)
    · refine Z.lload_n dX3_takeWord_93 1 rfl ?_
      refine Z.ldc2 (v := 123581014175598) dX3_takeWord_94 kw237 ?_
      refine Z.lcmp dX3_takeWord_97 ?_
      refine Z.if_neH dX3_takeWord_98 H (fun br98 H => ?_) (fun br98 H => ?_)
      · refine Z.lload_n dX3_takeWord_109 1 rfl ?_
        refine Z.ldc2 (v := 31641073268126309) dX3_takeWord_110 kw238 ?_
        refine Z.lcmp dX3_takeWord_113 ?_
        refine Z.if_neH dX3_takeWord_114 H (fun br114 H => ?_) (fun br114 H => ?_)
        · refine Z.aload_n dX3_takeWord_125 0 rfl ?_
          refine Z.bipush (v := 13) dX3_takeWord_126 (by decide) ?_
          refine wE H (fun M1 eM1 H => ?_)
          refine Z.put (ty := .int) (M' := M1) dX3_takeWord_128 inX3 tyX3_ok nmX3 (hc := rfl) (by decide) c3 4 (by decide) kw31 rfl rfl (by decide +kernel) rfl rfl (Nat.le_of_ble_eq_true rfl) (by rw [← eM1, c3, sI_k]; exact congrArg (fun q => Sum.inr (3, q)) u3_token) (by rw [← eM1]; exact sI_o) (by rw [← eM1]; exact (fun q => q)) ?_
          exact Z.vret rfl dX3_takeWord_131 (retV H)
        · refine Z.aload_n dX3_takeWord_117 0 rfl ?_
          refine Z.iconst (v := 3) dX3_takeWord_118 (by decide) ?_
          refine wE H (fun M2 eM2 H => ?_)
          refine Z.put (ty := .int) (M' := M2) dX3_takeWord_119 inX3 tyX3_ok nmX3 (hc := rfl) (by decide) c3 4 (by decide) kw31 rfl rfl (by decide +kernel) rfl rfl (Nat.le_of_ble_eq_true rfl) (by rw [← eM2, c3, sI_k]; exact congrArg (fun q => Sum.inr (3, q)) u3_token) (by rw [← eM2]; exact sI_o) (by rw [← eM2]; exact (fun q => q)) ?_
          refine Z.goto dX3_takeWord_122 ?_
          exact Z.vret rfl dX3_takeWord_131 (retV H)
      · refine Z.aload_n dX3_takeWord_101 0 rfl ?_
        refine Z.iconst (v := 2) dX3_takeWord_102 (by decide) ?_
        refine wE H (fun M3 eM3 H => ?_)
        refine Z.put (ty := .int) (M' := M3) dX3_takeWord_103 inX3 tyX3_ok nmX3 (hc := rfl) (by decide) c3 4 (by decide) kw31 rfl rfl (by decide +kernel) rfl rfl (Nat.le_of_ble_eq_true rfl) (by rw [← eM3, c3, sI_k]; exact congrArg (fun q => Sum.inr (3, q)) u3_token) (by rw [← eM3]; exact sI_o) (by rw [← eM3]; exact (fun q => q)) ?_
        refine Z.goto dX3_takeWord_106 ?_
        exact Z.vret rfl dX3_takeWord_131 (retV H)
    · refine Z.aload_n dX3_takeWord_85 0 rfl ?_
      refine Z.iconst (v := 1) dX3_takeWord_86 (by decide) ?_
      refine wE H (fun M4 eM4 H => ?_)
      refine Z.put (ty := .int) (M' := M4) dX3_takeWord_87 inX3 tyX3_ok nmX3 (hc := rfl) (by decide) c3 4 (by decide) kw31 rfl rfl (by decide +kernel) rfl rfl (Nat.le_of_ble_eq_true rfl) (by rw [← eM4, c3, sI_k]; exact congrArg (fun q => Sum.inr (3, q)) u3_token) (by rw [← eM4]; exact sI_o) (by rw [← eM4]; exact (fun q => q)) ?_
      refine Z.goto dX3_takeWord_90 ?_
      exact Z.vret rfl dX3_takeWord_131 (retV H)
  · refine Z.aload_n dX3_takeWord_69 0 rfl ?_
    refine Z.iconst (v := 0) dX3_takeWord_70 (by decide) ?_
    refine wE H (fun M5 eM5 H => ?_)
    refine Z.put (ty := .int) (M' := M5) dX3_takeWord_71 inX3 tyX3_ok nmX3 (hc := rfl) (by decide) c3 4 (by decide) kw31 rfl rfl (by decide +kernel) rfl rfl (Nat.le_of_ble_eq_true rfl) (by rw [← eM5, c3, sI_k]; exact congrArg (fun q => Sum.inr (3, q)) u3_token) (by rw [← eM5]; exact sI_o) (by rw [← eM5]; exact (fun q => q)) ?_
    refine Z.goto dX3_takeWord_74 ?_
    exact Z.vret rfl dX3_takeWord_131 (retV H)
set_option maxRecDepth 100000 in
theorem tX3_takeWord_2 {l : Launch} {E : Env5}   {k2 : Int64 → Mem → Option Mem} (x1 : Int64) (M : Mem) {M9 : Mem} (hk2 : ∀ (x1 : Int64) (M : Mem), k2 x1 M = some M9 → Z l E RX3 cX3_takeWord 3 none 1 2 [(0, .ref (eA E (1))), (1, .long (x1))] [] M (PR none M9)) (H : fX3_takeWord_2B k2 x1 M = some M9) : Z l E RX3 cX3_takeWord 3 none 1 2 [(0, .ref (eA E (1))), (1, .long (x1))] [] M (PR none M9) := by
  unfold fX3_takeWord_2B at H
  refine Z.aload_n dX3_takeWord_2 0 rfl ?_
  refine Z.get dX3_takeWord_3 inX3 (hc := rfl) (by decide) c3 3 (by decide) kw30 rfl rfl ?_
  refine Z.aload_n dX3_takeWord_6 0 rfl ?_
  refine Z.get dX3_takeWord_7 inX3 (hc := rfl) (by decide) c3 2 (by decide) kw28 rfl rfl ?_
  refine Z.icmp_geH dX3_takeWord_10 H (fun br10 H => ?_) (fun br10 H => ?_)
  · refine Z.sub [0, 1] rfl ?_
    exact tX3_takeWord_61  (x1) M  H
  · refine Z.aload_n dX3_takeWord_13 0 rfl ?_
    refine Z.get dX3_takeWord_14 inX3 (hc := rfl) (by decide) c3 0 (by decide) kw26 rfl rfl ?_
    refine Z.aload_n dX3_takeWord_17 0 rfl ?_
    refine Z.get dX3_takeWord_18 inX3 (hc := rfl) (by decide) c3 3 (by decide) kw30 rfl rfl ?_
    refine Z.baldH dX3_takeWord_21 a3_bytes H (fun v1 H => ?_)
    refine Z.bipush (v := 97) dX3_takeWord_22 (by decide) ?_
    refine Z.bipush (v := 122) dX3_takeWord_24 (by decide) ?_
    refine bindC H (fun v2 hv2 H => ?_)
    refine Z.callSN (As := [.int (v1), .int (97), .int (122)]) (rest := []) (st' := [.int (v2)]) dX3_takeWord_26 (kX4_isBetween  (v1) (97) (122) M hv2) kn223 kw197 kw1 kw198 hdX4_isBetween (by decide) (by decide) rfl rfl (Nat.le_of_ble_eq_true rfl) rfl ?_
    refine Z.if_eqH dX3_takeWord_29 H (fun br29 H => ?_) (fun br29 H => ?_)
    · refine Z.sub [0, 1] rfl ?_
      exact tX3_takeWord_61  (x1) M  H
    · refine Z.lload_n dX3_takeWord_32 1 rfl ?_
      refine Z.bipush (v := 8) dX3_takeWord_33 (by decide) ?_
      refine Z.lshl dX3_takeWord_35 ?_
      refine Z.aload_n dX3_takeWord_36 0 rfl ?_
      refine Z.get dX3_takeWord_37 inX3 (hc := rfl) (by decide) c3 0 (by decide) kw26 rfl rfl ?_
      refine Z.aload_n dX3_takeWord_40 0 rfl ?_
      refine Z.get dX3_takeWord_41 inX3 (hc := rfl) (by decide) c3 3 (by decide) kw30 rfl rfl ?_
      refine Z.baldH dX3_takeWord_44 a3_bytes H (fun v3 H => ?_)
      refine Z.i2l dX3_takeWord_45 ?_
      refine Z.lor dX3_takeWord_46 ?_
      refine Z.lstore_n (lv' := [(1, .long ((x1 <<< ((8 : Int32).toInt64 &&& 63)) ||| v3.toInt64)), (0, .ref (eA E (1)))]) dX3_takeWord_47 (by decide) rfl ?_
      refine Z.aload_n dX3_takeWord_48 1 rfl ?_
      refine Z.dup dX3_takeWord_49 rfl ?_
      refine Z.get dX3_takeWord_50 inX3 (hc := rfl) (by decide) c3 3 (by decide) kw30 rfl rfl ?_
      refine Z.iconst (v := 1) dX3_takeWord_53 (by decide) ?_
      refine Z.iadd dX3_takeWord_54 ?_
      refine wE H (fun M4 eM4 H => ?_)
      refine Z.put (ty := .int) (M' := M4) dX3_takeWord_55 inX3 tyX3_ok nmX3 (hc := rfl) (by decide) c3 3 (by decide) kw30 rfl rfl (by decide +kernel) rfl rfl (Nat.le_of_ble_eq_true rfl) (by rw [← eM4, c3, sI_k]; exact congrArg (fun q => Sum.inr (3, q)) u3_place) (by rw [← eM4]; exact sI_o) (by rw [← eM4]; exact (fun q => q)) ?_
      refine Z.goto dX3_takeWord_58 ?_
      refine Z.sub [1, 0] rfl ?_
      exact hk2 ((x1 <<< ((8 : Int32).toInt64 &&& 63)) ||| v3.toInt64) M4  H
theorem tX3_takeWord_2L {l : Launch} {E : Env5}     {M9 : Mem}  : ∀ (n : Nat) (x1 : Int64) (M : Mem), fX3_takeWord_2L   n x1 M = some M9 → Z l E RX3 cX3_takeWord 3 none 1 2 [(0, .ref (eA E (1))), (1, .long (x1))] [] M (PR none M9) := by
  intro n
  induction n with
  | zero => intro x1 M H; exact absurd H (by simp [fX3_takeWord_2L])
  | succ n ih => intro x1 M H; exact tX3_takeWord_2  x1 M  (fun x1 M H => ih x1 M H) H
set_option maxRecDepth 100000 in
theorem tX3_takeWord_0 {l : Launch} {E : Env5}     (M : Mem) {M9 : Mem}  (H : fX3_takeWord   M = some M9) : Z l E RX3 cX3_takeWord 3 none 1 0 [(0, .ref (eA E (1)))] [] M (PR none M9) := by
  unfold fX3_takeWord at H
  refine Z.lconst (v := 0) dX3_takeWord_0 (by decide) ?_
  refine Z.lstore_n (lv' := [(1, .long (0)), (0, .ref (eA E (1)))]) dX3_takeWord_1 (by decide) rfl ?_
  refine Z.sub [1, 0] rfl ?_
  exact tX3_takeWord_2L   FU (0) M H
theorem kX3_takeWord {l : Launch} {E : Env5}    (M : Mem) {M9 : Mem} (H : fX3_takeWord  M = some M9) : Cn l E yX3_takeWord cX3_takeWord 3 none 1 [.ref (eA E (1))] M (PR none M9) := Cn.ofZ rfl (Nat.le_of_ble_eq_true rfl) rfl (tX3_takeWord_0   M H)
theorem hdX3_takeWord : yX3_takeWord.cls ≠ "java/lang/invoke/MethodHandle" ∧ yX3_takeWord.cls ≠ "java/lang/invoke/VarHandle" ∧ (parseMethodDescriptor yX3_takeWord.desc).map (fun d => d.parameters.length) = some 0 := by decide +kernel

set_option maxRecDepth 100000 in
theorem tX3_nextToken_38 {l : Launch} {E : Env5}     (M : Mem) {M9 : Mem}  (H : fX3_nextToken_38   M = some M9) : Z l E RX3 cX3_nextToken 1 none 2 38 [(0, .ref (eA E (1)))] [] M (PR none M9) := by
  unfold fX3_nextToken_38 at H
  refine Z.aload_n dX3_nextToken_38 0 rfl ?_
  refine Z.aload_n dX3_nextToken_39 0 rfl ?_
  refine Z.get dX3_nextToken_40 inX3 (hc := rfl) (by decide) c3 3 (by decide) kw30 rfl rfl ?_
  refine wE H (fun M1 eM1 H => ?_)
  refine Z.put (ty := .int) (M' := M1) dX3_nextToken_43 inX3 tyX3_ok nmX3 (hc := rfl) (by decide) c3 5 (by decide) kw32 rfl rfl (by decide +kernel) rfl rfl (Nat.le_of_ble_eq_true rfl) (by rw [← eM1, c3, sI_k]; exact congrArg (fun q => Sum.inr (3, q)) u3_start) (by rw [← eM1]; exact sI_o) (by rw [← eM1]; exact (fun q => q)) ?_
  refine Z.aload_n dX3_nextToken_46 0 rfl ?_
  refine Z.get dX3_nextToken_47 inX3 (hc := rfl) (by decide) c3 3 (by decide) kw30 rfl rfl ?_
  refine Z.aload_n dX3_nextToken_50 0 rfl ?_
  refine Z.get dX3_nextToken_51 inX3 (hc := rfl) (by decide) c3 2 (by decide) kw28 rfl rfl ?_
  refine Z.icmp_ltH dX3_nextToken_54 H (fun br54 H => ?_) (fun br54 H => ?_)
  · refine Z.aload_n dX3_nextToken_66 0 rfl ?_
    refine Z.get dX3_nextToken_67 inX3 (hc := rfl) (by decide) c3 0 (by decide) kw26 rfl rfl ?_
    refine Z.aload_n dX3_nextToken_70 0 rfl ?_
    refine Z.get dX3_nextToken_71 inX3 (hc := rfl) (by decide) c3 3 (by decide) kw30 rfl rfl ?_
    refine Z.baldH dX3_nextToken_74 a3_bytes H (fun v2 H => ?_)
    refine Z.bipush (v := 59) dX3_nextToken_75 (by decide) ?_
    refine Z.icmp_neH dX3_nextToken_77 H (fun br77 H => ?_) (fun br77 H => ?_)
    · refine Z.aload_n dX3_nextToken_99 0 rfl ?_
      refine Z.get dX3_nextToken_100 inX3 (hc := rfl) (by decide) c3 0 (by decide) kw26 rfl rfl ?_
      refine Z.aload_n dX3_nextToken_103 0 rfl ?_
      refine Z.get dX3_nextToken_104 inX3 (hc := rfl) (by decide) c3 3 (by decide) kw30 rfl rfl ?_
      refine Z.baldH dX3_nextToken_107 a3_bytes H (fun v3 H => ?_)
      refine Z.bipush (v := 48) dX3_nextToken_108 (by decide) ?_
      refine Z.bipush (v := 57) dX3_nextToken_110 (by decide) ?_
      refine bindC H (fun v4 hv4 H => ?_)
      refine Z.callSN (As := [.int (v3), .int (48), .int (57)]) (rest := []) (st' := [.int (v4)]) dX3_nextToken_112 (kX4_isBetween  (v3) (48) (57) M1 hv4) kn223 kw197 kw1 kw198 hdX4_isBetween (by decide) (by decide) rfl rfl (Nat.le_of_ble_eq_true rfl) rfl ?_
      refine Z.if_eqH dX3_nextToken_115 H (fun br115 H => ?_) (fun br115 H => ?_)
      · refine Z.aload_n dX3_nextToken_125 0 rfl ?_
        refine Z.get dX3_nextToken_126 inX3 (hc := rfl) (by decide) c3 0 (by decide) kw26 rfl rfl ?_
        refine Z.aload_n dX3_nextToken_129 0 rfl ?_
        refine Z.get dX3_nextToken_130 inX3 (hc := rfl) (by decide) c3 3 (by decide) kw30 rfl rfl ?_
        refine Z.baldH dX3_nextToken_133 a3_bytes H (fun v5 H => ?_)
        refine Z.bipush (v := 97) dX3_nextToken_134 (by decide) ?_
        refine Z.bipush (v := 122) dX3_nextToken_136 (by decide) ?_
        refine bindC H (fun v6 hv6 H => ?_)
        refine Z.callSN (As := [.int (v5), .int (97), .int (122)]) (rest := []) (st' := [.int (v6)]) dX3_nextToken_138 (kX4_isBetween  (v5) (97) (122) M1 hv6) kn223 kw197 kw1 kw198 hdX4_isBetween (by decide) (by decide) rfl rfl (Nat.le_of_ble_eq_true rfl) rfl ?_
        refine Z.if_eqH dX3_nextToken_141 H (fun br141 H => ?_) (fun br141 H => ?_)
        · refine Z.aload_n dX3_nextToken_151 0 rfl ?_
          refine Z.bipush (v := 13) dX3_nextToken_152 (by decide) ?_
          refine wE H (fun M7 eM7 H => ?_)
          refine Z.put (ty := .int) (M' := M7) dX3_nextToken_154 inX3 tyX3_ok nmX3 (hc := rfl) (by decide) c3 4 (by decide) kw31 rfl rfl (by decide +kernel) rfl rfl (Nat.le_of_ble_eq_true rfl) (by rw [← eM7, c3, sI_k]; exact congrArg (fun q => Sum.inr (3, q)) u3_token) (by rw [← eM7]; exact sI_o) (by rw [← eM7]; exact (fun q => q)) ?_
          exact Z.vret rfl dX3_nextToken_157 (retV H)
        · refine Z.aload_n dX3_nextToken_144 0 rfl ?_
          refine bindC H (fun v8 hv8 H => ?_)
          refine Z.callV (As := []) (rest := []) (st' := []) dX3_nextToken_145 (kX3_takeWord   M1 hv8) kw231 kw233 ks2 kw2 kw234 hdX3_takeWord (by decide) c3 (hc := rfl) (by decide) (by decide) rfl rfl (Nat.le_of_ble_eq_true rfl) rfl ?_
          refine Z.goto dX3_nextToken_148 ?_
          exact Z.vret rfl dX3_nextToken_157 (retV H)
      · refine Z.aload_n dX3_nextToken_118 0 rfl ?_
        refine bindC H (fun v9 hv9 H => ?_)
        refine Z.callV (As := []) (rest := []) (st' := []) dX3_nextToken_119 (kX3_takeNumber   M1 hv9) kw224 kw226 ks1 kw2 kw227 hdX3_takeNumber (by decide) c3 (hc := rfl) (by decide) (by decide) rfl rfl (Nat.le_of_ble_eq_true rfl) rfl ?_
        refine Z.goto dX3_nextToken_122 ?_
        exact Z.vret rfl dX3_nextToken_157 (retV H)
    · refine Z.aload_n dX3_nextToken_80 0 rfl ?_
      refine Z.bipush (v := 11) dX3_nextToken_81 (by decide) ?_
      refine wE H (fun M10 eM10 H => ?_)
      refine Z.put (ty := .int) (M' := M10) dX3_nextToken_83 inX3 tyX3_ok nmX3 (hc := rfl) (by decide) c3 4 (by decide) kw31 rfl rfl (by decide +kernel) rfl rfl (Nat.le_of_ble_eq_true rfl) (by rw [← eM10, c3, sI_k]; exact congrArg (fun q => Sum.inr (3, q)) u3_token) (by rw [← eM10]; exact sI_o) (by rw [← eM10]; exact (fun q => q)) ?_
      refine Z.aload_n dX3_nextToken_86 0 rfl ?_
      refine Z.dup dX3_nextToken_87 rfl ?_
      refine Z.get dX3_nextToken_88 inX3 (hc := rfl) (by decide) c3 3 (by decide) kw30 rfl rfl ?_
      refine Z.iconst (v := 1) dX3_nextToken_91 (by decide) ?_
      refine Z.iadd dX3_nextToken_92 ?_
      refine wE H (fun M11 eM11 H => ?_)
      refine Z.put (ty := .int) (M' := M11) dX3_nextToken_93 inX3 tyX3_ok nmX3 (hc := rfl) (by decide) c3 3 (by decide) kw30 rfl rfl (by decide +kernel) rfl rfl (Nat.le_of_ble_eq_true rfl) (by rw [← eM11, c3, sI_k]; exact congrArg (fun q => Sum.inr (3, q)) u3_place) (by rw [← eM11]; exact sI_o) (by rw [← eM11]; exact (fun q => q)) ?_
      refine Z.goto dX3_nextToken_96 ?_
      exact Z.vret rfl dX3_nextToken_157 (retV H)
  · refine Z.aload_n dX3_nextToken_57 0 rfl ?_
    refine Z.bipush (v := 10) dX3_nextToken_58 (by decide) ?_
    refine wE H (fun M12 eM12 H => ?_)
    refine Z.put (ty := .int) (M' := M12) dX3_nextToken_60 inX3 tyX3_ok nmX3 (hc := rfl) (by decide) c3 4 (by decide) kw31 rfl rfl (by decide +kernel) rfl rfl (Nat.le_of_ble_eq_true rfl) (by rw [← eM12, c3, sI_k]; exact congrArg (fun q => Sum.inr (3, q)) u3_token) (by rw [← eM12]; exact sI_o) (by rw [← eM12]; exact (fun q => q)) ?_
    refine Z.goto dX3_nextToken_63 ?_
    exact Z.vret rfl dX3_nextToken_157 (retV H)
set_option maxRecDepth 100000 in
theorem tX3_nextToken_0 {l : Launch} {E : Env5}   {k0 : Mem → Option Mem}  (M : Mem) {M9 : Mem} (hk0 : ∀  (M : Mem), k0  M = some M9 → Z l E RX3 cX3_nextToken 1 none 2 0 [(0, .ref (eA E (1)))] [] M (PR none M9)) (H : fX3_nextToken_0B k0  M = some M9) : Z l E RX3 cX3_nextToken 1 none 2 0 [(0, .ref (eA E (1)))] [] M (PR none M9) := by
  unfold fX3_nextToken_0B at H
  refine Z.aload_n dX3_nextToken_0 0 rfl ?_
  refine Z.get dX3_nextToken_1 inX3 (hc := rfl) (by decide) c3 3 (by decide) kw30 rfl rfl ?_
  refine Z.aload_n dX3_nextToken_4 0 rfl ?_
  refine Z.get dX3_nextToken_5 inX3 (hc := rfl) (by decide) c3 2 (by decide) kw28 rfl rfl ?_
  refine Z.icmp_geH dX3_nextToken_8 H (fun br8 H => ?_) (fun br8 H => ?_)
  · refine Z.sub [0] rfl ?_
    exact tX3_nextToken_38   M  H
  · refine Z.aload_n dX3_nextToken_11 0 rfl ?_
    refine Z.get dX3_nextToken_12 inX3 (hc := rfl) (by decide) c3 0 (by decide) kw26 rfl rfl ?_
    refine Z.aload_n dX3_nextToken_15 0 rfl ?_
    refine Z.get dX3_nextToken_16 inX3 (hc := rfl) (by decide) c3 3 (by decide) kw30 rfl rfl ?_
    refine Z.baldH dX3_nextToken_19 a3_bytes H (fun v1 H => ?_)
    refine Z.bipush (v := 32) dX3_nextToken_20 (by decide) ?_
    refine Z.icmp_neH dX3_nextToken_22 H (fun br22 H => ?_) (fun br22 H => ?_)
    · refine Z.sub [0] rfl ?_
      exact tX3_nextToken_38   M  H
    · refine Z.aload_n dX3_nextToken_25 0 rfl ?_
      refine Z.dup dX3_nextToken_26 rfl ?_
      refine Z.get dX3_nextToken_27 inX3 (hc := rfl) (by decide) c3 3 (by decide) kw30 rfl rfl ?_
      refine Z.iconst (v := 1) dX3_nextToken_30 (by decide) ?_
      refine Z.iadd dX3_nextToken_31 ?_
      refine wE H (fun M2 eM2 H => ?_)
      refine Z.put (ty := .int) (M' := M2) dX3_nextToken_32 inX3 tyX3_ok nmX3 (hc := rfl) (by decide) c3 3 (by decide) kw30 rfl rfl (by decide +kernel) rfl rfl (Nat.le_of_ble_eq_true rfl) (by rw [← eM2, c3, sI_k]; exact congrArg (fun q => Sum.inr (3, q)) u3_place) (by rw [← eM2]; exact sI_o) (by rw [← eM2]; exact (fun q => q)) ?_
      refine Z.goto dX3_nextToken_35 ?_
      refine Z.sub [0] rfl ?_
      exact hk0  M2  H
theorem tX3_nextToken_0L {l : Launch} {E : Env5}     {M9 : Mem}  : ∀ (n : Nat)  (M : Mem), fX3_nextToken_0L   n  M = some M9 → Z l E RX3 cX3_nextToken 1 none 2 0 [(0, .ref (eA E (1)))] [] M (PR none M9) := by
  intro n
  induction n with
  | zero => intro  M H; exact absurd H (by simp [fX3_nextToken_0L])
  | succ n ih => intro  M H; exact tX3_nextToken_0   M  (fun  M H => ih  M H) H
theorem kX3_nextToken {l : Launch} {E : Env5}    (M : Mem) {M9 : Mem} (H : fX3_nextToken  M = some M9) : Cn l E yX3_nextToken cX3_nextToken 1 none 2 [.ref (eA E (1))] M (PR none M9) := Cn.ofZ rfl (Nat.le_of_ble_eq_true rfl) rfl (Z.sub [0] rfl (tX3_nextToken_0L   FU  M H))
theorem hdX3_nextToken : yX3_nextToken.cls ≠ "java/lang/invoke/MethodHandle" ∧ yX3_nextToken.cls ≠ "java/lang/invoke/VarHandle" ∧ (parseMethodDescriptor yX3_nextToken.desc).map (fun d => d.parameters.length) = some 0 := by decide +kernel

set_option maxRecDepth 100000 in
theorem tX3_readNumber_0 {l : Launch} {E : Env5}    (x1 : Int32) (x2 : Int32) (M : Mem) {v9 : Int32} {M9 : Mem}  (H : fX3_readNumber  x1 x2 M = some (v9, M9)) : Z l E RX3 cX3_readNumber 3 (some .boolean) 3 0 [(0, .ref (eA E (1))), (1, .int (x1)), (2, .int (x2))] [] M (PR (some (.int v9)) M9) := by
  unfold fX3_readNumber at H
  refine Z.aload_n dX3_readNumber_0 0 rfl ?_
  refine bindC H (fun v1 hv1 H => ?_)
  refine Z.callV (As := []) (rest := []) (st' := []) dX3_readNumber_1 (kX3_nextToken   M hv1) kw219 kw221 ks0 kw2 kw222 hdX3_nextToken (by decide) c3 (hc := rfl) (by decide) (by decide) rfl rfl (Nat.le_of_ble_eq_true rfl) rfl ?_
  refine Z.aload_n dX3_readNumber_4 0 rfl ?_
  refine Z.get dX3_readNumber_5 inX3 (hc := rfl) (by decide) c3 4 (by decide) kw31 rfl rfl ?_
  refine Z.bipush (v := 12) dX3_readNumber_8 (by decide) ?_
  refine Z.icmp_neH dX3_readNumber_10 H (fun br10 H => ?_) (fun br10 H => ?_)
  · refine Z.iconst (v := 0) dX3_readNumber_29 (by decide) ?_
    exact Z.zret rfl rfl dX3_readNumber_30 (retW H)
  · refine Z.aload_n dX3_readNumber_13 0 rfl ?_
    refine Z.get dX3_readNumber_14 inX3 (hc := rfl) (by decide) c3 6 (by decide) kw33 rfl rfl ?_
    refine Z.iload_n dX3_readNumber_17 1 rfl ?_
    refine Z.iload_n dX3_readNumber_18 2 rfl ?_
    refine bindC H (fun v2 hv2 H => ?_)
    refine Z.callSN (As := [.int (v1.1 1 6), .int (x1), .int (x2)]) (rest := []) (st' := [.int (v2)]) dX3_readNumber_19 (kX4_isBetween  (v1.1 1 6) (x1) (x2) v1 hv2) kn223 kw197 kw1 kw198 hdX4_isBetween (by decide) (by decide) rfl rfl (Nat.le_of_ble_eq_true rfl) rfl ?_
    refine Z.if_eqH dX3_readNumber_22 H (fun br22 H => ?_) (fun br22 H => ?_)
    · refine Z.iconst (v := 0) dX3_readNumber_29 (by decide) ?_
      exact Z.zret rfl rfl dX3_readNumber_30 (retW H)
    · refine Z.iconst (v := 1) dX3_readNumber_25 (by decide) ?_
      refine Z.goto dX3_readNumber_26 ?_
      exact Z.zret rfl rfl dX3_readNumber_30 (retW H)
theorem kX3_readNumber {l : Launch} {E : Env5}   (x1 : Int32) (x2 : Int32) (M : Mem) {v9 : Int32} {M9 : Mem} (H : fX3_readNumber x1 x2 M = some (v9, M9)) : Cn l E yX3_readNumber cX3_readNumber 3 (some .boolean) 3 [.ref (eA E (1)), .int (x1), .int (x2)] M (PR (some (.int v9)) M9) := Cn.ofZ rfl (Nat.le_of_ble_eq_true rfl) rfl (tX3_readNumber_0  x1 x2 M H)
theorem hdX3_readNumber : yX3_readNumber.cls ≠ "java/lang/invoke/MethodHandle" ∧ yX3_readNumber.cls ≠ "java/lang/invoke/VarHandle" ∧ (parseMethodDescriptor yX3_readNumber.desc).map (fun d => d.parameters.length) = some 2 := by decide +kernel

set_option maxRecDepth 100000 in
theorem tX3_readItem_84 {l : Launch} {E : Env5} {o1 : Nat} (ho1 : isSc o1) {k35 : Int32 → Int32 → Mem → Option (Int32 × Mem)} (x3 : Int32) (x4 : Int32) (x5 : Int32) (M : Mem) {v9 : Int32} {M9 : Mem} (hk35 : ∀ (x3 : Int32) (x4 : Int32) (M : Mem), k35 x3 x4 M = some (v9, M9) → Z l E RX3 cX3_readItem 6 (some .boolean) 4 35 [(0, .ref (eA E (1))), (1, .ref (eA E (o1))), (3, .int (x3)), (4, .int (x4))] [] M (PR (some (.int v9)) M9)) (H : fX3_readItem_84 k35 o1 x3 x4 x5 M = some (v9, M9)) : Z l E RX3 cX3_readItem 6 (some .boolean) 4 84 [(0, .ref (eA E (1))), (1, .ref (eA E (o1))), (3, .int (x3)), (4, .int (x4)), (5, .int (x5))] [] M (PR (some (.int v9)) M9) := by
  unfold fX3_readItem_84 at H
  refine Z.aload_n dX3_readItem_84 0 rfl ?_
  refine Z.gets dX3_readItem_85 (fun _ _ q => q.2.2.2.1) kw251 ?_
  refine Z.bipush (v := 6) dX3_readItem_88 (by decide) ?_
  refine Z.iload_n dX3_readItem_90 2 rfl ?_
  refine Z.imul dX3_readItem_91 ?_
  refine Z.iload dX3_readItem_92 3 rfl ?_
  refine Z.iadd dX3_readItem_94 ?_
  refine Z.taldH dX3_readItem_95 (fun _ _ q => q.2.2.2.1) H (fun v1 H => ?_)
  refine Z.iload dX3_readItem_96 4 rfl ?_
  refine bindC H (fun v2 hv2 H => ?_)
  refine Z.callV (As := [.int (v1), .int (x5)]) (rest := []) (st' := [.int (v2.1)]) dX3_readItem_98 (kX3_readNumber  (v1) (x5) M hv2) kw253 kw255 ks4 kw2 kw256 hdX3_readNumber (by decide) c3 (hc := rfl) (by decide) (by decide) rfl rfl (Nat.le_of_ble_eq_true rfl) rfl ?_
  refine Z.if_neH dX3_readItem_101 H (fun br101 H => ?_) (fun br101 H => ?_)
  · refine Z.aload_n dX3_readItem_106 0 rfl ?_
    refine Z.get dX3_readItem_107 inX3 (hc := rfl) (by decide) c3 1 (by decide) kw27 rfl rfl ?_
    refine Z.iload dX3_readItem_110 3 rfl ?_
    refine Z.aload_n dX3_readItem_112 0 rfl ?_
    refine Z.get dX3_readItem_113 inX3 (hc := rfl) (by decide) c3 6 (by decide) kw33 rfl rfl ?_
    refine Z.iastH dX3_readItem_116 a3_numbers H (fun M3 H => ?_)
    refine Z.iinc (v := x4 + 1) (lv' := [(4, .int (x4 + 1)), (0, .ref (eA E (1))), (1, .ref (eA E (o1))), (3, .int (x3)), (5, .int (x5))]) dX3_readItem_117 3 rfl rfl (by decide) rfl ?_
    refine Z.goto dX3_readItem_120 ?_
    refine Z.sub [1, 2, 3, 0] rfl ?_
    exact hk35 (x3) (x4 + 1) M3  H
  · refine Z.iconst (v := 0) dX3_readItem_104 (by decide) ?_
    exact Z.zret rfl rfl dX3_readItem_105 (retW H)
set_option maxRecDepth 100000 in
theorem tX3_readItem_80 {l : Launch} {E : Env5} {o1 : Nat} (ho1 : isSc o1) {k35 : Int32 → Int32 → Mem → Option (Int32 × Mem)} (x3 : Int32) (x4 : Int32) (s0 : Int32) (M : Mem) {v9 : Int32} {M9 : Mem} (hk35 : ∀ (x3 : Int32) (x4 : Int32) (M : Mem), k35 x3 x4 M = some (v9, M9) → Z l E RX3 cX3_readItem 6 (some .boolean) 4 35 [(0, .ref (eA E (1))), (1, .ref (eA E (o1))), (3, .int (x3)), (4, .int (x4))] [] M (PR (some (.int v9)) M9)) (H : fX3_readItem_80 k35 o1 x3 x4 s0 M = some (v9, M9)) : Z l E RX3 cX3_readItem 6 (some .boolean) 4 80 [(0, .ref (eA E (1))), (1, .ref (eA E (o1))), (3, .int (x3)), (4, .int (x4))] [.int (s0)] M (PR (some (.int v9)) M9) := by
  unfold fX3_readItem_80 at H
  refine Z.iconst (v := 1) dX3_readItem_80 (by decide) ?_
  refine Z.isub dX3_readItem_81 ?_
  refine Z.istore (lv' := [(5, .int (s0 - 1)), (0, .ref (eA E (1))), (1, .ref (eA E (o1))), (3, .int (x3)), (4, .int (x4))]) dX3_readItem_82 (by decide) rfl ?_
  refine Z.sub [1, 2, 3, 4, 0] rfl ?_
  exact tX3_readItem_84 ho1 (x3) (x4) (s0 - 1) M hk35 H
set_option maxRecDepth 100000 in
theorem tX3_readItem_35 {l : Launch} {E : Env5} {o1 : Nat} (ho1 : isSc o1) {k35 : Int32 → Int32 → Mem → Option (Int32 × Mem)} (x3 : Int32) (x4 : Int32) (M : Mem) {v9 : Int32} {M9 : Mem} (hk35 : ∀ (x3 : Int32) (x4 : Int32) (M : Mem), k35 x3 x4 M = some (v9, M9) → Z l E RX3 cX3_readItem 6 (some .boolean) 4 35 [(0, .ref (eA E (1))), (1, .ref (eA E (o1))), (3, .int (x3)), (4, .int (x4))] [] M (PR (some (.int v9)) M9)) (H : fX3_readItem_35B k35 o1 x3 x4 M = some (v9, M9)) : Z l E RX3 cX3_readItem 6 (some .boolean) 4 35 [(0, .ref (eA E (1))), (1, .ref (eA E (o1))), (3, .int (x3)), (4, .int (x4))] [] M (PR (some (.int v9)) M9) := by
  unfold fX3_readItem_35B at H
  refine Z.iload dX3_readItem_35 3 rfl ?_
  refine Z.gets dX3_readItem_37 (fun _ _ q => q.2.2.1) kw247 ?_
  refine Z.iload_n dX3_readItem_40 2 rfl ?_
  refine Z.taldH dX3_readItem_41 (fun _ _ q => q.2.2.1) H (fun v1 H => ?_)
  refine Z.icmp_geH dX3_readItem_42 H (fun br42 H => ?_) (fun br42 H => ?_)
  · refine Z.aload_n dX3_readItem_123 0 rfl ?_
    refine bindC H (fun v2 hv2 H => ?_)
    refine Z.callV (As := []) (rest := []) (st' := []) dX3_readItem_124 (kX3_nextToken   M hv2) kw219 kw221 ks0 kw2 kw222 hdX3_nextToken (by decide) c3 (hc := rfl) (by decide) (by decide) rfl rfl (Nat.le_of_ble_eq_true rfl) rfl ?_
    refine Z.aload_n dX3_readItem_127 0 rfl ?_
    refine Z.get dX3_readItem_128 inX3 (hc := rfl) (by decide) c3 4 (by decide) kw31 rfl rfl ?_
    refine Z.bipush (v := 11) dX3_readItem_131 (by decide) ?_
    refine Z.icmp_eqH dX3_readItem_133 H (fun br133 H => ?_) (fun br133 H => ?_)
    · refine Z.aload_n dX3_readItem_138 1 rfl ?_
      refine Z.iload_n dX3_readItem_139 2 rfl ?_
      refine Z.aload_n dX3_readItem_140 0 rfl ?_
      refine Z.get dX3_readItem_141 inX3 (hc := rfl) (by decide) c3 1 (by decide) kw27 rfl rfl ?_
      refine bindC H (fun v3 hv3 H => ?_)
      refine Z.callV (As := [.int (x3), .ref (eA E (3))]) (rest := []) (st' := []) dX3_readItem_144 (kX2_addItem ho1 a3_numbers (x3) v2 hv3) kw257 kw258 kw259 kw6 kw260 hdX2_addItem (cS ho1) (c2 ho1) (hc := rfl) (by decide) (by decide) rfl rfl (Nat.le_of_ble_eq_true rfl) rfl ?_
      refine Z.iconst (v := 1) dX3_readItem_147 (by decide) ?_
      exact Z.zret rfl rfl dX3_readItem_148 (retW H)
    · refine Z.iconst (v := 0) dX3_readItem_136 (by decide) ?_
      exact Z.zret rfl rfl dX3_readItem_137 (retW H)
  · refine Z.gets dX3_readItem_45 (fun _ _ q => q.2.2.2.2) kw249 ?_
    refine Z.bipush (v := 6) dX3_readItem_48 (by decide) ?_
    refine Z.iload_n dX3_readItem_50 2 rfl ?_
    refine Z.imul dX3_readItem_51 ?_
    refine Z.iload dX3_readItem_52 3 rfl ?_
    refine Z.iadd dX3_readItem_54 ?_
    refine Z.taldH dX3_readItem_55 (fun _ _ q => q.2.2.2.2) H (fun v4 H => ?_)
    refine Z.istore (lv' := [(5, .int (v4)), (0, .ref (eA E (1))), (1, .ref (eA E (o1))), (3, .int (x3)), (4, .int (x4))]) dX3_readItem_56 (by decide) rfl ?_
    refine Z.iload dX3_readItem_58 0 rfl ?_
    refine Z.iconst (v := (-1)) dX3_readItem_60 (by decide) ?_
    refine Z.icmp_neH dX3_readItem_61 H (fun br61 H => ?_) (fun br61 H => ?_)
    · refine Z.sub [1, 2, 3, 4, 0] rfl ?_
      exact tX3_readItem_84 ho1 (x3) (x4) (v4) M hk35 H
    · refine Z.iload dX3_readItem_64 4 rfl ?_
      refine Z.if_neH dX3_readItem_66 H (fun br66 H => ?_) (fun br66 H => ?_)
      · refine Z.aload_n dX3_readItem_76 2 rfl ?_
        refine Z.getN dX3_readItem_77 inX2 (hc := rfl) (cS ho1) (c2 ho1) 4 (by decide) kn122 rfl rfl ?_
        refine Z.sub [1, 2, 3, 4] rfl ?_
        exact tX3_readItem_80 ho1 (x3) (x4) (M.1 o1 4) M hk35 H
      · refine Z.aload_n dX3_readItem_69 2 rfl ?_
        refine Z.getN dX3_readItem_70 inX2 (hc := rfl) (cS ho1) (c2 ho1) 3 (by decide) kn119 rfl rfl ?_
        refine Z.goto dX3_readItem_73 ?_
        refine Z.sub [1, 2, 3, 4] rfl ?_
        exact tX3_readItem_80 ho1 (x3) (x4) (M.1 o1 3) M hk35 H
theorem tX3_readItem_35L {l : Launch} {E : Env5} {o1 : Nat} (ho1 : isSc o1)   {v9 : Int32} {M9 : Mem}  : ∀ (n : Nat) (x3 : Int32) (x4 : Int32) (M : Mem), fX3_readItem_35L  o1 n x3 x4 M = some (v9, M9) → Z l E RX3 cX3_readItem 6 (some .boolean) 4 35 [(0, .ref (eA E (1))), (1, .ref (eA E (o1))), (3, .int (x3)), (4, .int (x4))] [] M (PR (some (.int v9)) M9) := by
  intro n
  induction n with
  | zero => intro x3 x4 M H; exact absurd H (by simp [fX3_readItem_35L])
  | succ n ih => intro x3 x4 M H; exact tX3_readItem_35 ho1 x3 x4 M  (fun x3 x4 M H => ih x3 x4 M H) H
set_option maxRecDepth 100000 in
theorem tX3_readItem_32 {l : Launch} {E : Env5} {o1 : Nat} (ho1 : isSc o1)  (x3 : Int32) (M : Mem) {v9 : Int32} {M9 : Mem}  (H : fX3_readItem_32  o1 x3 M = some (v9, M9)) : Z l E RX3 cX3_readItem 6 (some .boolean) 4 32 [(0, .ref (eA E (1))), (1, .ref (eA E (o1))), (3, .int (x3))] [] M (PR (some (.int v9)) M9) := by
  unfold fX3_readItem_32 at H
  refine Z.iconst (v := 0) dX3_readItem_32 (by decide) ?_
  refine Z.istore (lv' := [(4, .int (0)), (0, .ref (eA E (1))), (1, .ref (eA E (o1))), (3, .int (x3))]) dX3_readItem_33 (by decide) rfl ?_
  refine Z.sub [1, 2, 3, 0] rfl ?_
  exact tX3_readItem_35L ho1  FU (x3) (0) M H
set_option maxRecDepth 100000 in
theorem tX3_readItem_0 {l : Launch} {E : Env5} {o1 : Nat} (ho1 : isSc o1)  (x2 : Int32) (M : Mem) {v9 : Int32} {M9 : Mem}  (H : fX3_readItem  o1 x2 M = some (v9, M9)) : Z l E RX3 cX3_readItem 6 (some .boolean) 4 0 [(0, .ref (eA E (1))), (1, .ref (eA E (o1))), (2, .int (x2))] [] M (PR (some (.int v9)) M9) := by
  unfold fX3_readItem at H
  refine Z.aload_n dX3_readItem_0 0 rfl ?_
  refine Z.get dX3_readItem_1 inX3 (hc := rfl) (by decide) c3 4 (by decide) kw31 rfl rfl ?_
  refine Z.istore_n (lv' := [(3, .int (M.1 1 4)), (0, .ref (eA E (1))), (1, .ref (eA E (o1))), (2, .int (x2))]) dX3_readItem_4 (by decide) rfl ?_
  refine Z.iload_n dX3_readItem_5 0 rfl ?_
  refine Z.iconst (v := 0) dX3_readItem_6 (by decide) ?_
  refine Z.iconst (v := 3) dX3_readItem_7 (by decide) ?_
  refine bindC H (fun v1 hv1 H => ?_)
  refine Z.callSN (As := [.int (M.1 1 4), .int (0), .int (3)]) (rest := []) (st' := [.int (v1)]) dX3_readItem_8 (kX4_isBetween  (M.1 1 4) (0) (3) M hv1) kn223 kw197 kw1 kw198 hdX4_isBetween (by decide) (by decide) rfl rfl (Nat.le_of_ble_eq_true rfl) rfl ?_
  refine Z.if_eqH dX3_readItem_11 H (fun br11 H => ?_) (fun br11 H => ?_)
  · refine Z.iconst (v := 0) dX3_readItem_30 (by decide) ?_
    exact Z.zret rfl rfl dX3_readItem_31 (retW H)
  · refine Z.aload_n dX3_readItem_14 2 rfl ?_
    refine Z.iload_n dX3_readItem_15 0 rfl ?_
    refine bindC H (fun v2 hv2 H => ?_)
    refine Z.callV (As := [.int (M.1 1 4)]) (rest := []) (st' := [.int (v2)]) dX3_readItem_16 (kX2_hasRoomFor ho1 (M.1 1 4) M hv2) kw243 kw244 kw245 kw6 kw246 hdX2_hasRoomFor (cS ho1) (c2 ho1) (hc := rfl) (by decide) (by decide) rfl rfl (Nat.le_of_ble_eq_true rfl) rfl ?_
    refine Z.if_eqH dX3_readItem_19 H (fun br19 H => ?_) (fun br19 H => ?_)
    · refine Z.iconst (v := 0) dX3_readItem_30 (by decide) ?_
      exact Z.zret rfl rfl dX3_readItem_31 (retW H)
    · refine Z.iload_n dX3_readItem_22 0 rfl ?_
      refine Z.if_neH dX3_readItem_23 H (fun br23 H => ?_) (fun br23 H => ?_)
      · refine Z.sub [1, 2, 0] rfl ?_
        exact tX3_readItem_32 ho1 (M.1 1 4) M  H
      · refine Z.iload_n dX3_readItem_26 3 rfl ?_
        refine Z.if_neH dX3_readItem_27 H (fun br27 H => ?_) (fun br27 H => ?_)
        · refine Z.sub [1, 2, 0] rfl ?_
          exact tX3_readItem_32 ho1 (M.1 1 4) M  H
        · refine Z.iconst (v := 0) dX3_readItem_30 (by decide) ?_
          exact Z.zret rfl rfl dX3_readItem_31 (retW H)
theorem kX3_readItem {l : Launch} {E : Env5} {o1 : Nat} (ho1 : isSc o1) (x2 : Int32) (M : Mem) {v9 : Int32} {M9 : Mem} (H : fX3_readItem o1 x2 M = some (v9, M9)) : Cn l E yX3_readItem cX3_readItem 6 (some .boolean) 4 [.ref (eA E (1)), .ref (eA E (o1)), .int (x2)] M (PR (some (.int v9)) M9) := Cn.ofZ rfl (Nat.le_of_ble_eq_true rfl) rfl (tX3_readItem_0 ho1 x2 M H)
theorem hdX3_readItem : yX3_readItem.cls ≠ "java/lang/invoke/MethodHandle" ∧ yX3_readItem.cls ≠ "java/lang/invoke/VarHandle" ∧ (parseMethodDescriptor yX3_readItem.desc).map (fun d => d.parameters.length) = some 2 := by decide +kernel

set_option maxRecDepth 100000 in
theorem tX3_readInto_44 {l : Launch} {E : Env5} {o1 : Nat} (ho1 : isSc o1) {k11 : Int32 → Mem → Option (Int32 × Mem)} (x2 : Int32) (s0 : Int32) (M : Mem) {v9 : Int32} {M9 : Mem} (hk11 : ∀ (x2 : Int32) (M : Mem), k11 x2 M = some (v9, M9) → Z l E RX3 cX3_readInto 3 (some .int) 5 11 [(0, .ref (eA E (1))), (1, .ref (eA E (o1))), (2, .int (x2))] [] M (PR (some (.int v9)) M9)) (H : fX3_readInto_44 k11 o1 x2 s0 M = some (v9, M9)) : Z l E RX3 cX3_readInto 3 (some .int) 5 44 [(0, .ref (eA E (1))), (1, .ref (eA E (o1))), (2, .int (x2))] [.int (s0), .ref (eA E (o1)), .ref (eA E (1))] M (PR (some (.int v9)) M9) := by
  unfold fX3_readInto_44 at H
  refine bindC H (fun v1 hv1 H => ?_)
  refine Z.callV (As := [.ref (eA E (o1)), .int (s0)]) (rest := []) (st' := [.int (v1.1)]) dX3_readInto_44 (kX3_readItem ho1 (s0) M hv1) kw239 kw241 ks3 kw2 kw242 hdX3_readItem (by decide) c3 (hc := rfl) (by decide) (by decide) rfl rfl (Nat.le_of_ble_eq_true rfl) rfl ?_
  refine Z.if_neH dX3_readInto_47 H (fun br47 H => ?_) (fun br47 H => ?_)
  · refine Z.iinc (v := x2 + 1) (lv' := [(2, .int (x2 + 1)), (0, .ref (eA E (1))), (1, .ref (eA E (o1)))]) dX3_readInto_58 2 rfl rfl (by decide) rfl ?_
    refine Z.goto dX3_readInto_61 ?_
    refine Z.sub [1, 2, 0] rfl ?_
    exact hk11 (x2 + 1) v1.2  H
  · refine Z.bipush (v := (-10)) dX3_readInto_50 (by decide) ?_
    refine Z.aload_n dX3_readInto_52 0 rfl ?_
    refine Z.get dX3_readInto_53 inX3 (hc := rfl) (by decide) c3 5 (by decide) kw32 rfl rfl ?_
    refine Z.isub dX3_readInto_56 ?_
    exact Z.iret rfl dX3_readInto_57 (retW H)
set_option maxRecDepth 100000 in
theorem tX3_readInto_11 {l : Launch} {E : Env5} {o1 : Nat} (ho1 : isSc o1) {k11 : Int32 → Mem → Option (Int32 × Mem)} (x2 : Int32) (M : Mem) {v9 : Int32} {M9 : Mem} (hk11 : ∀ (x2 : Int32) (M : Mem), k11 x2 M = some (v9, M9) → Z l E RX3 cX3_readInto 3 (some .int) 5 11 [(0, .ref (eA E (1))), (1, .ref (eA E (o1))), (2, .int (x2))] [] M (PR (some (.int v9)) M9)) (H : fX3_readInto_11B k11 o1 x2 M = some (v9, M9)) : Z l E RX3 cX3_readInto 3 (some .int) 5 11 [(0, .ref (eA E (1))), (1, .ref (eA E (o1))), (2, .int (x2))] [] M (PR (some (.int v9)) M9) := by
  unfold fX3_readInto_11B at H
  refine Z.iload_n dX3_readInto_11 2 rfl ?_
  refine Z.sipush (v := 400) dX3_readInto_12 (by decide) ?_
  refine Z.icmp_gtH dX3_readInto_15 H (fun br15 H => ?_) (fun br15 H => ?_)
  · refine Z.bipush (v := (-10)) dX3_readInto_64 (by decide) ?_
    refine Z.aload_n dX3_readInto_66 0 rfl ?_
    refine Z.get dX3_readInto_67 inX3 (hc := rfl) (by decide) c3 5 (by decide) kw32 rfl rfl ?_
    refine Z.isub dX3_readInto_70 ?_
    exact Z.iret rfl dX3_readInto_71 (retW H)
  · refine Z.aload_n dX3_readInto_18 0 rfl ?_
    refine bindC H (fun v1 hv1 H => ?_)
    refine Z.callV (As := []) (rest := []) (st' := []) dX3_readInto_19 (kX3_nextToken   M hv1) kw219 kw221 ks0 kw2 kw222 hdX3_nextToken (by decide) c3 (hc := rfl) (by decide) (by decide) rfl rfl (Nat.le_of_ble_eq_true rfl) rfl ?_
    refine Z.aload_n dX3_readInto_22 0 rfl ?_
    refine Z.get dX3_readInto_23 inX3 (hc := rfl) (by decide) c3 4 (by decide) kw31 rfl rfl ?_
    refine Z.bipush (v := 10) dX3_readInto_26 (by decide) ?_
    refine Z.icmp_neH dX3_readInto_28 H (fun br28 H => ?_) (fun br28 H => ?_)
    · refine Z.aload_n dX3_readInto_33 0 rfl ?_
      refine Z.aload_n dX3_readInto_34 1 rfl ?_
      refine Z.iload_n dX3_readInto_35 2 rfl ?_
      refine Z.if_neH dX3_readInto_36 H (fun br36 H => ?_) (fun br36 H => ?_)
      · refine Z.iconst (v := 0) dX3_readInto_43 (by decide) ?_
        refine Z.sub [0, 1, 2] rfl ?_
        exact tX3_readInto_44 ho1 (x2) (0) v1 hk11 H
      · refine Z.iconst (v := 1) dX3_readInto_39 (by decide) ?_
        refine Z.goto dX3_readInto_40 ?_
        refine Z.sub [0, 1, 2] rfl ?_
        exact tX3_readInto_44 ho1 (x2) (1) v1 hk11 H
    · refine Z.iload_n dX3_readInto_31 2 rfl ?_
      exact Z.iret rfl dX3_readInto_32 (retW H)
theorem tX3_readInto_11L {l : Launch} {E : Env5} {o1 : Nat} (ho1 : isSc o1)   {v9 : Int32} {M9 : Mem}  : ∀ (n : Nat) (x2 : Int32) (M : Mem), fX3_readInto_11L  o1 n x2 M = some (v9, M9) → Z l E RX3 cX3_readInto 3 (some .int) 5 11 [(0, .ref (eA E (1))), (1, .ref (eA E (o1))), (2, .int (x2))] [] M (PR (some (.int v9)) M9) := by
  intro n
  induction n with
  | zero => intro x2 M H; exact absurd H (by simp [fX3_readInto_11L])
  | succ n ih => intro x2 M H; exact tX3_readInto_11 ho1 x2 M  (fun x2 M H => ih x2 M H) H
set_option maxRecDepth 100000 in
theorem tX3_readInto_0 {l : Launch} {E : Env5} {o1 : Nat} (ho1 : isSc o1)   (M : Mem) {v9 : Int32} {M9 : Mem}  (H : fX3_readInto  o1 M = some (v9, M9)) : Z l E RX3 cX3_readInto 3 (some .int) 5 0 [(0, .ref (eA E (1))), (1, .ref (eA E (o1)))] [] M (PR (some (.int v9)) M9) := by
  unfold fX3_readInto at H
  refine Z.aload_n dX3_readInto_0 1 rfl ?_
  refine bindC H (fun v1 hv1 H => ?_)
  refine Z.callV (As := []) (rest := []) (st' := []) dX3_readInto_1 (kX2_beginAnew ho1  M hv1) kw215 kw216 kw217 kw6 kw218 hdX2_beginAnew (cS ho1) (c2 ho1) (hc := rfl) (by decide) (by decide) rfl rfl (Nat.le_of_ble_eq_true rfl) rfl ?_
  refine Z.aload_n dX3_readInto_4 0 rfl ?_
  refine Z.iconst (v := 0) dX3_readInto_5 (by decide) ?_
  refine wE H (fun M2 eM2 H => ?_)
  refine Z.put (ty := .int) (M' := M2) dX3_readInto_6 inX3 tyX3_ok nmX3 (hc := rfl) (by decide) c3 3 (by decide) kw30 rfl rfl (by decide +kernel) rfl rfl (Nat.le_of_ble_eq_true rfl) (by rw [← eM2, c3, sI_k]; exact congrArg (fun q => Sum.inr (3, q)) u3_place) (by rw [← eM2]; exact sI_o) (by rw [← eM2]; exact (fun q => q)) ?_
  refine Z.iconst (v := 0) dX3_readInto_9 (by decide) ?_
  refine Z.istore_n (lv' := [(2, .int (0)), (0, .ref (eA E (1))), (1, .ref (eA E (o1)))]) dX3_readInto_10 (by decide) rfl ?_
  refine Z.sub [1, 2, 0] rfl ?_
  exact tX3_readInto_11L ho1  FU (0) M2 H
theorem kX3_readInto {l : Launch} {E : Env5} {o1 : Nat} (ho1 : isSc o1)  (M : Mem) {v9 : Int32} {M9 : Mem} (H : fX3_readInto o1 M = some (v9, M9)) : Cn l E yX3_readInto cX3_readInto 3 (some .int) 5 [.ref (eA E (1)), .ref (eA E (o1))] M (PR (some (.int v9)) M9) := Cn.ofZ rfl (Nat.le_of_ble_eq_true rfl) rfl (tX3_readInto_0 ho1  M H)
theorem hdX3_readInto : yX3_readInto.cls ≠ "java/lang/invoke/MethodHandle" ∧ yX3_readInto.cls ≠ "java/lang/invoke/VarHandle" ∧ (parseMethodDescriptor yX3_readInto.desc).map (fun d => d.parameters.length) = some 1 := by decide +kernel

set_option maxRecDepth 100000 in
theorem tX4_type_0 {l : Launch} {E : Env5}    (x1 : Int64) (x3 : Int32) (M : Mem) {v9 : Int32} {M9 : Mem}  (H : fX4_type  x1 x3 M = some (v9, M9)) : Z l E RX4 cX4_type 4 (some .int) 1 0 [(0, .ref (eA E (0))), (1, .long (x1)), (3, .int (x3))] [] M (PR (some (.int v9)) M9) := by
  unfold fX4_type at H
  refine Z.iload_n dX4_type_0 2 rfl ?_
  refine Z.iconst (v := 1) dX4_type_1 (by decide) ?_
  refine Z.bipush (v := 8) dX4_type_2 (by decide) ?_
  refine bindC H (fun v1 hv1 H => ?_)
  refine Z.callS (As := [.int (x3), .int (1), .int (8)]) (rest := []) (st' := [.int (v1)]) dX4_type_4 (kX4_isBetween  (x3) (1) (8) M hv1) kw196 kw197 kw1 kw198 hdX4_isBetween (by decide) (by decide) rfl rfl (Nat.le_of_ble_eq_true rfl) rfl ?_
  refine Z.if_neH dX4_type_7 H (fun br7 H => ?_) (fun br7 H => ?_)
  · refine Z.aload_n dX4_type_12 0 rfl ?_
    refine Z.get dX4_type_13 inX4 (hc := rfl) (by decide) c4 0 (by decide) kw167 rfl rfl ?_
    refine Z.getN dX4_type_16 inX3 (hc := rfl) (by decide) c3 2 (by decide) kn29 rfl rfl ?_
    refine Z.iload_n dX4_type_19 2 rfl ?_
    refine Z.iadd dX4_type_20 ?_
    refine Z.sipush (v := 400) dX4_type_21 (by decide) ?_
    refine Z.icmp_leH dX4_type_24 H (fun br24 H => ?_) (fun br24 H => ?_)
    · refine Z.aload_n dX4_type_30 0 rfl ?_
      refine Z.get dX4_type_31 inX4 (hc := rfl) (by decide) c4 0 (by decide) kw167 rfl rfl ?_
      refine Z.lload_n dX4_type_34 1 rfl ?_
      refine Z.iload_n dX4_type_35 2 rfl ?_
      refine bindC H (fun v2 hv2 H => ?_)
      refine Z.callV (As := [.long (x1), .int (x3)]) (rest := []) (st' := [.int (v2.1)]) dX4_type_36 (kX3_append  (x1) (x3) M hv2) kw199 kw200 kw201 kw2 kw202 hdX3_append (by decide) c3 (hc := rfl) (by decide) (by decide) rfl rfl (Nat.le_of_ble_eq_true rfl) rfl ?_
      exact Z.iret rfl dX4_type_39 (retW H)
    · refine Z.bipush (v := (-3)) dX4_type_27 (by decide) ?_
      exact Z.iret rfl dX4_type_29 (retW H)
  · refine Z.iconst (v := (-1)) dX4_type_10 (by decide) ?_
    exact Z.iret rfl dX4_type_11 (retW H)
theorem kX4_type {l : Launch} {E : Env5}   (x1 : Int64) (x3 : Int32) (M : Mem) {v9 : Int32} {M9 : Mem} (H : fX4_type x1 x3 M = some (v9, M9)) : Cn l E yX4_type cX4_type 4 (some .int) 1 [.ref (eA E (0)), .long (x1), .int (x3)] M (PR (some (.int v9)) M9) := Cn.ofZ rfl (Nat.le_of_ble_eq_true rfl) rfl (tX4_type_0  x1 x3 M H)
theorem hdX4_type : yX4_type.cls ≠ "java/lang/invoke/MethodHandle" ∧ yX4_type.cls ≠ "java/lang/invoke/VarHandle" ∧ (parseMethodDescriptor yX4_type.desc).map (fun d => d.parameters.length) = some 2 := by decide +kernel

set_option maxRecDepth 100000 in
theorem tX4_clear_0 {l : Launch} {E : Env5}     (M : Mem) {v9 : Int32} {M9 : Mem}  (H : fX4_clear   M = some (v9, M9)) : Z l E RX4 cX4_clear 2 (some .int) 0 0 [(0, .ref (eA E (0)))] [] M (PR (some (.int v9)) M9) := by
  unfold fX4_clear at H
  refine Z.aload_n dX4_clear_0 0 rfl ?_
  refine Z.get dX4_clear_1 inX4 (hc := rfl) (by decide) c4 0 (by decide) kw167 rfl rfl ?_
  refine Z.getN dX4_clear_4 inX3 (hc := rfl) (by decide) c3 2 (by decide) kn29 rfl rfl ?_
  refine Z.istore_n (lv' := [(1, .int (M.1 1 2)), (0, .ref (eA E (0)))]) dX4_clear_7 (by decide) rfl ?_
  refine Z.aload_n dX4_clear_8 1 rfl ?_
  refine Z.get dX4_clear_9 inX4 (hc := rfl) (by decide) c4 0 (by decide) kw167 rfl rfl ?_
  refine Z.iconst (v := 0) dX4_clear_12 (by decide) ?_
  refine wE H (fun M1 eM1 H => ?_)
  refine Z.putN (ty := .int) (M' := M1) dX4_clear_13 inX3 tyX3_ok nmX3 (hc := rfl) (by decide) c3 2 (by decide) kn29 rfl rfl (by decide +kernel) rfl rfl (Nat.le_of_ble_eq_true rfl) (by rw [← eM1, c3, sI_k]; exact congrArg (fun q => Sum.inr (3, q)) u3_length) (by rw [← eM1]; exact sI_o) (by rw [← eM1]; exact (fun q => q)) ?_
  refine Z.iload_n dX4_clear_16 0 rfl ?_
  exact Z.iret rfl dX4_clear_17 (retW H)
theorem kX4_clear {l : Launch} {E : Env5}    (M : Mem) {v9 : Int32} {M9 : Mem} (H : fX4_clear  M = some (v9, M9)) : Cn l E yX4_clear cX4_clear 2 (some .int) 0 [.ref (eA E (0))] M (PR (some (.int v9)) M9) := Cn.ofZ rfl (Nat.le_of_ble_eq_true rfl) rfl (tX4_clear_0   M H)
theorem hdX4_clear : yX4_clear.cls ≠ "java/lang/invoke/MethodHandle" ∧ yX4_clear.cls ≠ "java/lang/invoke/VarHandle" ∧ (parseMethodDescriptor yX4_clear.desc).map (fun d => d.parameters.length) = some 0 := by decide +kernel

set_option maxRecDepth 100000 in
theorem tX4_square_69 {l : Launch} {E : Env5}   {k69 : Int32 → Int32 → Mem → Option (Int32 × Mem)} (x1 : Int32) (x3 : Int32) (M : Mem) {v9 : Int32} {M9 : Mem} (hk69 : ∀ (x1 : Int32) (x3 : Int32) (M : Mem), k69 x1 x3 M = some (v9, M9) → Z l E RX4 cX4_square 4 (some .int) 6 69 [(0, .ref (eA E (0))), (1, .int (x1)), (3, .int (x3))] [] M (PR (some (.int v9)) M9)) (H : fX4_square_69B k69 x1 x3 M = some (v9, M9)) : Z l E RX4 cX4_square 4 (some .int) 6 69 [(0, .ref (eA E (0))), (1, .int (x1)), (3, .int (x3))] [] M (PR (some (.int v9)) M9) := by
  unfold fX4_square_69B at H
  refine Z.iload_n dX4_square_69 2 rfl ?_
  refine Z.iconst (v := 2) dX4_square_70 (by decide) ?_
  refine Z.icmp_geH dX4_square_71 H (fun br71 H => ?_) (fun br71 H => ?_)
  · refine Z.iload_n dX4_square_87 1 rfl ?_
    exact Z.iret rfl dX4_square_88 (retW H)
  · refine Z.aload_n dX4_square_74 0 rfl ?_
    refine Z.get dX4_square_75 inX4 (hc := rfl) (by decide) c4 3 (by decide) kw170 rfl rfl ?_
    refine Z.iload_n dX4_square_78 2 rfl ?_
    refine Z.iconst (v := 0) dX4_square_79 (by decide) ?_
    refine Z.zastH dX4_square_80 a4_kept H (fun M1 H => ?_)
    refine Z.iinc (v := x3 + 1) (lv' := [(3, .int (x3 + 1)), (0, .ref (eA E (0))), (1, .int (x1))]) dX4_square_81 2 rfl rfl (by decide) rfl ?_
    refine Z.goto dX4_square_84 ?_
    refine Z.sub [1, 2, 0] rfl ?_
    exact hk69 (x1) (x3 + 1) M1  H
theorem tX4_square_69L {l : Launch} {E : Env5}     {v9 : Int32} {M9 : Mem}  : ∀ (n : Nat) (x1 : Int32) (x3 : Int32) (M : Mem), fX4_square_69L   n x1 x3 M = some (v9, M9) → Z l E RX4 cX4_square 4 (some .int) 6 69 [(0, .ref (eA E (0))), (1, .int (x1)), (3, .int (x3))] [] M (PR (some (.int v9)) M9) := by
  intro n
  induction n with
  | zero => intro x1 x3 M H; exact absurd H (by simp [fX4_square_69L])
  | succ n ih => intro x1 x3 M H; exact tX4_square_69  x1 x3 M  (fun x1 x3 M H => ih x1 x3 M H) H
set_option maxRecDepth 100000 in
theorem tX4_square_0 {l : Launch} {E : Env5}     (M : Mem) {v9 : Int32} {M9 : Mem}  (H : fX4_square   M = some (v9, M9)) : Z l E RX4 cX4_square 4 (some .int) 6 0 [(0, .ref (eA E (0)))] [] M (PR (some (.int v9)) M9) := by
  unfold fX4_square at H
  refine Z.aload_n dX4_square_0 0 rfl ?_
  refine Z.get dX4_square_1 inX4 (hc := rfl) (by decide) c4 0 (by decide) kw167 rfl rfl ?_
  refine Z.aload_n dX4_square_4 0 rfl ?_
  refine Z.get dX4_square_5 inX4 (hc := rfl) (by decide) c4 6 (by decide) kw173 rfl rfl ?_
  refine Z.wf (fun hs5 => ?_)
  refine bindC H (fun v1 hv1 H => ?_)
  refine Z.callV (As := [.ref (eA E (M.2.2 0 6))]) (rest := []) (st' := [.int (v1.1)]) dX4_square_8 (kX3_readInto hs5.2  M hv1) kw211 kw212 kw213 kw2 kw214 hdX3_readInto (by decide) c3 (hc := rfl) (by decide) (by decide) rfl rfl (Nat.le_of_ble_eq_true rfl) rfl ?_
  refine Z.istore_n (lv' := [(1, .int (v1.1)), (0, .ref (eA E (0)))]) dX4_square_11 (by decide) rfl ?_
  refine Z.iload_n dX4_square_12 0 rfl ?_
  refine Z.if_geH dX4_square_13 H (fun br13 H => ?_) (fun br13 H => ?_)
  · refine Z.aload_n dX4_square_18 1 rfl ?_
    refine Z.get dX4_square_19 inX4 (hc := rfl) (by decide) c4 6 (by decide) kw173 rfl rfl ?_
    refine Z.wf (fun hs19 => ?_)
    refine Z.bipush (v := 9) dX4_square_22 (by decide) ?_
    refine Z.aload_n dX4_square_24 1 rfl ?_
    refine Z.get dX4_square_25 inX4 (hc := rfl) (by decide) c4 6 (by decide) kw173 rfl rfl ?_
    refine Z.wf (fun hs25 => ?_)
    refine Z.getN dX4_square_28 inX2 (hc := rfl) (cS hs25.2) (c2 hs25.2) 11 (by decide) kn134 rfl rfl ?_
    refine bindC H (fun v2 hv2 H => ?_)
    refine Z.callV (As := [.int (9), .ref (eA E (v1.2.2.2 0 6 + 6))]) (rest := []) (st' := []) dX4_square_31 (kX2_showAll hs19.2 (a2_shown hs25.2) (9) v1.2 hv2) kw273 kw274 kw275 kw6 kw276 hdX2_showAll (cS hs19.2) (c2 hs19.2) (hc := rfl) (by decide) (by decide) rfl rfl (Nat.le_of_ble_eq_true rfl) rfl ?_
    refine Z.aload_n dX4_square_34 1 rfl ?_
    refine Z.get dX4_square_35 inX4 (hc := rfl) (by decide) c4 5 (by decide) kw172 rfl rfl ?_
    refine Z.wf (fun hs35 => ?_)
    refine Z.astore_n (lv' := [(2, .ref (eA E (v2.2.2 0 5))), (1, .int (v1.1)), (0, .ref (eA E (0)))]) dX4_square_38 (by decide) rfl ?_
    refine Z.aload_n dX4_square_39 2 rfl ?_
    refine Z.aload_n dX4_square_40 2 rfl ?_
    refine Z.get dX4_square_41 inX4 (hc := rfl) (by decide) c4 6 (by decide) kw173 rfl rfl ?_
    refine Z.wf (fun hs41 => ?_)
    refine wE H (fun M3 eM3 H => ?_)
    refine Z.put (ty := (.object "SquareAlbum$Scene")) (M' := M3) dX4_square_44 inX4 tyX4_ok nmX4 (hc := rfl) (by decide) c4 5 (by decide) kw172 rfl rfl (by decide +kernel) rfl rfl (Nat.le_of_ble_eq_true rfl) (by rw [← eM3, c4, sR_k]; exact congrArg (fun q => Sum.inr (4, q)) u4_scene) (by rw [← eM3]; exact sR_o) (by rw [← eM3]; exact (wf_scene hs41.2)) ?_
    refine Z.aload_n dX4_square_47 2 rfl ?_
    refine Z.aload_n dX4_square_48 0 rfl ?_
    refine wE H (fun M4 eM4 H => ?_)
    refine Z.put (ty := (.object "SquareAlbum$Scene")) (M' := M4) dX4_square_49 inX4 tyX4_ok nmX4 (hc := rfl) (by decide) c4 6 (by decide) kw173 rfl rfl (by decide +kernel) rfl rfl (Nat.le_of_ble_eq_true rfl) (by rw [← eM4, c4, sR_k]; exact congrArg (fun q => Sum.inr (4, q)) u4_spare) (by rw [← eM4]; exact sR_o) (by rw [← eM4]; exact (wf_spare hs35.1)) ?_
    refine Z.aload_n dX4_square_52 2 rfl ?_
    refine Z.get dX4_square_53 inX4 (hc := rfl) (by decide) c4 0 (by decide) kw167 rfl rfl ?_
    refine Z.iconst (v := 0) dX4_square_56 (by decide) ?_
    refine wE H (fun M5 eM5 H => ?_)
    refine Z.putN (ty := .int) (M' := M5) dX4_square_57 inX3 tyX3_ok nmX3 (hc := rfl) (by decide) c3 2 (by decide) kn29 rfl rfl (by decide +kernel) rfl rfl (Nat.le_of_ble_eq_true rfl) (by rw [← eM5, c3, sI_k]; exact congrArg (fun q => Sum.inr (3, q)) u3_length) (by rw [← eM5]; exact sI_o) (by rw [← eM5]; exact (fun q => q)) ?_
    refine Z.aload_n dX4_square_60 2 rfl ?_
    refine Z.get dX4_square_61 inX4 (hc := rfl) (by decide) c4 1 (by decide) kw168 rfl rfl ?_
    refine bindC H (fun v6 hv6 H => ?_)
    refine Z.callV (As := []) (rest := []) (st' := []) dX4_square_64 (kX1_tellNothingOfHat (Or.inl rfl)  M5 hv6) kw321 kw322 kw323 kw3 kw324 hdX1_tellNothingOfHat (cN (Or.inl rfl)) (c1 (Or.inl rfl)) (hc := rfl) (by decide) (by decide) rfl rfl (Nat.le_of_ble_eq_true rfl) rfl ?_
    refine Z.iconst (v := 0) dX4_square_67 (by decide) ?_
    refine Z.istore_n (lv' := [(3, .int (0)), (2, .ref (eA E (v2.2.2 0 5))), (1, .int (v1.1)), (0, .ref (eA E (0)))]) dX4_square_68 (by decide) rfl ?_
    refine Z.sub [3, 2, 0] rfl ?_
    exact tX4_square_69L   FU (v1.1) (0) v6 H
  · refine Z.iload_n dX4_square_16 0 rfl ?_
    exact Z.iret rfl dX4_square_17 (retW H)
theorem kX4_square {l : Launch} {E : Env5}    (M : Mem) {v9 : Int32} {M9 : Mem} (H : fX4_square  M = some (v9, M9)) : Cn l E yX4_square cX4_square 4 (some .int) 6 [.ref (eA E (0))] M (PR (some (.int v9)) M9) := Cn.ofZ rfl (Nat.le_of_ble_eq_true rfl) rfl (tX4_square_0   M H)
theorem hdX4_square : yX4_square.cls ≠ "java/lang/invoke/MethodHandle" ∧ yX4_square.cls ≠ "java/lang/invoke/VarHandle" ∧ (parseMethodDescriptor yX4_square.desc).map (fun d => d.parameters.length) = some 0 := by decide +kernel

set_option maxRecDepth 100000 in
theorem tX4_wall_0 {l : Launch} {E : Env5}    (x1 : Int32) (x2 : Int32) (M : Mem) {v9 : Int32}  (H : fX4_wall  x1 x2 M = some v9) : Z l E RX4 cX4_wall 3 (some .int) 2 0 [(0, .ref (eA E (0))), (1, .int (x1)), (2, .int (x2))] [] M (PR (some (.int v9)) M) := by
  unfold fX4_wall at H
  refine Z.aload_n dX4_wall_0 0 rfl ?_
  refine Z.get dX4_wall_1 inX4 (hc := rfl) (by decide) c4 5 (by decide) kw172 rfl rfl ?_
  refine Z.wf (fun hs1 => ?_)
  refine Z.iload_n dX4_wall_4 1 rfl ?_
  refine Z.iload_n dX4_wall_5 2 rfl ?_
  refine bindC H (fun v1 hv1 H => ?_)
  refine Z.callV (As := [.int (x1), .int (x2)]) (rest := []) (st' := [.int (v1)]) dX4_wall_6 (kX2_isCell hs1.1 (x1) (x2) M hv1) kw329 kw267 kw268 kw6 kw269 hdX2_isCell (cS hs1.1) (c2 hs1.1) (hc := rfl) (by decide) (by decide) rfl rfl (Nat.le_of_ble_eq_true rfl) rfl ?_
  refine Z.if_neH dX4_wall_9 H (fun br9 H => ?_) (fun br9 H => ?_)
  · refine Z.aload_n dX4_wall_14 0 rfl ?_
    refine Z.get dX4_wall_15 inX4 (hc := rfl) (by decide) c4 5 (by decide) kw172 rfl rfl ?_
    refine Z.wf (fun hs15 => ?_)
    refine Z.iload_n dX4_wall_18 1 rfl ?_
    refine Z.iload_n dX4_wall_19 2 rfl ?_
    refine bindC H (fun v2 hv2 H => ?_)
    refine Z.callV (As := [.int (x1), .int (x2)]) (rest := []) (st' := [.int (v2)]) dX4_wall_20 (kX2_isWall hs15.1 (x1) (x2) M hv2) kw330 kw331 kw332 kw6 kw333 hdX2_isWall (cS hs15.1) (c2 hs15.1) (hc := rfl) (by decide) (by decide) rfl rfl (Nat.le_of_ble_eq_true rfl) rfl ?_
    refine Z.if_eqH dX4_wall_23 H (fun br23 H => ?_) (fun br23 H => ?_)
    · refine Z.iconst (v := 0) dX4_wall_30 (by decide) ?_
      exact Z.iret rfl dX4_wall_31 (retR H)
    · refine Z.iconst (v := 1) dX4_wall_26 (by decide) ?_
      refine Z.goto dX4_wall_27 ?_
      exact Z.iret rfl dX4_wall_31 (retR H)
  · refine Z.iconst (v := (-1)) dX4_wall_12 (by decide) ?_
    exact Z.iret rfl dX4_wall_13 (retR H)
theorem kX4_wall {l : Launch} {E : Env5}   (x1 : Int32) (x2 : Int32) (M : Mem) {v9 : Int32} (H : fX4_wall x1 x2 M = some v9) : Cn l E yX4_wall cX4_wall 3 (some .int) 2 [.ref (eA E (0)), .int (x1), .int (x2)] M (PR (some (.int v9)) M) := Cn.ofZ rfl (Nat.le_of_ble_eq_true rfl) rfl (tX4_wall_0  x1 x2 M H)
theorem hdX4_wall : yX4_wall.cls ≠ "java/lang/invoke/MethodHandle" ∧ yX4_wall.cls ≠ "java/lang/invoke/VarHandle" ∧ (parseMethodDescriptor yX4_wall.desc).map (fun d => d.parameters.length) = some 2 := by decide +kernel

set_option maxRecDepth 100000 in
theorem tX4_person_0 {l : Launch} {E : Env5}    (x1 : Int32) (x2 : Int32) (M : Mem) {v9 : Int32}  (H : fX4_person  x1 x2 M = some v9) : Z l E RX4 cX4_person 3 (some .int) 2 0 [(0, .ref (eA E (0))), (1, .int (x1)), (2, .int (x2))] [] M (PR (some (.int v9)) M) := by
  unfold fX4_person at H
  refine Z.aload_n dX4_person_0 0 rfl ?_
  refine Z.get dX4_person_1 inX4 (hc := rfl) (by decide) c4 5 (by decide) kw172 rfl rfl ?_
  refine Z.wf (fun hs1 => ?_)
  refine Z.iload_n dX4_person_4 1 rfl ?_
  refine bindC H (fun v1 hv1 H => ?_)
  refine Z.callV (As := [.int (x1)]) (rest := []) (st' := [.int (v1)]) dX4_person_5 (kX2_isPerson hs1.1 (x1) M hv1) kw338 kw339 kw340 kw6 kw341 hdX2_isPerson (cS hs1.1) (c2 hs1.1) (hc := rfl) (by decide) (by decide) rfl rfl (Nat.le_of_ble_eq_true rfl) rfl ?_
  refine Z.if_eqH dX4_person_8 H (fun br8 H => ?_) (fun br8 H => ?_)
  · refine Z.iconst (v := (-1)) dX4_person_20 (by decide) ?_
    exact Z.iret rfl dX4_person_21 (retR H)
  · refine Z.iload_n dX4_person_11 2 rfl ?_
    refine Z.iconst (v := 0) dX4_person_12 (by decide) ?_
    refine Z.iconst (v := 5) dX4_person_13 (by decide) ?_
    refine bindC H (fun v2 hv2 H => ?_)
    refine Z.callS (As := [.int (x2), .int (0), .int (5)]) (rest := []) (st' := [.int (v2)]) dX4_person_14 (kX4_isBetween  (x2) (0) (5) M hv2) kw196 kw197 kw1 kw198 hdX4_isBetween (by decide) (by decide) rfl rfl (Nat.le_of_ble_eq_true rfl) rfl ?_
    refine Z.if_neH dX4_person_17 H (fun br17 H => ?_) (fun br17 H => ?_)
    · refine Z.aload_n dX4_person_22 0 rfl ?_
      refine Z.get dX4_person_23 inX4 (hc := rfl) (by decide) c4 5 (by decide) kw172 rfl rfl ?_
      refine Z.wf (fun hs23 => ?_)
      refine Z.iload_n dX4_person_26 1 rfl ?_
      refine Z.iload_n dX4_person_27 2 rfl ?_
      refine bindC H (fun v3 hv3 H => ?_)
      refine Z.callV (As := [.int (x1), .int (x2)]) (rest := []) (st' := [.int (v3)]) dX4_person_28 (kX2_ofPerson hs23.1 (x1) (x2) M hv3) kw342 kw296 kw297 kw6 kw298 hdX2_ofPerson (cS hs23.1) (c2 hs23.1) (hc := rfl) (by decide) (by decide) rfl rfl (Nat.le_of_ble_eq_true rfl) rfl ?_
      exact Z.iret rfl dX4_person_31 (retR H)
    · refine Z.iconst (v := (-1)) dX4_person_20 (by decide) ?_
      exact Z.iret rfl dX4_person_21 (retR H)
theorem kX4_person {l : Launch} {E : Env5}   (x1 : Int32) (x2 : Int32) (M : Mem) {v9 : Int32} (H : fX4_person x1 x2 M = some v9) : Cn l E yX4_person cX4_person 3 (some .int) 2 [.ref (eA E (0)), .int (x1), .int (x2)] M (PR (some (.int v9)) M) := Cn.ofZ rfl (Nat.le_of_ble_eq_true rfl) rfl (tX4_person_0  x1 x2 M H)
theorem hdX4_person : yX4_person.cls ≠ "java/lang/invoke/MethodHandle" ∧ yX4_person.cls ≠ "java/lang/invoke/VarHandle" ∧ (parseMethodDescriptor yX4_person.desc).map (fun d => d.parameters.length) = some 2 := by decide +kernel

set_option maxRecDepth 100000 in
theorem tX4_picture_0 {l : Launch} {E : Env5}    (x1 : Int32) (x2 : Int32) (M : Mem) {v9 : Int32}  (H : fX4_picture  x1 x2 M = some v9) : Z l E RX4 cX4_picture 3 (some .int) 2 0 [(0, .ref (eA E (0))), (1, .int (x1)), (2, .int (x2))] [] M (PR (some (.int v9)) M) := by
  unfold fX4_picture at H
  refine Z.aload_n dX4_picture_0 0 rfl ?_
  refine Z.get dX4_picture_1 inX4 (hc := rfl) (by decide) c4 5 (by decide) kw172 rfl rfl ?_
  refine Z.wf (fun hs1 => ?_)
  refine Z.iload_n dX4_picture_4 1 rfl ?_
  refine bindC H (fun v1 hv1 H => ?_)
  refine Z.callV (As := [.int (x1)]) (rest := []) (st' := [.int (v1)]) dX4_picture_5 (kX2_isPicture hs1.1 (x1) M hv1) kw347 kw348 kw349 kw6 kw350 hdX2_isPicture (cS hs1.1) (c2 hs1.1) (hc := rfl) (by decide) (by decide) rfl rfl (Nat.le_of_ble_eq_true rfl) rfl ?_
  refine Z.if_eqH dX4_picture_8 H (fun br8 H => ?_) (fun br8 H => ?_)
  · refine Z.iconst (v := (-1)) dX4_picture_20 (by decide) ?_
    exact Z.iret rfl dX4_picture_21 (retR H)
  · refine Z.iload_n dX4_picture_11 2 rfl ?_
    refine Z.iconst (v := 0) dX4_picture_12 (by decide) ?_
    refine Z.iconst (v := 4) dX4_picture_13 (by decide) ?_
    refine bindC H (fun v2 hv2 H => ?_)
    refine Z.callS (As := [.int (x2), .int (0), .int (4)]) (rest := []) (st' := [.int (v2)]) dX4_picture_14 (kX4_isBetween  (x2) (0) (4) M hv2) kw196 kw197 kw1 kw198 hdX4_isBetween (by decide) (by decide) rfl rfl (Nat.le_of_ble_eq_true rfl) rfl ?_
    refine Z.if_neH dX4_picture_17 H (fun br17 H => ?_) (fun br17 H => ?_)
    · refine Z.aload_n dX4_picture_22 0 rfl ?_
      refine Z.get dX4_picture_23 inX4 (hc := rfl) (by decide) c4 5 (by decide) kw172 rfl rfl ?_
      refine Z.wf (fun hs23 => ?_)
      refine Z.iload_n dX4_picture_26 1 rfl ?_
      refine Z.iload_n dX4_picture_27 2 rfl ?_
      refine bindC H (fun v3 hv3 H => ?_)
      refine Z.callV (As := [.int (x1), .int (x2)]) (rest := []) (st' := [.int (v3)]) dX4_picture_28 (kX2_ofPicture hs23.1 (x1) (x2) M hv3) kw351 kw278 kw279 kw6 kw280 hdX2_ofPicture (cS hs23.1) (c2 hs23.1) (hc := rfl) (by decide) (by decide) rfl rfl (Nat.le_of_ble_eq_true rfl) rfl ?_
      exact Z.iret rfl dX4_picture_31 (retR H)
    · refine Z.iconst (v := (-1)) dX4_picture_20 (by decide) ?_
      exact Z.iret rfl dX4_picture_21 (retR H)
theorem kX4_picture {l : Launch} {E : Env5}   (x1 : Int32) (x2 : Int32) (M : Mem) {v9 : Int32} (H : fX4_picture x1 x2 M = some v9) : Cn l E yX4_picture cX4_picture 3 (some .int) 2 [.ref (eA E (0)), .int (x1), .int (x2)] M (PR (some (.int v9)) M) := Cn.ofZ rfl (Nat.le_of_ble_eq_true rfl) rfl (tX4_picture_0  x1 x2 M H)
theorem hdX4_picture : yX4_picture.cls ≠ "java/lang/invoke/MethodHandle" ∧ yX4_picture.cls ≠ "java/lang/invoke/VarHandle" ∧ (parseMethodDescriptor yX4_picture.desc).map (fun d => d.parameters.length) = some 2 := by decide +kernel

set_option maxRecDepth 100000 in
theorem tX4_where_0 {l : Launch} {E : Env5}    (x1 : Int32) (x2 : Int32) (M : Mem) {v9 : Int32}  (H : fX4_where  x1 x2 M = some v9) : Z l E RX4 cX4_where 3 (some .int) 2 0 [(0, .ref (eA E (0))), (1, .int (x1)), (2, .int (x2))] [] M (PR (some (.int v9)) M) := by
  unfold fX4_where at H
  refine Z.aload_n dX4_where_0 0 rfl ?_
  refine Z.get dX4_where_1 inX4 (hc := rfl) (by decide) c4 5 (by decide) kw172 rfl rfl ?_
  refine Z.wf (fun hs1 => ?_)
  refine Z.iload_n dX4_where_4 1 rfl ?_
  refine bindC H (fun v1 hv1 H => ?_)
  refine Z.callV (As := [.int (x1)]) (rest := []) (st' := [.int (v1)]) dX4_where_5 (kX2_isPerson hs1.1 (x1) M hv1) kw338 kw339 kw340 kw6 kw341 hdX2_isPerson (cS hs1.1) (c2 hs1.1) (hc := rfl) (by decide) (by decide) rfl rfl (Nat.le_of_ble_eq_true rfl) rfl ?_
  refine Z.if_eqH dX4_where_8 H (fun br8 H => ?_) (fun br8 H => ?_)
  · refine Z.iconst (v := (-1)) dX4_where_22 (by decide) ?_
    exact Z.iret rfl dX4_where_23 (retR H)
  · refine Z.iload_n dX4_where_11 2 rfl ?_
    refine Z.iconst (v := 0) dX4_where_12 (by decide) ?_
    refine Z.sipush (v := 199) dX4_where_13 (by decide) ?_
    refine bindC H (fun v2 hv2 H => ?_)
    refine Z.callS (As := [.int (x2), .int (0), .int (199)]) (rest := []) (st' := [.int (v2)]) dX4_where_16 (kX4_isBetween  (x2) (0) (199) M hv2) kw196 kw197 kw1 kw198 hdX4_isBetween (by decide) (by decide) rfl rfl (Nat.le_of_ble_eq_true rfl) rfl ?_
    refine Z.if_neH dX4_where_19 H (fun br19 H => ?_) (fun br19 H => ?_)
    · refine Z.aload_n dX4_where_24 0 rfl ?_
      refine Z.get dX4_where_25 inX4 (hc := rfl) (by decide) c4 5 (by decide) kw172 rfl rfl ?_
      refine Z.wf (fun hs25 => ?_)
      refine Z.iload_n dX4_where_28 1 rfl ?_
      refine Z.iload_n dX4_where_29 2 rfl ?_
      refine bindC H (fun v3 hv3 H => ?_)
      refine Z.callV (As := [.int (x1), .int (x2)]) (rest := []) (st' := [.int (v3)]) dX4_where_30 (kX2_cellOf hs25.1 (x1) (x2) M hv3) kw356 kw292 kw293 kw6 kw294 hdX2_cellOf (cS hs25.1) (c2 hs25.1) (hc := rfl) (by decide) (by decide) rfl rfl (Nat.le_of_ble_eq_true rfl) rfl ?_
      exact Z.iret rfl dX4_where_33 (retR H)
    · refine Z.iconst (v := (-1)) dX4_where_22 (by decide) ?_
      exact Z.iret rfl dX4_where_23 (retR H)
theorem kX4_where {l : Launch} {E : Env5}   (x1 : Int32) (x2 : Int32) (M : Mem) {v9 : Int32} (H : fX4_where x1 x2 M = some v9) : Cn l E yX4_where cX4_where 3 (some .int) 2 [.ref (eA E (0)), .int (x1), .int (x2)] M (PR (some (.int v9)) M) := Cn.ofZ rfl (Nat.le_of_ble_eq_true rfl) rfl (tX4_where_0  x1 x2 M H)
theorem hdX4_where : yX4_where.cls ≠ "java/lang/invoke/MethodHandle" ∧ yX4_where.cls ≠ "java/lang/invoke/VarHandle" ∧ (parseMethodDescriptor yX4_where.desc).map (fun d => d.parameters.length) = some 2 := by decide +kernel

set_option maxRecDepth 100000 in
theorem tX4_on_0 {l : Launch} {E : Env5}    (x1 : Int32) (x2 : Int32) (x3 : Int32) (M : Mem) {v9 : Int32} {M9 : Mem}  (H : fX4_on  x1 x2 x3 M = some (v9, M9)) : Z l E RX4 cX4_on 4 (some .int) 4 0 [(0, .ref (eA E (0))), (1, .int (x1)), (2, .int (x2)), (3, .int (x3))] [] M (PR (some (.int v9)) M9) := by
  unfold fX4_on at H
  refine Z.aload_n dX4_on_0 0 rfl ?_
  refine Z.get dX4_on_1 inX4 (hc := rfl) (by decide) c4 5 (by decide) kw172 rfl rfl ?_
  refine Z.wf (fun hs1 => ?_)
  refine Z.iload_n dX4_on_4 1 rfl ?_
  refine Z.iload_n dX4_on_5 2 rfl ?_
  refine bindC H (fun v1 hv1 H => ?_)
  refine Z.callV (As := [.int (x1), .int (x2)]) (rest := []) (st' := [.int (v1)]) dX4_on_6 (kX2_isCell hs1.1 (x1) (x2) M hv1) kw329 kw267 kw268 kw6 kw269 hdX2_isCell (cS hs1.1) (c2 hs1.1) (hc := rfl) (by decide) (by decide) rfl rfl (Nat.le_of_ble_eq_true rfl) rfl ?_
  refine Z.if_eqH dX4_on_9 H (fun br9 H => ?_) (fun br9 H => ?_)
  · refine Z.iconst (v := (-1)) dX4_on_23 (by decide) ?_
    exact Z.iret rfl dX4_on_24 (retW H)
  · refine Z.iload_n dX4_on_12 3 rfl ?_
    refine Z.iconst (v := 0) dX4_on_13 (by decide) ?_
    refine Z.sipush (v := 199) dX4_on_14 (by decide) ?_
    refine bindC H (fun v2 hv2 H => ?_)
    refine Z.callS (As := [.int (x3), .int (0), .int (199)]) (rest := []) (st' := [.int (v2)]) dX4_on_17 (kX4_isBetween  (x3) (0) (199) M hv2) kw196 kw197 kw1 kw198 hdX4_isBetween (by decide) (by decide) rfl rfl (Nat.le_of_ble_eq_true rfl) rfl ?_
    refine Z.if_neH dX4_on_20 H (fun br20 H => ?_) (fun br20 H => ?_)
    · refine Z.aload_n dX4_on_25 0 rfl ?_
      refine Z.get dX4_on_26 inX4 (hc := rfl) (by decide) c4 5 (by decide) kw172 rfl rfl ?_
      refine Z.wf (fun hs26 => ?_)
      refine Z.iload_n dX4_on_29 1 rfl ?_
      refine Z.iload_n dX4_on_30 2 rfl ?_
      refine Z.iload_n dX4_on_31 3 rfl ?_
      refine bindC H (fun v3 hv3 H => ?_)
      refine Z.callV (As := [.int (x1), .int (x2), .int (x3)]) (rest := []) (st' := [.int (v3.1)]) dX4_on_32 (kX2_peopleOn hs26.1 (x1) (x2) (x3) M hv3) kw361 kw362 kw363 kw6 kw364 hdX2_peopleOn (cS hs26.1) (c2 hs26.1) (hc := rfl) (by decide) (by decide) rfl rfl (Nat.le_of_ble_eq_true rfl) rfl ?_
      exact Z.iret rfl dX4_on_35 (retW H)
    · refine Z.iconst (v := (-1)) dX4_on_23 (by decide) ?_
      exact Z.iret rfl dX4_on_24 (retW H)
theorem kX4_on {l : Launch} {E : Env5}   (x1 : Int32) (x2 : Int32) (x3 : Int32) (M : Mem) {v9 : Int32} {M9 : Mem} (H : fX4_on x1 x2 x3 M = some (v9, M9)) : Cn l E yX4_on cX4_on 4 (some .int) 4 [.ref (eA E (0)), .int (x1), .int (x2), .int (x3)] M (PR (some (.int v9)) M9) := Cn.ofZ rfl (Nat.le_of_ble_eq_true rfl) rfl (tX4_on_0  x1 x2 x3 M H)
theorem hdX4_on : yX4_on.cls ≠ "java/lang/invoke/MethodHandle" ∧ yX4_on.cls ≠ "java/lang/invoke/VarHandle" ∧ (parseMethodDescriptor yX4_on.desc).map (fun d => d.parameters.length) = some 3 := by decide +kernel

set_option maxRecDepth 100000 in
theorem tX4_shows_0 {l : Launch} {E : Env5}    (x1 : Int32) (M : Mem) {v9 : Int32}  (H : fX4_shows  x1 M = some v9) : Z l E RX4 cX4_shows 2 (some .int) 2 0 [(0, .ref (eA E (0))), (1, .int (x1))] [] M (PR (some (.int v9)) M) := by
  unfold fX4_shows at H
  refine Z.aload_n dX4_shows_0 0 rfl ?_
  refine Z.get dX4_shows_1 inX4 (hc := rfl) (by decide) c4 5 (by decide) kw172 rfl rfl ?_
  refine Z.wf (fun hs1 => ?_)
  refine Z.iload_n dX4_shows_4 1 rfl ?_
  refine bindC H (fun v1 hv1 H => ?_)
  refine Z.callV (As := [.int (x1)]) (rest := []) (st' := [.int (v1)]) dX4_shows_5 (kX2_isPicture hs1.1 (x1) M hv1) kw347 kw348 kw349 kw6 kw350 hdX2_isPicture (cS hs1.1) (c2 hs1.1) (hc := rfl) (by decide) (by decide) rfl rfl (Nat.le_of_ble_eq_true rfl) rfl ?_
  refine Z.if_neH dX4_shows_8 H (fun br8 H => ?_) (fun br8 H => ?_)
  · refine Z.aload_n dX4_shows_13 0 rfl ?_
    refine Z.get dX4_shows_14 inX4 (hc := rfl) (by decide) c4 5 (by decide) kw172 rfl rfl ?_
    refine Z.wf (fun hs14 => ?_)
    refine Z.getN dX4_shows_17 inX2 (hc := rfl) (cS hs14.1) (c2 hs14.1) 11 (by decide) kn134 rfl rfl ?_
    refine Z.iload_n dX4_shows_20 1 rfl ?_
    refine Z.ialdH dX4_shows_21 (a2_shown hs14.1) H (fun v2 H => ?_)
    exact Z.iret rfl dX4_shows_22 (retR H)
  · refine Z.iconst (v := (-1)) dX4_shows_11 (by decide) ?_
    exact Z.iret rfl dX4_shows_12 (retR H)
theorem kX4_shows {l : Launch} {E : Env5}   (x1 : Int32) (M : Mem) {v9 : Int32} (H : fX4_shows x1 M = some v9) : Cn l E yX4_shows cX4_shows 2 (some .int) 2 [.ref (eA E (0)), .int (x1)] M (PR (some (.int v9)) M) := Cn.ofZ rfl (Nat.le_of_ble_eq_true rfl) rfl (tX4_shows_0  x1 M H)
theorem hdX4_shows : yX4_shows.cls ≠ "java/lang/invoke/MethodHandle" ∧ yX4_shows.cls ≠ "java/lang/invoke/VarHandle" ∧ (parseMethodDescriptor yX4_shows.desc).map (fun d => d.parameters.length) = some 1 := by decide +kernel

set_option maxRecDepth 100000 in
theorem tX4_view_0 {l : Launch} {E : Env5}    (x1 : Int32) (x2 : Int32) (x3 : Int32) (x4 : Int32) (x5 : Int32) (M : Mem) {v9 : Int32} {M9 : Mem}  (H : fX4_view  x1 x2 x3 x4 x5 M = some (v9, M9)) : Z l E RX4 cX4_view 6 (some .int) 4 0 [(0, .ref (eA E (0))), (1, .int (x1)), (2, .int (x2)), (3, .int (x3)), (4, .int (x4)), (5, .int (x5))] [] M (PR (some (.int v9)) M9) := by
  unfold fX4_view at H
  refine Z.aload_n dX4_view_0 0 rfl ?_
  refine Z.get dX4_view_1 inX4 (hc := rfl) (by decide) c4 5 (by decide) kw172 rfl rfl ?_
  refine Z.wf (fun hs1 => ?_)
  refine Z.iload_n dX4_view_4 1 rfl ?_
  refine Z.iload_n dX4_view_5 2 rfl ?_
  refine bindC H (fun v1 hv1 H => ?_)
  refine Z.callV (As := [.int (x1), .int (x2)]) (rest := []) (st' := [.int (v1)]) dX4_view_6 (kX2_isCell hs1.1 (x1) (x2) M hv1) kw329 kw267 kw268 kw6 kw269 hdX2_isCell (cS hs1.1) (c2 hs1.1) (hc := rfl) (by decide) (by decide) rfl rfl (Nat.le_of_ble_eq_true rfl) rfl ?_
  refine Z.if_eqH dX4_view_9 H (fun br9 H => ?_) (fun br9 H => ?_)
  · refine Z.iconst (v := (-1)) dX4_view_21 (by decide) ?_
    exact Z.iret rfl dX4_view_22 (retW H)
  · refine Z.iload_n dX4_view_12 3 rfl ?_
    refine Z.iconst (v := 0) dX4_view_13 (by decide) ?_
    refine Z.iconst (v := 3) dX4_view_14 (by decide) ?_
    refine bindC H (fun v2 hv2 H => ?_)
    refine Z.callS (As := [.int (x3), .int (0), .int (3)]) (rest := []) (st' := [.int (v2)]) dX4_view_15 (kX4_isBetween  (x3) (0) (3) M hv2) kw196 kw197 kw1 kw198 hdX4_isBetween (by decide) (by decide) rfl rfl (Nat.le_of_ble_eq_true rfl) rfl ?_
    refine Z.if_neH dX4_view_18 H (fun br18 H => ?_) (fun br18 H => ?_)
    · refine Z.iload dX4_view_23 4 rfl ?_
      refine Z.iconst (v := 1) dX4_view_25 (by decide) ?_
      refine Z.bipush (v := 9) dX4_view_26 (by decide) ?_
      refine bindC H (fun v3 hv3 H => ?_)
      refine Z.callS (As := [.int (x4), .int (1), .int (9)]) (rest := []) (st' := [.int (v3)]) dX4_view_28 (kX4_isBetween  (x4) (1) (9) M hv3) kw196 kw197 kw1 kw198 hdX4_isBetween (by decide) (by decide) rfl rfl (Nat.le_of_ble_eq_true rfl) rfl ?_
      refine Z.if_eqH dX4_view_31 H (fun br31 H => ?_) (fun br31 H => ?_)
      · refine Z.iconst (v := (-1)) dX4_view_46 (by decide) ?_
        exact Z.iret rfl dX4_view_47 (retW H)
      · refine Z.iload dX4_view_34 5 rfl ?_
        refine Z.iconst (v := 0) dX4_view_36 (by decide) ?_
        refine Z.sipush (v := 199) dX4_view_37 (by decide) ?_
        refine bindC H (fun v4 hv4 H => ?_)
        refine Z.callS (As := [.int (x5), .int (0), .int (199)]) (rest := []) (st' := [.int (v4)]) dX4_view_40 (kX4_isBetween  (x5) (0) (199) M hv4) kw196 kw197 kw1 kw198 hdX4_isBetween (by decide) (by decide) rfl rfl (Nat.le_of_ble_eq_true rfl) rfl ?_
        refine Z.if_neH dX4_view_43 H (fun br43 H => ?_) (fun br43 H => ?_)
        · refine Z.aload_n dX4_view_48 0 rfl ?_
          refine Z.get dX4_view_49 inX4 (hc := rfl) (by decide) c4 5 (by decide) kw172 rfl rfl ?_
          refine Z.wf (fun hs49 => ?_)
          refine Z.iload_n dX4_view_52 1 rfl ?_
          refine Z.iload_n dX4_view_53 2 rfl ?_
          refine Z.iload_n dX4_view_54 3 rfl ?_
          refine Z.iload dX4_view_55 4 rfl ?_
          refine Z.iload dX4_view_57 5 rfl ?_
          refine bindC H (fun v5 hv5 H => ?_)
          refine Z.callV (As := [.int (x1), .int (x2), .int (x3), .int (x4), .int (x5)]) (rest := []) (st' := [.int (v5.1)]) dX4_view_59 (kX2_shownFrom hs49.1 (x1) (x2) (x3) (x4) (x5) M hv5) kw373 kw283 kw284 kw6 kw285 hdX2_shownFrom (cS hs49.1) (c2 hs49.1) (hc := rfl) (by decide) (by decide) rfl rfl (Nat.le_of_ble_eq_true rfl) rfl ?_
          exact Z.iret rfl dX4_view_62 (retW H)
        · refine Z.iconst (v := (-1)) dX4_view_46 (by decide) ?_
          exact Z.iret rfl dX4_view_47 (retW H)
    · refine Z.iconst (v := (-1)) dX4_view_21 (by decide) ?_
      exact Z.iret rfl dX4_view_22 (retW H)
theorem kX4_view {l : Launch} {E : Env5}   (x1 : Int32) (x2 : Int32) (x3 : Int32) (x4 : Int32) (x5 : Int32) (M : Mem) {v9 : Int32} {M9 : Mem} (H : fX4_view x1 x2 x3 x4 x5 M = some (v9, M9)) : Cn l E yX4_view cX4_view 6 (some .int) 4 [.ref (eA E (0)), .int (x1), .int (x2), .int (x3), .int (x4), .int (x5)] M (PR (some (.int v9)) M9) := Cn.ofZ rfl (Nat.le_of_ble_eq_true rfl) rfl (tX4_view_0  x1 x2 x3 x4 x5 M H)
theorem hdX4_view : yX4_view.cls ≠ "java/lang/invoke/MethodHandle" ∧ yX4_view.cls ≠ "java/lang/invoke/VarHandle" ∧ (parseMethodDescriptor yX4_view.desc).map (fun d => d.parameters.length) = some 5 := by decide +kernel

set_option maxRecDepth 100000 in
theorem tX4_hidden_0 {l : Launch} {E : Env5}    (x1 : Int32) (x2 : Int32) (M : Mem) {v9 : Int32} {M9 : Mem}  (H : fX4_hidden  x1 x2 M = some (v9, M9)) : Z l E RX4 cX4_hidden 3 (some .int) 4 0 [(0, .ref (eA E (0))), (1, .int (x1)), (2, .int (x2))] [] M (PR (some (.int v9)) M9) := by
  unfold fX4_hidden at H
  refine Z.aload_n dX4_hidden_0 0 rfl ?_
  refine Z.get dX4_hidden_1 inX4 (hc := rfl) (by decide) c4 5 (by decide) kw172 rfl rfl ?_
  refine Z.wf (fun hs1 => ?_)
  refine Z.iload_n dX4_hidden_4 1 rfl ?_
  refine bindC H (fun v1 hv1 H => ?_)
  refine Z.callV (As := [.int (x1)]) (rest := []) (st' := [.int (v1)]) dX4_hidden_5 (kX2_isPicture hs1.1 (x1) M hv1) kw347 kw348 kw349 kw6 kw350 hdX2_isPicture (cS hs1.1) (c2 hs1.1) (hc := rfl) (by decide) (by decide) rfl rfl (Nat.le_of_ble_eq_true rfl) rfl ?_
  refine Z.if_eqH dX4_hidden_8 H (fun br8 H => ?_) (fun br8 H => ?_)
  · refine Z.iconst (v := (-1)) dX4_hidden_22 (by decide) ?_
    exact Z.iret rfl dX4_hidden_23 (retW H)
  · refine Z.aload_n dX4_hidden_11 0 rfl ?_
    refine Z.get dX4_hidden_12 inX4 (hc := rfl) (by decide) c4 5 (by decide) kw172 rfl rfl ?_
    refine Z.wf (fun hs12 => ?_)
    refine Z.iload_n dX4_hidden_15 2 rfl ?_
    refine bindC H (fun v2 hv2 H => ?_)
    refine Z.callV (As := [.int (x2)]) (rest := []) (st' := [.int (v2)]) dX4_hidden_16 (kX2_isPerson hs12.1 (x2) M hv2) kw338 kw339 kw340 kw6 kw341 hdX2_isPerson (cS hs12.1) (c2 hs12.1) (hc := rfl) (by decide) (by decide) rfl rfl (Nat.le_of_ble_eq_true rfl) rfl ?_
    refine Z.if_neH dX4_hidden_19 H (fun br19 H => ?_) (fun br19 H => ?_)
    · refine Z.aload_n dX4_hidden_24 0 rfl ?_
      refine Z.get dX4_hidden_25 inX4 (hc := rfl) (by decide) c4 5 (by decide) kw172 rfl rfl ?_
      refine Z.wf (fun hs25 => ?_)
      refine Z.iload_n dX4_hidden_28 1 rfl ?_
      refine Z.iload_n dX4_hidden_29 2 rfl ?_
      refine bindC H (fun v3 hv3 H => ?_)
      refine Z.callV (As := [.int (x1), .int (x2)]) (rest := []) (st' := [.int (v3.1)]) dX4_hidden_30 (kX2_stateInPicture hs25.1 (x1) (x2) M hv3) kw378 kw379 kw380 kw6 kw381 hdX2_stateInPicture (cS hs25.1) (c2 hs25.1) (hc := rfl) (by decide) (by decide) rfl rfl (Nat.le_of_ble_eq_true rfl) rfl ?_
      exact Z.iret rfl dX4_hidden_33 (retW H)
    · refine Z.iconst (v := (-1)) dX4_hidden_22 (by decide) ?_
      exact Z.iret rfl dX4_hidden_23 (retW H)
theorem kX4_hidden {l : Launch} {E : Env5}   (x1 : Int32) (x2 : Int32) (M : Mem) {v9 : Int32} {M9 : Mem} (H : fX4_hidden x1 x2 M = some (v9, M9)) : Cn l E yX4_hidden cX4_hidden 3 (some .int) 4 [.ref (eA E (0)), .int (x1), .int (x2)] M (PR (some (.int v9)) M9) := Cn.ofZ rfl (Nat.le_of_ble_eq_true rfl) rfl (tX4_hidden_0  x1 x2 M H)
theorem hdX4_hidden : yX4_hidden.cls ≠ "java/lang/invoke/MethodHandle" ∧ yX4_hidden.cls ≠ "java/lang/invoke/VarHandle" ∧ (parseMethodDescriptor yX4_hidden.desc).map (fun d => d.parameters.length) = some 2 := by decide +kernel

set_option maxRecDepth 100000 in
theorem tX4_from_0 {l : Launch} {E : Env5}    (x1 : Int32) (x2 : Int32) (x3 : Int32) (x4 : Int32) (M : Mem) {v9 : Int32} {M9 : Mem}  (H : fX4_from  x1 x2 x3 x4 M = some (v9, M9)) : Z l E RX4 cX4_from 5 (some .int) 6 0 [(0, .ref (eA E (0))), (1, .int (x1)), (2, .int (x2)), (3, .int (x3)), (4, .int (x4))] [] M (PR (some (.int v9)) M9) := by
  unfold fX4_from at H
  refine Z.aload_n dX4_from_0 0 rfl ?_
  refine Z.get dX4_from_1 inX4 (hc := rfl) (by decide) c4 5 (by decide) kw172 rfl rfl ?_
  refine Z.wf (fun hs1 => ?_)
  refine Z.iload_n dX4_from_4 1 rfl ?_
  refine bindC H (fun v1 hv1 H => ?_)
  refine Z.callV (As := [.int (x1)]) (rest := []) (st' := [.int (v1)]) dX4_from_5 (kX2_isSetOfPeople hs1.1 (x1) M hv1) kw386 kw387 kw388 kw6 kw389 hdX2_isSetOfPeople (cS hs1.1) (c2 hs1.1) (hc := rfl) (by decide) (by decide) rfl rfl (Nat.le_of_ble_eq_true rfl) rfl ?_
  refine Z.if_eqH dX4_from_8 H (fun br8 H => ?_) (fun br8 H => ?_)
  · refine Z.iconst (v := (-1)) dX4_from_21 (by decide) ?_
    exact Z.iret rfl dX4_from_22 (retW H)
  · refine Z.iload_n dX4_from_11 2 rfl ?_
    refine Z.iconst (v := 1) dX4_from_12 (by decide) ?_
    refine Z.bipush (v := 9) dX4_from_13 (by decide) ?_
    refine bindC H (fun v2 hv2 H => ?_)
    refine Z.callS (As := [.int (x2), .int (1), .int (9)]) (rest := []) (st' := [.int (v2)]) dX4_from_15 (kX4_isBetween  (x2) (1) (9) M hv2) kw196 kw197 kw1 kw198 hdX4_isBetween (by decide) (by decide) rfl rfl (Nat.le_of_ble_eq_true rfl) rfl ?_
    refine Z.if_neH dX4_from_18 H (fun br18 H => ?_) (fun br18 H => ?_)
    · refine Z.iload_n dX4_from_23 3 rfl ?_
      refine Z.iconst (v := 0) dX4_from_24 (by decide) ?_
      refine Z.sipush (v := 199) dX4_from_25 (by decide) ?_
      refine bindC H (fun v3 hv3 H => ?_)
      refine Z.callS (As := [.int (x3), .int (0), .int (199)]) (rest := []) (st' := [.int (v3)]) dX4_from_28 (kX4_isBetween  (x3) (0) (199) M hv3) kw196 kw197 kw1 kw198 hdX4_isBetween (by decide) (by decide) rfl rfl (Nat.le_of_ble_eq_true rfl) rfl ?_
      refine Z.if_eqH dX4_from_31 H (fun br31 H => ?_) (fun br31 H => ?_)
      · refine Z.iconst (v := (-1)) dX4_from_44 (by decide) ?_
        exact Z.iret rfl dX4_from_45 (retW H)
      · refine Z.iload dX4_from_34 4 rfl ?_
        refine Z.iconst (v := 0) dX4_from_36 (by decide) ?_
        refine Z.iconst (v := 1) dX4_from_37 (by decide) ?_
        refine bindC H (fun v4 hv4 H => ?_)
        refine Z.callS (As := [.int (x4), .int (0), .int (1)]) (rest := []) (st' := [.int (v4)]) dX4_from_38 (kX4_isBetween  (x4) (0) (1) M hv4) kw196 kw197 kw1 kw198 hdX4_isBetween (by decide) (by decide) rfl rfl (Nat.le_of_ble_eq_true rfl) rfl ?_
        refine Z.if_neH dX4_from_41 H (fun br41 H => ?_) (fun br41 H => ?_)
        · refine Z.iload dX4_from_46 4 rfl ?_
          refine Z.if_neH dX4_from_48 H (fun br48 H => ?_) (fun br48 H => ?_)
          · refine Z.aload_n dX4_from_64 0 rfl ?_
            refine Z.get dX4_from_65 inX4 (hc := rfl) (by decide) c4 5 (by decide) kw172 rfl rfl ?_
            refine Z.wf (fun hs65 => ?_)
            refine Z.iload_n dX4_from_68 1 rfl ?_
            refine Z.iload_n dX4_from_69 2 rfl ?_
            refine Z.iload_n dX4_from_70 3 rfl ?_
            refine bindC H (fun v5 hv5 H => ?_)
            refine Z.callV (As := [.int (x1), .int (x2), .int (x3)]) (rest := []) (st' := [.int (v5.1)]) dX4_from_71 (kX2_firstPlaceOf hs65.1 (x1) (x2) (x3) M hv5) kw398 kw399 kw400 kw6 kw401 hdX2_firstPlaceOf (cS hs65.1) (c2 hs65.1) (hc := rfl) (by decide) (by decide) rfl rfl (Nat.le_of_ble_eq_true rfl) rfl ?_
            exact Z.iret rfl dX4_from_74 (retW H)
          · refine Z.aload_n dX4_from_51 0 rfl ?_
            refine Z.get dX4_from_52 inX4 (hc := rfl) (by decide) c4 5 (by decide) kw172 rfl rfl ?_
            refine Z.wf (fun hs52 => ?_)
            refine Z.iload_n dX4_from_55 1 rfl ?_
            refine Z.iload_n dX4_from_56 2 rfl ?_
            refine Z.iload_n dX4_from_57 3 rfl ?_
            refine bindC H (fun v6 hv6 H => ?_)
            refine Z.callV (As := [.int (x1), .int (x2), .int (x3)]) (rest := []) (st' := [.int (v6.1)]) dX4_from_58 (kX2_countPlacesOf hs52.1 (x1) (x2) (x3) M hv6) kw390 kw391 kw392 kw6 kw393 hdX2_countPlacesOf (cS hs52.1) (c2 hs52.1) (hc := rfl) (by decide) (by decide) rfl rfl (Nat.le_of_ble_eq_true rfl) rfl ?_
            refine Z.goto dX4_from_61 ?_
            exact Z.iret rfl dX4_from_74 (retW H)
        · refine Z.iconst (v := (-1)) dX4_from_44 (by decide) ?_
          exact Z.iret rfl dX4_from_45 (retW H)
    · refine Z.iconst (v := (-1)) dX4_from_21 (by decide) ?_
      exact Z.iret rfl dX4_from_22 (retW H)
theorem kX4_from {l : Launch} {E : Env5}   (x1 : Int32) (x2 : Int32) (x3 : Int32) (x4 : Int32) (M : Mem) {v9 : Int32} {M9 : Mem} (H : fX4_from x1 x2 x3 x4 M = some (v9, M9)) : Cn l E yX4_from cX4_from 5 (some .int) 6 [.ref (eA E (0)), .int (x1), .int (x2), .int (x3), .int (x4)] M (PR (some (.int v9)) M9) := Cn.ofZ rfl (Nat.le_of_ble_eq_true rfl) rfl (tX4_from_0  x1 x2 x3 x4 M H)
theorem hdX4_from : yX4_from.cls ≠ "java/lang/invoke/MethodHandle" ∧ yX4_from.cls ≠ "java/lang/invoke/VarHandle" ∧ (parseMethodDescriptor yX4_from.desc).map (fun d => d.parameters.length) = some 4 := by decide +kernel

set_option maxRecDepth 100000 in
theorem tX4_fact_0 {l : Launch} {E : Env5}    (x1 : Int32) (x2 : Int32) (x3 : Int32) (x4 : Int32) (M : Mem) {v9 : Int32} {M9 : Mem}  (H : fX4_fact  x1 x2 x3 x4 M = some (v9, M9)) : Z l E RX4 cX4_fact 5 (some .int) 2 0 [(0, .ref (eA E (0))), (1, .int (x1)), (2, .int (x2)), (3, .int (x3)), (4, .int (x4))] [] M (PR (some (.int v9)) M9) := by
  unfold fX4_fact at H
  refine Z.iload_n dX4_fact_0 1 rfl ?_
  refine Z.iconst (v := 0) dX4_fact_1 (by decide) ?_
  refine Z.iconst (v := 3) dX4_fact_2 (by decide) ?_
  refine bindC H (fun v1 hv1 H => ?_)
  refine Z.callS (As := [.int (x1), .int (0), .int (3)]) (rest := []) (st' := [.int (v1)]) dX4_fact_3 (kX4_isBetween  (x1) (0) (3) M hv1) kw196 kw197 kw1 kw198 hdX4_isBetween (by decide) (by decide) rfl rfl (Nat.le_of_ble_eq_true rfl) rfl ?_
  refine Z.if_eqH dX4_fact_6 H (fun br6 H => ?_) (fun br6 H => ?_)
  · refine Z.iconst (v := (-1)) dX4_fact_23 (by decide) ?_
    exact Z.iret rfl dX4_fact_24 (retW H)
  · refine Z.iload_n dX4_fact_9 3 rfl ?_
    refine Z.iconst (v := 0) dX4_fact_10 (by decide) ?_
    refine Z.iconst (v := 3) dX4_fact_11 (by decide) ?_
    refine bindC H (fun v2 hv2 H => ?_)
    refine Z.callS (As := [.int (x3), .int (0), .int (3)]) (rest := []) (st' := [.int (v2)]) dX4_fact_12 (kX4_isBetween  (x3) (0) (3) M hv2) kw196 kw197 kw1 kw198 hdX4_isBetween (by decide) (by decide) rfl rfl (Nat.le_of_ble_eq_true rfl) rfl ?_
    refine Z.if_eqH dX4_fact_15 H (fun br15 H => ?_) (fun br15 H => ?_)
    · refine Z.iconst (v := (-1)) dX4_fact_23 (by decide) ?_
      exact Z.iret rfl dX4_fact_24 (retW H)
    · refine Z.iload_n dX4_fact_18 1 rfl ?_
      refine Z.iload_n dX4_fact_19 3 rfl ?_
      refine Z.icmp_neH dX4_fact_20 H (fun br20 H => ?_) (fun br20 H => ?_)
      · refine Z.iload_n dX4_fact_25 2 rfl ?_
        refine Z.iconst (v := 0) dX4_fact_26 (by decide) ?_
        refine Z.bipush (v := 99) dX4_fact_27 (by decide) ?_
        refine bindC H (fun v3 hv3 H => ?_)
        refine Z.callS (As := [.int (x2), .int (0), .int (99)]) (rest := []) (st' := [.int (v3)]) dX4_fact_29 (kX4_isBetween  (x2) (0) (99) M hv3) kw196 kw197 kw1 kw198 hdX4_isBetween (by decide) (by decide) rfl rfl (Nat.le_of_ble_eq_true rfl) rfl ?_
        refine Z.if_eqH dX4_fact_32 H (fun br32 H => ?_) (fun br32 H => ?_)
        · refine Z.iconst (v := (-1)) dX4_fact_46 (by decide) ?_
          exact Z.iret rfl dX4_fact_47 (retW H)
        · refine Z.iload dX4_fact_35 4 rfl ?_
          refine Z.iconst (v := 0) dX4_fact_37 (by decide) ?_
          refine Z.bipush (v := 99) dX4_fact_38 (by decide) ?_
          refine bindC H (fun v4 hv4 H => ?_)
          refine Z.callS (As := [.int (x4), .int (0), .int (99)]) (rest := []) (st' := [.int (v4)]) dX4_fact_40 (kX4_isBetween  (x4) (0) (99) M hv4) kw196 kw197 kw1 kw198 hdX4_isBetween (by decide) (by decide) rfl rfl (Nat.le_of_ble_eq_true rfl) rfl ?_
          refine Z.if_neH dX4_fact_43 H (fun br43 H => ?_) (fun br43 H => ?_)
          · refine Z.aload_n dX4_fact_48 0 rfl ?_
            refine Z.get dX4_fact_49 inX4 (hc := rfl) (by decide) c4 1 (by decide) kw168 rfl rfl ?_
            refine Z.getN dX4_fact_52 inX1 (hc := rfl) (cN (Or.inl rfl)) (c1 (Or.inl rfl)) 4 (by decide) kn67 rfl rfl ?_
            refine Z.bipush (v := 20) dX4_fact_55 (by decide) ?_
            refine Z.icmp_ltH dX4_fact_57 H (fun br57 H => ?_) (fun br57 H => ?_)
            · refine Z.aload_n dX4_fact_63 0 rfl ?_
              refine Z.get dX4_fact_64 inX4 (hc := rfl) (by decide) c4 1 (by decide) kw168 rfl rfl ?_
              refine Z.iload_n dX4_fact_67 1 rfl ?_
              refine Z.iload_n dX4_fact_68 2 rfl ?_
              refine Z.iload_n dX4_fact_69 3 rfl ?_
              refine Z.iload dX4_fact_70 4 rfl ?_
              refine bindC H (fun v5 hv5 H => ?_)
              refine Z.callV (As := [.int (x1), .int (x2), .int (x3), .int (x4)]) (rest := []) (st' := [.int (v5.1)]) dX4_fact_72 (kX1_addFact (Or.inl rfl) (x1) (x2) (x3) (x4) M hv5) kw406 kw407 kw408 kw3 kw409 hdX1_addFact (cN (Or.inl rfl)) (c1 (Or.inl rfl)) (hc := rfl) (by decide) (by decide) rfl rfl (Nat.le_of_ble_eq_true rfl) rfl ?_
              exact Z.iret rfl dX4_fact_75 (retW H)
            · refine Z.bipush (v := (-3)) dX4_fact_60 (by decide) ?_
              exact Z.iret rfl dX4_fact_62 (retW H)
          · refine Z.iconst (v := (-1)) dX4_fact_46 (by decide) ?_
            exact Z.iret rfl dX4_fact_47 (retW H)
      · refine Z.iconst (v := (-1)) dX4_fact_23 (by decide) ?_
        exact Z.iret rfl dX4_fact_24 (retW H)
theorem kX4_fact {l : Launch} {E : Env5}   (x1 : Int32) (x2 : Int32) (x3 : Int32) (x4 : Int32) (M : Mem) {v9 : Int32} {M9 : Mem} (H : fX4_fact x1 x2 x3 x4 M = some (v9, M9)) : Cn l E yX4_fact cX4_fact 5 (some .int) 2 [.ref (eA E (0)), .int (x1), .int (x2), .int (x3), .int (x4)] M (PR (some (.int v9)) M9) := Cn.ofZ rfl (Nat.le_of_ble_eq_true rfl) rfl (tX4_fact_0  x1 x2 x3 x4 M H)
theorem hdX4_fact : yX4_fact.cls ≠ "java/lang/invoke/MethodHandle" ∧ yX4_fact.cls ≠ "java/lang/invoke/VarHandle" ∧ (parseMethodDescriptor yX4_fact.desc).map (fun d => d.parameters.length) = some 4 := by decide +kernel

set_option maxRecDepth 100000 in
theorem tX4_right_0 {l : Launch} {E : Env5}    (x1 : Int32) (M : Mem) {v9 : Int32} {M9 : Mem}  (H : fX4_right  x1 M = some (v9, M9)) : Z l E RX4 cX4_right 2 (some .int) 4 0 [(0, .ref (eA E (0))), (1, .int (x1))] [] M (PR (some (.int v9)) M9) := by
  unfold fX4_right at H
  refine Z.iload_n dX4_right_0 1 rfl ?_
  refine Z.iconst (v := 0) dX4_right_1 (by decide) ?_
  refine Z.iconst (v := 3) dX4_right_2 (by decide) ?_
  refine bindC H (fun v1 hv1 H => ?_)
  refine Z.callS (As := [.int (x1), .int (0), .int (3)]) (rest := []) (st' := [.int (v1)]) dX4_right_3 (kX4_isBetween  (x1) (0) (3) M hv1) kw196 kw197 kw1 kw198 hdX4_isBetween (by decide) (by decide) rfl rfl (Nat.le_of_ble_eq_true rfl) rfl ?_
  refine Z.if_neH dX4_right_6 H (fun br6 H => ?_) (fun br6 H => ?_)
  · refine Z.aload_n dX4_right_12 0 rfl ?_
    refine Z.get dX4_right_13 inX4 (hc := rfl) (by decide) c4 4 (by decide) kw171 rfl rfl ?_
    refine Z.aload_n dX4_right_16 0 rfl ?_
    refine Z.get dX4_right_17 inX4 (hc := rfl) (by decide) c4 1 (by decide) kw168 rfl rfl ?_
    refine bindC H (fun v2 hv2 H => ?_)
    refine Z.callV (As := [.ref (eA E (4))]) (rest := []) (st' := []) dX4_right_20 (kX0_putRight (Or.inl rfl)  M hv2) kw418 kw419 kw420 kw5 kw421 hdX0_putRight (by decide) c0 (hc := rfl) (by decide) (by decide) rfl rfl (Nat.le_of_ble_eq_true rfl) rfl ?_
    refine Z.iload_n dX4_right_23 1 rfl ?_
    refine Z.if_neH dX4_right_24 H (fun br24 H => ?_) (fun br24 H => ?_)
    · refine Z.aload_n dX4_right_37 0 rfl ?_
      refine Z.get dX4_right_38 inX4 (hc := rfl) (by decide) c4 4 (by decide) kw171 rfl rfl ?_
      refine Z.getN dX4_right_41 inX0 (hc := rfl) (by decide) c0 1 (by decide) kn92 rfl rfl ?_
      refine Z.iload_n dX4_right_44 1 rfl ?_
      refine Z.ialdH dX4_right_45 a0_ahead H (fun v3 H => ?_)
      exact Z.iret rfl dX4_right_46 (retW H)
    · refine Z.aload_n dX4_right_27 0 rfl ?_
      refine Z.get dX4_right_28 inX4 (hc := rfl) (by decide) c4 4 (by decide) kw171 rfl rfl ?_
      refine Z.getN dX4_right_31 inX0 (hc := rfl) (by decide) c0 4 (by decide) kn96 rfl rfl ?_
      refine Z.goto dX4_right_34 ?_
      exact Z.iret rfl dX4_right_46 (retW H)
  · refine Z.ldc (v := (-1000000)) dX4_right_9 kw417 ?_
    exact Z.iret rfl dX4_right_11 (retW H)
theorem kX4_right {l : Launch} {E : Env5}   (x1 : Int32) (M : Mem) {v9 : Int32} {M9 : Mem} (H : fX4_right x1 M = some (v9, M9)) : Cn l E yX4_right cX4_right 2 (some .int) 4 [.ref (eA E (0)), .int (x1)] M (PR (some (.int v9)) M9) := Cn.ofZ rfl (Nat.le_of_ble_eq_true rfl) rfl (tX4_right_0  x1 M H)
theorem hdX4_right : yX4_right.cls ≠ "java/lang/invoke/MethodHandle" ∧ yX4_right.cls ≠ "java/lang/invoke/VarHandle" ∧ (parseMethodDescriptor yX4_right.desc).map (fun d => d.parameters.length) = some 1 := by decide +kernel

set_option maxRecDepth 100000 in
theorem tX4_seen_0 {l : Launch} {E : Env5}    (x1 : Int32) (x2 : Int32) (x3 : Int32) (x4 : Int32) (M : Mem) {v9 : Int32} {M9 : Mem}  (H : fX4_seen  x1 x2 x3 x4 M = some (v9, M9)) : Z l E RX4 cX4_seen 5 (some .int) 2 0 [(0, .ref (eA E (0))), (1, .int (x1)), (2, .int (x2)), (3, .int (x3)), (4, .int (x4))] [] M (PR (some (.int v9)) M9) := by
  unfold fX4_seen at H
  refine Z.aload_n dX4_seen_0 0 rfl ?_
  refine Z.get dX4_seen_1 inX4 (hc := rfl) (by decide) c4 5 (by decide) kw172 rfl rfl ?_
  refine Z.wf (fun hs1 => ?_)
  refine Z.iload_n dX4_seen_4 1 rfl ?_
  refine Z.iload_n dX4_seen_5 2 rfl ?_
  refine bindC H (fun v1 hv1 H => ?_)
  refine Z.callV (As := [.int (x1), .int (x2)]) (rest := []) (st' := [.int (v1)]) dX4_seen_6 (kX2_isCell hs1.1 (x1) (x2) M hv1) kw329 kw267 kw268 kw6 kw269 hdX2_isCell (cS hs1.1) (c2 hs1.1) (hc := rfl) (by decide) (by decide) rfl rfl (Nat.le_of_ble_eq_true rfl) rfl ?_
  refine Z.if_neH dX4_seen_9 H (fun br9 H => ?_) (fun br9 H => ?_)
  · refine Z.iload_n dX4_seen_14 3 rfl ?_
    refine Z.iconst (v := 0) dX4_seen_15 (by decide) ?_
    refine Z.bipush (v := 99) dX4_seen_16 (by decide) ?_
    refine bindC H (fun v2 hv2 H => ?_)
    refine Z.callS (As := [.int (x3), .int (0), .int (99)]) (rest := []) (st' := [.int (v2)]) dX4_seen_18 (kX4_isBetween  (x3) (0) (99) M hv2) kw196 kw197 kw1 kw198 hdX4_isBetween (by decide) (by decide) rfl rfl (Nat.le_of_ble_eq_true rfl) rfl ?_
    refine Z.if_eqH dX4_seen_21 H (fun br21 H => ?_) (fun br21 H => ?_)
    · refine Z.iconst (v := (-1)) dX4_seen_35 (by decide) ?_
      exact Z.iret rfl dX4_seen_36 (retW H)
    · refine Z.iload dX4_seen_24 4 rfl ?_
      refine Z.iconst (v := 0) dX4_seen_26 (by decide) ?_
      refine Z.bipush (v := 9) dX4_seen_27 (by decide) ?_
      refine bindC H (fun v3 hv3 H => ?_)
      refine Z.callS (As := [.int (x4), .int (0), .int (9)]) (rest := []) (st' := [.int (v3)]) dX4_seen_29 (kX4_isBetween  (x4) (0) (9) M hv3) kw196 kw197 kw1 kw198 hdX4_isBetween (by decide) (by decide) rfl rfl (Nat.le_of_ble_eq_true rfl) rfl ?_
      refine Z.if_neH dX4_seen_32 H (fun br32 H => ?_) (fun br32 H => ?_)
      · refine Z.aload_n dX4_seen_37 0 rfl ?_
        refine Z.get dX4_seen_38 inX4 (hc := rfl) (by decide) c4 1 (by decide) kw168 rfl rfl ?_
        refine Z.getN dX4_seen_41 inX1 (hc := rfl) (cN (Or.inl rfl)) (c1 (Or.inl rfl)) 5 (by decide) kn69 rfl rfl ?_
        refine Z.bipush (v := 8) dX4_seen_44 (by decide) ?_
        refine Z.icmp_ltH dX4_seen_46 H (fun br46 H => ?_) (fun br46 H => ?_)
        · refine Z.aload_n dX4_seen_52 0 rfl ?_
          refine Z.get dX4_seen_53 inX4 (hc := rfl) (by decide) c4 1 (by decide) kw168 rfl rfl ?_
          refine Z.iload_n dX4_seen_56 1 rfl ?_
          refine Z.iload_n dX4_seen_57 2 rfl ?_
          refine Z.iload_n dX4_seen_58 3 rfl ?_
          refine Z.iload dX4_seen_59 4 rfl ?_
          refine bindC H (fun v4 hv4 H => ?_)
          refine Z.callV (As := [.int (x1), .int (x2), .int (x3), .int (x4)]) (rest := []) (st' := [.int (v4.1)]) dX4_seen_61 (kX1_addSeen (Or.inl rfl) (x1) (x2) (x3) (x4) M hv4) kw455 kw456 kw457 kw3 kw458 hdX1_addSeen (cN (Or.inl rfl)) (c1 (Or.inl rfl)) (hc := rfl) (by decide) (by decide) rfl rfl (Nat.le_of_ble_eq_true rfl) rfl ?_
          exact Z.iret rfl dX4_seen_64 (retW H)
        · refine Z.bipush (v := (-3)) dX4_seen_49 (by decide) ?_
          exact Z.iret rfl dX4_seen_51 (retW H)
      · refine Z.iconst (v := (-1)) dX4_seen_35 (by decide) ?_
        exact Z.iret rfl dX4_seen_36 (retW H)
  · refine Z.iconst (v := (-1)) dX4_seen_12 (by decide) ?_
    exact Z.iret rfl dX4_seen_13 (retW H)
theorem kX4_seen {l : Launch} {E : Env5}   (x1 : Int32) (x2 : Int32) (x3 : Int32) (x4 : Int32) (M : Mem) {v9 : Int32} {M9 : Mem} (H : fX4_seen x1 x2 x3 x4 M = some (v9, M9)) : Cn l E yX4_seen cX4_seen 5 (some .int) 2 [.ref (eA E (0)), .int (x1), .int (x2), .int (x3), .int (x4)] M (PR (some (.int v9)) M9) := Cn.ofZ rfl (Nat.le_of_ble_eq_true rfl) rfl (tX4_seen_0  x1 x2 x3 x4 M H)
theorem hdX4_seen : yX4_seen.cls ≠ "java/lang/invoke/MethodHandle" ∧ yX4_seen.cls ≠ "java/lang/invoke/VarHandle" ∧ (parseMethodDescriptor yX4_seen.desc).map (fun d => d.parameters.length) = some 4 := by decide +kernel

set_option maxRecDepth 100000 in
theorem tX4_joined_0 {l : Launch} {E : Env5}     (M : Mem) {v9 : Int32} {M9 : Mem}  (H : fX4_joined   M = some (v9, M9)) : Z l E RX4 cX4_joined 1 (some .int) 4 0 [(0, .ref (eA E (0)))] [] M (PR (some (.int v9)) M9) := by
  unfold fX4_joined at H
  refine Z.aload_n dX4_joined_0 0 rfl ?_
  refine Z.get dX4_joined_1 inX4 (hc := rfl) (by decide) c4 1 (by decide) kw168 rfl rfl ?_
  refine bindC H (fun v1 hv1 H => ?_)
  refine Z.callV (As := []) (rest := []) (st' := [.int (v1.1)]) dX4_joined_4 (kX1_fewestPeople (Or.inl rfl)  M hv1) kw463 kw464 kw465 kw3 kw466 hdX1_fewestPeople (cN (Or.inl rfl)) (c1 (Or.inl rfl)) (hc := rfl) (by decide) (by decide) rfl rfl (Nat.le_of_ble_eq_true rfl) rfl ?_
  exact Z.iret rfl dX4_joined_7 (retW H)
theorem kX4_joined {l : Launch} {E : Env5}    (M : Mem) {v9 : Int32} {M9 : Mem} (H : fX4_joined  M = some (v9, M9)) : Cn l E yX4_joined cX4_joined 1 (some .int) 4 [.ref (eA E (0))] M (PR (some (.int v9)) M9) := Cn.ofZ rfl (Nat.le_of_ble_eq_true rfl) rfl (tX4_joined_0   M H)
theorem hdX4_joined : yX4_joined.cls ≠ "java/lang/invoke/MethodHandle" ∧ yX4_joined.cls ≠ "java/lang/invoke/VarHandle" ∧ (parseMethodDescriptor yX4_joined.desc).map (fun d => d.parameters.length) = some 0 := by decide +kernel

set_option maxRecDepth 100000 in
theorem tX4_forget_0 {l : Launch} {E : Env5}     (M : Mem) {v9 : Int32} {M9 : Mem}  (H : fX4_forget   M = some (v9, M9)) : Z l E RX4 cX4_forget 2 (some .int) 0 0 [(0, .ref (eA E (0)))] [] M (PR (some (.int v9)) M9) := by
  unfold fX4_forget at H
  refine Z.aload_n dX4_forget_0 0 rfl ?_
  refine Z.get dX4_forget_1 inX4 (hc := rfl) (by decide) c4 1 (by decide) kw168 rfl rfl ?_
  refine Z.getN dX4_forget_4 inX1 (hc := rfl) (cN (Or.inl rfl)) (c1 (Or.inl rfl)) 4 (by decide) kn67 rfl rfl ?_
  refine Z.aload_n dX4_forget_7 0 rfl ?_
  refine Z.get dX4_forget_8 inX4 (hc := rfl) (by decide) c4 1 (by decide) kw168 rfl rfl ?_
  refine Z.getN dX4_forget_11 inX1 (hc := rfl) (cN (Or.inl rfl)) (c1 (Or.inl rfl)) 5 (by decide) kn69 rfl rfl ?_
  refine Z.iadd dX4_forget_14 ?_
  refine Z.istore_n (lv' := [(1, .int ((M.1 4 4) + (M.1 4 5))), (0, .ref (eA E (0)))]) dX4_forget_15 (by decide) rfl ?_
  refine Z.aload_n dX4_forget_16 1 rfl ?_
  refine Z.get dX4_forget_17 inX4 (hc := rfl) (by decide) c4 1 (by decide) kw168 rfl rfl ?_
  refine Z.iconst (v := 0) dX4_forget_20 (by decide) ?_
  refine wE H (fun M1 eM1 H => ?_)
  refine Z.putN (ty := .int) (M' := M1) dX4_forget_21 inX1 tyX1_ok nmX1 (hc := rfl) (cN (Or.inl rfl)) (c1 (Or.inl rfl)) 4 (by decide) kn67 rfl rfl (by decide +kernel) rfl rfl (Nat.le_of_ble_eq_true rfl) (by rw [← eM1, (c1 (Or.inl rfl)), sI_k]; exact congrArg (fun q => Sum.inr (1, q)) u1_factCount) (by rw [← eM1]; exact sI_o) (by rw [← eM1]; exact (fun q => q)) ?_
  refine Z.aload_n dX4_forget_24 1 rfl ?_
  refine Z.get dX4_forget_25 inX4 (hc := rfl) (by decide) c4 1 (by decide) kw168 rfl rfl ?_
  refine Z.iconst (v := 0) dX4_forget_28 (by decide) ?_
  refine wE H (fun M2 eM2 H => ?_)
  refine Z.putN (ty := .int) (M' := M2) dX4_forget_29 inX1 tyX1_ok nmX1 (hc := rfl) (cN (Or.inl rfl)) (c1 (Or.inl rfl)) 5 (by decide) kn69 rfl rfl (by decide +kernel) rfl rfl (Nat.le_of_ble_eq_true rfl) (by rw [← eM2, (c1 (Or.inl rfl)), sI_k]; exact congrArg (fun q => Sum.inr (1, q)) u1_seenCount) (by rw [← eM2]; exact sI_o) (by rw [← eM2]; exact (fun q => q)) ?_
  refine Z.iload_n dX4_forget_32 0 rfl ?_
  exact Z.iret rfl dX4_forget_33 (retW H)
theorem kX4_forget {l : Launch} {E : Env5}    (M : Mem) {v9 : Int32} {M9 : Mem} (H : fX4_forget  M = some (v9, M9)) : Cn l E yX4_forget cX4_forget 2 (some .int) 0 [.ref (eA E (0))] M (PR (some (.int v9)) M9) := Cn.ofZ rfl (Nat.le_of_ble_eq_true rfl) rfl (tX4_forget_0   M H)
theorem hdX4_forget : yX4_forget.cls ≠ "java/lang/invoke/MethodHandle" ∧ yX4_forget.cls ≠ "java/lang/invoke/VarHandle" ∧ (parseMethodDescriptor yX4_forget.desc).map (fun d => d.parameters.length) = some 0 := by decide +kernel

set_option maxRecDepth 100000 in
theorem tX4_greatestDivisor_29 {l : Launch} {E : Env5}    (x2 : Int32) (M : Mem) {v9 : Int32}  (H : fX4_greatestDivisor_29  x2 = some v9) : Z l E RX4 cX4_greatestDivisor 3 (some .int) 1 29 [(2, .int (x2))] [] M (PR (some (.int v9)) M) := by
  unfold fX4_greatestDivisor_29 at H
  refine Z.iload_n dX4_greatestDivisor_29 0 rfl ?_
  refine Z.iconst (v := 1) dX4_greatestDivisor_30 (by decide) ?_
  refine Z.mmax dX4_greatestDivisor_31 kw503 kw433 kw8 km_max (by decide) (Nat.le_of_ble_eq_true rfl) ?_
  exact Z.iret rfl dX4_greatestDivisor_34 (retR H)
set_option maxRecDepth 100000 in
theorem tX4_greatestDivisor_23 {l : Launch} {E : Env5}   {k6 : Int32 → Int32 → Int32 → Option Int32} (x0 : Int32) (x1 : Int32) (x2 : Int32) (M : Mem) {v9 : Int32} (hk6 : ∀ (x0 : Int32) (x1 : Int32) (x2 : Int32), k6 x0 x1 x2 = some v9 → Z l E RX4 cX4_greatestDivisor 3 (some .int) 1 6 [(0, .int (x0)), (1, .int (x1)), (2, .int (x2))] [] M (PR (some (.int v9)) M)) (H : fX4_greatestDivisor_23 k6 x0 x1 x2 = some v9) : Z l E RX4 cX4_greatestDivisor 3 (some .int) 1 23 [(0, .int (x0)), (1, .int (x1)), (2, .int (x2))] [] M (PR (some (.int v9)) M) := by
  unfold fX4_greatestDivisor_23 at H
  refine Z.iinc (v := x2 + (-1)) (lv' := [(2, .int (x2 + (-1))), (0, .int (x0)), (1, .int (x1))]) dX4_greatestDivisor_23 2 rfl rfl (by decide) rfl ?_
  refine Z.goto dX4_greatestDivisor_26 ?_
  refine Z.sub [1, 2, 0] rfl ?_
  exact hk6 (x0) (x1) (x2 + (-1)) H
set_option maxRecDepth 100000 in
theorem tX4_greatestDivisor_6 {l : Launch} {E : Env5}   {k6 : Int32 → Int32 → Int32 → Option Int32} (x0 : Int32) (x1 : Int32) (x2 : Int32) (M : Mem) {v9 : Int32} (hk6 : ∀ (x0 : Int32) (x1 : Int32) (x2 : Int32), k6 x0 x1 x2 = some v9 → Z l E RX4 cX4_greatestDivisor 3 (some .int) 1 6 [(0, .int (x0)), (1, .int (x1)), (2, .int (x2))] [] M (PR (some (.int v9)) M)) (H : fX4_greatestDivisor_6B k6 x0 x1 x2 = some v9) : Z l E RX4 cX4_greatestDivisor 3 (some .int) 1 6 [(0, .int (x0)), (1, .int (x1)), (2, .int (x2))] [] M (PR (some (.int v9)) M) := by
  unfold fX4_greatestDivisor_6B at H
  refine Z.iload_n dX4_greatestDivisor_6 2 rfl ?_
  refine Z.iconst (v := 1) dX4_greatestDivisor_7 (by decide) ?_
  refine Z.icmp_leH dX4_greatestDivisor_8 H (fun br8 H => ?_) (fun br8 H => ?_)
  · refine Z.sub [2] rfl ?_
    exact tX4_greatestDivisor_29  (x2) M  H
  · refine Z.iload_n dX4_greatestDivisor_11 0 rfl ?_
    refine Z.iload_n dX4_greatestDivisor_12 2 rfl ?_
    refine Z.iremH dX4_greatestDivisor_13 H (fun v1 H => ?_)
    refine Z.if_neH dX4_greatestDivisor_14 H (fun br14 H => ?_) (fun br14 H => ?_)
    · refine Z.sub [0, 1, 2] rfl ?_
      exact tX4_greatestDivisor_23  (x0) (x1) (x2) M hk6 H
    · refine Z.iload_n dX4_greatestDivisor_17 1 rfl ?_
      refine Z.iload_n dX4_greatestDivisor_18 2 rfl ?_
      refine Z.iremH dX4_greatestDivisor_19 H (fun v2 H => ?_)
      refine Z.if_eqH dX4_greatestDivisor_20 H (fun br20 H => ?_) (fun br20 H => ?_)
      · refine Z.sub [2] rfl ?_
        exact tX4_greatestDivisor_29  (x2) M  H
      · refine Z.sub [0, 1, 2] rfl ?_
        exact tX4_greatestDivisor_23  (x0) (x1) (x2) M hk6 H
theorem tX4_greatestDivisor_6L {l : Launch} {E : Env5}    (M : Mem) {v9 : Int32}  : ∀ (n : Nat) (x0 : Int32) (x1 : Int32) (x2 : Int32), fX4_greatestDivisor_6L   n x0 x1 x2 = some v9 → Z l E RX4 cX4_greatestDivisor 3 (some .int) 1 6 [(0, .int (x0)), (1, .int (x1)), (2, .int (x2))] [] M (PR (some (.int v9)) M) := by
  intro n
  induction n with
  | zero => intro x0 x1 x2 H; exact absurd H (by simp [fX4_greatestDivisor_6L])
  | succ n ih => intro x0 x1 x2 H; exact tX4_greatestDivisor_6  x0 x1 x2 M  (fun x0 x1 x2 H => ih x0 x1 x2 H) H
set_option maxRecDepth 100000 in
theorem tX4_greatestDivisor_0 {l : Launch} {E : Env5}    (x0 : Int32) (x1 : Int32) (M : Mem) {v9 : Int32}  (H : fX4_greatestDivisor  x0 x1 = some v9) : Z l E RX4 cX4_greatestDivisor 3 (some .int) 1 0 [(0, .int (x0)), (1, .int (x1))] [] M (PR (some (.int v9)) M) := by
  unfold fX4_greatestDivisor at H
  refine Z.iload_n dX4_greatestDivisor_0 0 rfl ?_
  refine Z.iload_n dX4_greatestDivisor_1 1 rfl ?_
  refine Z.mmin dX4_greatestDivisor_2 kw502 kw229 kw8 km_min (by decide) (Nat.le_of_ble_eq_true rfl) ?_
  refine Z.istore_n (lv' := [(2, .int (imin x0 x1)), (0, .int (x0)), (1, .int (x1))]) dX4_greatestDivisor_5 (by decide) rfl ?_
  refine Z.sub [1, 2, 0] rfl ?_
  exact tX4_greatestDivisor_6L  M  FU (x0) (x1) (imin x0 x1) H
theorem kX4_greatestDivisor {l : Launch} {E : Env5}   (x0 : Int32) (x1 : Int32) (M : Mem) {v9 : Int32} (H : fX4_greatestDivisor x0 x1 = some v9) : Cn l E yX4_greatestDivisor cX4_greatestDivisor 3 (some .int) 1 [.int (x0), .int (x1)] M (PR (some (.int v9)) M) := Cn.ofZ rfl (Nat.le_of_ble_eq_true rfl) rfl (tX4_greatestDivisor_0  x0 x1 M H)
theorem hdX4_greatestDivisor : yX4_greatestDivisor.cls ≠ "java/lang/invoke/MethodHandle" ∧ yX4_greatestDivisor.cls ≠ "java/lang/invoke/VarHandle" ∧ (parseMethodDescriptor yX4_greatestDivisor.desc).map (fun d => d.parameters.length) = some 2 := by decide +kernel

set_option maxRecDepth 100000 in
theorem tX4_all_0 {l : Launch} {E : Env5}    (x1 : Int32) (x2 : Int32) (x3 : Int32) (M : Mem) {v9 : Int32}  (H : fX4_all  x1 x2 x3 M = some v9) : Z l E RX4 cX4_all 9 (some .int) 2 0 [(0, .ref (eA E (0))), (1, .int (x1)), (2, .int (x2)), (3, .int (x3))] [] M (PR (some (.int v9)) M) := by
  unfold fX4_all at H
  refine Z.aload_n dX4_all_0 0 rfl ?_
  refine Z.get dX4_all_1 inX4 (hc := rfl) (by decide) c4 5 (by decide) kw172 rfl rfl ?_
  refine Z.wf (fun hs1 => ?_)
  refine Z.iload_n dX4_all_4 1 rfl ?_
  refine bindC H (fun v1 hv1 H => ?_)
  refine Z.callV (As := [.int (x1)]) (rest := []) (st' := [.int (v1)]) dX4_all_5 (kX2_isPicture hs1.1 (x1) M hv1) kw347 kw348 kw349 kw6 kw350 hdX2_isPicture (cS hs1.1) (c2 hs1.1) (hc := rfl) (by decide) (by decide) rfl rfl (Nat.le_of_ble_eq_true rfl) rfl ?_
  refine Z.if_eqH dX4_all_8 H (fun br8 H => ?_) (fun br8 H => ?_)
  · refine Z.iconst (v := (-1)) dX4_all_36 (by decide) ?_
    exact Z.iret rfl dX4_all_37 (retR H)
  · refine Z.aload_n dX4_all_11 0 rfl ?_
    refine Z.get dX4_all_12 inX4 (hc := rfl) (by decide) c4 5 (by decide) kw172 rfl rfl ?_
    refine Z.wf (fun hs12 => ?_)
    refine Z.iload_n dX4_all_15 2 rfl ?_
    refine bindC H (fun v2 hv2 H => ?_)
    refine Z.callV (As := [.int (x2)]) (rest := []) (st' := [.int (v2)]) dX4_all_16 (kX2_isPicture hs12.1 (x2) M hv2) kw347 kw348 kw349 kw6 kw350 hdX2_isPicture (cS hs12.1) (c2 hs12.1) (hc := rfl) (by decide) (by decide) rfl rfl (Nat.le_of_ble_eq_true rfl) rfl ?_
    refine Z.if_eqH dX4_all_19 H (fun br19 H => ?_) (fun br19 H => ?_)
    · refine Z.iconst (v := (-1)) dX4_all_36 (by decide) ?_
      exact Z.iret rfl dX4_all_37 (retR H)
    · refine Z.iload_n dX4_all_22 1 rfl ?_
      refine Z.iload_n dX4_all_23 2 rfl ?_
      refine Z.icmp_eqH dX4_all_24 H (fun br24 H => ?_) (fun br24 H => ?_)
      · refine Z.iconst (v := (-1)) dX4_all_36 (by decide) ?_
        exact Z.iret rfl dX4_all_37 (retR H)
      · refine Z.iload_n dX4_all_27 3 rfl ?_
        refine Z.iconst (v := 0) dX4_all_28 (by decide) ?_
        refine Z.iconst (v := 1) dX4_all_29 (by decide) ?_
        refine bindC H (fun v3 hv3 H => ?_)
        refine Z.callS (As := [.int (x3), .int (0), .int (1)]) (rest := []) (st' := [.int (v3)]) dX4_all_30 (kX4_isBetween  (x3) (0) (1) M hv3) kw196 kw197 kw1 kw198 hdX4_isBetween (by decide) (by decide) rfl rfl (Nat.le_of_ble_eq_true rfl) rfl ?_
        refine Z.if_neH dX4_all_33 H (fun br33 H => ?_) (fun br33 H => ?_)
        · refine Z.aload_n dX4_all_38 0 rfl ?_
          refine Z.get dX4_all_39 inX4 (hc := rfl) (by decide) c4 5 (by decide) kw172 rfl rfl ?_
          refine Z.wf (fun hs39 => ?_)
          refine Z.getN dX4_all_42 inX2 (hc := rfl) (cS hs39.1) (c2 hs39.1) 11 (by decide) kn134 rfl rfl ?_
          refine Z.iload_n dX4_all_45 1 rfl ?_
          refine Z.ialdH dX4_all_46 (a2_shown hs39.1) H (fun v4 H => ?_)
          refine Z.istore (lv' := [(4, .int (v4)), (0, .ref (eA E (0))), (1, .int (x1)), (2, .int (x2)), (3, .int (x3))]) dX4_all_47 (by decide) rfl ?_
          refine Z.aload_n dX4_all_49 1 rfl ?_
          refine Z.get dX4_all_50 inX4 (hc := rfl) (by decide) c4 5 (by decide) kw172 rfl rfl ?_
          refine Z.wf (fun hs50 => ?_)
          refine Z.getN dX4_all_53 inX2 (hc := rfl) (cS hs50.1) (c2 hs50.1) 11 (by decide) kn134 rfl rfl ?_
          refine Z.iload_n dX4_all_56 3 rfl ?_
          refine Z.ialdH dX4_all_57 (a2_shown hs50.1) H (fun v5 H => ?_)
          refine Z.istore (lv' := [(5, .int (v5)), (4, .int (v4)), (0, .ref (eA E (0))), (1, .int (x1)), (2, .int (x2)), (3, .int (x3))]) dX4_all_58 (by decide) rfl ?_
          refine Z.iload dX4_all_60 1 rfl ?_
          refine Z.iload dX4_all_62 0 rfl ?_
          refine Z.iand dX4_all_64 ?_
          refine bindC H (fun v6 hv6 H => ?_)
          refine Z.callS (As := [.int (v4 &&& v5)]) (rest := []) (st' := [.int (v6)]) dX4_all_65 (kJ6_bitCount_0f7a4  (v4 &&& v5) M hv6) kw498 kw481 kw10 kw482 hdJ6_bitCount_0f7a4 (by decide) (by decide) rfl rfl (Nat.le_of_ble_eq_true rfl) rfl ?_
          refine Z.istore (lv' := [(6, .int (v6)), (5, .int (v5)), (4, .int (v4)), (0, .ref (eA E (0))), (1, .int (x1)), (2, .int (x2)), (3, .int (x3))]) dX4_all_68 (by decide) rfl ?_
          refine Z.iload dX4_all_70 0 rfl ?_
          refine Z.if_neH dX4_all_72 H (fun br72 H => ?_) (fun br72 H => ?_)
          · refine Z.iload dX4_all_78 2 rfl ?_
            refine bindC H (fun v7 hv7 H => ?_)
            refine Z.callS (As := [.int (v4)]) (rest := []) (st' := [.int (v7)]) dX4_all_80 (kJ6_bitCount_0f7a4  (v4) M hv7) kw498 kw481 kw10 kw482 hdJ6_bitCount_0f7a4 (by decide) (by decide) rfl rfl (Nat.le_of_ble_eq_true rfl) rfl ?_
            refine Z.iload dX4_all_83 1 rfl ?_
            refine bindC H (fun v8 hv8 H => ?_)
            refine Z.callS (As := [.int (v5)]) (rest := [.int (v7)]) (st' := [.int (v8), .int (v7)]) dX4_all_85 (kJ6_bitCount_0f7a4  (v5) M hv8) kw498 kw481 kw10 kw482 hdJ6_bitCount_0f7a4 (by decide) (by decide) rfl rfl (Nat.le_of_ble_eq_true rfl) rfl ?_
            refine Z.imul dX4_all_88 ?_
            refine Z.istore (lv' := [(7, .int (v7 * v8)), (6, .int (v6)), (5, .int (v5)), (4, .int (v4)), (0, .ref (eA E (0))), (1, .int (x1)), (2, .int (x2)), (3, .int (x3))]) dX4_all_89 (by decide) rfl ?_
            refine Z.iload dX4_all_91 0 rfl ?_
            refine Z.iload dX4_all_93 1 rfl ?_
            refine bindC H (fun v9 hv9 H => ?_)
            refine Z.callS (As := [.int (v7 * v8), .int (v6)]) (rest := []) (st' := [.int (v9)]) dX4_all_95 (kX4_greatestDivisor  (v7 * v8) (v6) M hv9) kw499 kw500 kw1 kw501 hdX4_greatestDivisor (by decide) (by decide) rfl rfl (Nat.le_of_ble_eq_true rfl) rfl ?_
            refine Z.istore (lv' := [(8, .int (v9)), (7, .int (v7 * v8)), (6, .int (v6)), (5, .int (v5)), (4, .int (v4)), (0, .ref (eA E (0))), (1, .int (x1)), (2, .int (x2)), (3, .int (x3))]) dX4_all_98 (by decide) rfl ?_
            refine Z.iload_n dX4_all_100 8 rfl ?_
            refine Z.if_neH dX4_all_101 H (fun br101 H => ?_) (fun br101 H => ?_)
            · refine Z.iload dX4_all_109 2 rfl ?_
              refine Z.iload dX4_all_111 0 rfl ?_
              refine Z.idivH dX4_all_113 H (fun v10 H => ?_)
              exact Z.iret rfl dX4_all_114 (retR H)
            · refine Z.iload dX4_all_104 1 rfl ?_
              refine Z.goto dX4_all_106 ?_
              refine Z.iload dX4_all_111 0 rfl ?_
              refine Z.idivH dX4_all_113 H (fun v11 H => ?_)
              exact Z.iret rfl dX4_all_114 (retR H)
          · refine Z.bipush (v := (-2)) dX4_all_75 (by decide) ?_
            exact Z.iret rfl dX4_all_77 (retR H)
        · refine Z.iconst (v := (-1)) dX4_all_36 (by decide) ?_
          exact Z.iret rfl dX4_all_37 (retR H)
theorem kX4_all {l : Launch} {E : Env5}   (x1 : Int32) (x2 : Int32) (x3 : Int32) (M : Mem) {v9 : Int32} (H : fX4_all x1 x2 x3 M = some v9) : Cn l E yX4_all cX4_all 9 (some .int) 2 [.ref (eA E (0)), .int (x1), .int (x2), .int (x3)] M (PR (some (.int v9)) M) := Cn.ofZ rfl (Nat.le_of_ble_eq_true rfl) rfl (tX4_all_0  x1 x2 x3 M H)
theorem hdX4_all : yX4_all.cls ≠ "java/lang/invoke/MethodHandle" ∧ yX4_all.cls ≠ "java/lang/invoke/VarHandle" ∧ (parseMethodDescriptor yX4_all.desc).map (fun d => d.parameters.length) = some 3 := by decide +kernel

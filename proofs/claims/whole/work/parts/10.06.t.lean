set_option maxRecDepth 100000 in
theorem tX5_waitOf_2 {l : Launch} {E : Env5}   {k2 : Int32 → Int32 → Mem → Option (Int32 × Mem)} (x1 : Int32) (x2 : Int32) (M : Mem) {v9 : Int32} {M9 : Mem} (hk2 : ∀ (x1 : Int32) (x2 : Int32) (M : Mem), k2 x1 x2 M = some (v9, M9) → Z l E RX5 cX5_waitOf 3 (some .int) 7 2 [(0, .ref (eA E (42))), (1, .int (x1)), (2, .int (x2))] [] M (PR (some (.int v9)) M9)) (H : fX5_waitOf_2B k2 x1 x2 M = some (v9, M9)) : Z l E RX5 cX5_waitOf 3 (some .int) 7 2 [(0, .ref (eA E (42))), (1, .int (x1)), (2, .int (x2))] [] M (PR (some (.int v9)) M9) := by
  unfold fX5_waitOf_2B at H
  refine Z.iload_n dX5_waitOf_2 2 rfl ?_
  refine Z.bipush (v := 99) dX5_waitOf_3 (by decide) ?_
  refine Z.icmp_gtH dX5_waitOf_5 H (fun br5 H => ?_) (fun br5 H => ?_)
  · refine Z.bipush (v := (-9)) dX5_waitOf_50 (by decide) ?_
    exact Z.iret rfl dX5_waitOf_52 (retW H)
  · refine Z.aload_n dX5_waitOf_8 0 rfl ?_
    refine Z.iload_n dX5_waitOf_9 1 rfl ?_
    refine Z.aload_n dX5_waitOf_10 0 rfl ?_
    refine Z.get dX5_waitOf_11 inX5 (hc := rfl) (by decide) c5 9 (by decide) kw688 rfl rfl ?_
    refine Z.iconst (v := 5) dX5_waitOf_14 (by decide) ?_
    refine Z.iload_n dX5_waitOf_15 1 rfl ?_
    refine Z.imul dX5_waitOf_16 ?_
    refine Z.iconst (v := 4) dX5_waitOf_17 (by decide) ?_
    refine Z.iadd dX5_waitOf_18 ?_
    refine Z.ialdH dX5_waitOf_19 a5_picture H (fun v1 H => ?_)
    refine Z.iload_n dX5_waitOf_20 2 rfl ?_
    refine Z.iadd dX5_waitOf_21 ?_
    refine bindC H (fun v2 hv2 H => ?_)
    refine Z.callV (As := [.int (x1), .int (v1 + x2)]) (rest := []) (st' := []) dX5_waitOf_22 (kX5_lookAs  (x1) (v1 + x2) M hv2) kw892 kw894 ks44 kw7 kw895 hdX5_lookAs (by decide) c5 (hc := rfl) (by decide) (by decide) rfl rfl (Nat.le_of_ble_eq_true rfl) rfl ?_
    refine Z.aload_n dX5_waitOf_25 0 rfl ?_
    refine Z.aload_n dX5_waitOf_26 0 rfl ?_
    refine Z.get dX5_waitOf_27 inX5 (hc := rfl) (by decide) c5 9 (by decide) kw688 rfl rfl ?_
    refine Z.iconst (v := 5) dX5_waitOf_30 (by decide) ?_
    refine Z.iload_n dX5_waitOf_31 1 rfl ?_
    refine Z.imul dX5_waitOf_32 ?_
    refine Z.iconst (v := 3) dX5_waitOf_33 (by decide) ?_
    refine Z.iadd dX5_waitOf_34 ?_
    refine Z.ialdH dX5_waitOf_35 a5_picture H (fun v3 H => ?_)
    refine bindC H (fun v4 hv4 H => ?_)
    refine Z.callV (As := [.int (v3)]) (rest := []) (st' := [.int (v4)]) dX5_waitOf_36 (kX5_shown  (v3) v2 hv4) kw900 kw902 ks46 kw7 kw903 hdX5_shown (by decide) c5 (hc := rfl) (by decide) (by decide) rfl rfl (Nat.le_of_ble_eq_true rfl) rfl ?_
    refine Z.if_neH dX5_waitOf_39 H (fun br39 H => ?_) (fun br39 H => ?_)
    · refine Z.iinc (v := x2 + 1) (lv' := [(2, .int (x2 + 1)), (0, .ref (eA E (42))), (1, .int (x1))]) dX5_waitOf_44 2 rfl rfl (by decide) rfl ?_
      refine Z.goto dX5_waitOf_47 ?_
      refine Z.sub [1, 2, 0] rfl ?_
      exact hk2 (x1) (x2 + 1) v2  H
    · refine Z.iload_n dX5_waitOf_42 2 rfl ?_
      exact Z.iret rfl dX5_waitOf_43 (retW H)
theorem tX5_waitOf_2L {l : Launch} {E : Env5}     {v9 : Int32} {M9 : Mem}  : ∀ (n : Nat) (x1 : Int32) (x2 : Int32) (M : Mem), fX5_waitOf_2L   n x1 x2 M = some (v9, M9) → Z l E RX5 cX5_waitOf 3 (some .int) 7 2 [(0, .ref (eA E (42))), (1, .int (x1)), (2, .int (x2))] [] M (PR (some (.int v9)) M9) := by
  intro n
  induction n with
  | zero => intro x1 x2 M H; exact absurd H (by simp [fX5_waitOf_2L])
  | succ n ih => intro x1 x2 M H; exact tX5_waitOf_2  x1 x2 M  (fun x1 x2 M H => ih x1 x2 M H) H
set_option maxRecDepth 100000 in
theorem tX5_waitOf_0 {l : Launch} {E : Env5}    (x1 : Int32) (M : Mem) {v9 : Int32} {M9 : Mem}  (H : fX5_waitOf  x1 M = some (v9, M9)) : Z l E RX5 cX5_waitOf 3 (some .int) 7 0 [(0, .ref (eA E (42))), (1, .int (x1))] [] M (PR (some (.int v9)) M9) := by
  unfold fX5_waitOf at H
  refine Z.iconst (v := 0) dX5_waitOf_0 (by decide) ?_
  refine Z.istore_n (lv' := [(2, .int (0)), (0, .ref (eA E (42))), (1, .int (x1))]) dX5_waitOf_1 (by decide) rfl ?_
  refine Z.sub [1, 2, 0] rfl ?_
  exact tX5_waitOf_2L   FU (x1) (0) M H
theorem kX5_waitOf {l : Launch} {E : Env5}   (x1 : Int32) (M : Mem) {v9 : Int32} {M9 : Mem} (H : fX5_waitOf x1 M = some (v9, M9)) : Cn l E yX5_waitOf cX5_waitOf 3 (some .int) 7 [.ref (eA E (42)), .int (x1)] M (PR (some (.int v9)) M9) := Cn.ofZ rfl (Nat.le_of_ble_eq_true rfl) rfl (tX5_waitOf_0  x1 M H)
theorem hdX5_waitOf : yX5_waitOf.cls ≠ "java/lang/invoke/MethodHandle" ∧ yX5_waitOf.cls ≠ "java/lang/invoke/VarHandle" ∧ (parseMethodDescriptor yX5_waitOf.desc).map (fun d => d.parameters.length) = some 1 := by decide +kernel

set_option maxRecDepth 100000 in
theorem tX5_waits_0 {l : Launch} {E : Env5}    (x1 : Int32) (M : Mem) {v9 : Int32} {M9 : Mem}  (H : fX5_waits  x1 M = some (v9, M9)) : Z l E RX5 cX5_waits 2 (some .int) 8 0 [(0, .ref (eA E (42))), (1, .int (x1))] [] M (PR (some (.int v9)) M9) := by
  unfold fX5_waits at H
  refine Z.aload_n dX5_waits_0 0 rfl ?_
  refine Z.iload_n dX5_waits_1 1 rfl ?_
  refine bindC H (fun v1 hv1 H => ?_)
  refine Z.callV (As := [.int (x1)]) (rest := []) (st' := [.int (v1)]) dX5_waits_2 (kX5_isPicture  (x1) M hv1) kw858 kw860 ks40 kw7 kw861 hdX5_isPicture (by decide) c5 (hc := rfl) (by decide) (by decide) rfl rfl (Nat.le_of_ble_eq_true rfl) rfl ?_
  refine Z.if_eqH dX5_waits_5 H (fun br5 H => ?_) (fun br5 H => ?_)
  · refine Z.iconst (v := (-1)) dX5_waits_16 (by decide) ?_
    exact Z.iret rfl dX5_waits_17 (retW H)
  · refine Z.aload_n dX5_waits_8 0 rfl ?_
    refine Z.iload_n dX5_waits_9 1 rfl ?_
    refine bindC H (fun v2 hv2 H => ?_)
    refine Z.callV (As := [.int (x1)]) (rest := []) (st' := [.int (v2.1)]) dX5_waits_10 (kX5_waitOf  (x1) M hv2) kw1023 kw1025 ks60 kw7 kw1026 hdX5_waitOf (by decide) c5 (hc := rfl) (by decide) (by decide) rfl rfl (Nat.le_of_ble_eq_true rfl) rfl ?_
    refine Z.goto dX5_waits_13 ?_
    exact Z.iret rfl dX5_waits_17 (retW H)
theorem kX5_waits {l : Launch} {E : Env5}   (x1 : Int32) (M : Mem) {v9 : Int32} {M9 : Mem} (H : fX5_waits x1 M = some (v9, M9)) : Cn l E yX5_waits cX5_waits 2 (some .int) 8 [.ref (eA E (42)), .int (x1)] M (PR (some (.int v9)) M9) := Cn.ofZ rfl (Nat.le_of_ble_eq_true rfl) rfl (tX5_waits_0  x1 M H)
theorem hdX5_waits : yX5_waits.cls ≠ "java/lang/invoke/MethodHandle" ∧ yX5_waits.cls ≠ "java/lang/invoke/VarHandle" ∧ (parseMethodDescriptor yX5_waits.desc).map (fun d => d.parameters.length) = some 1 := by decide +kernel

set_option maxRecDepth 100000 in
theorem tX5_lost_32 {l : Launch} {E : Env5}   {k4 : Int32 → Int32 → Mem → Option (Int32 × Mem)} (x2 : Int32) (s0 : Int32) (s1 : Int32) (M : Mem) {v9 : Int32} {M9 : Mem} (hk4 : ∀ (x1 : Int32) (x2 : Int32) (M : Mem), k4 x1 x2 M = some (v9, M9) → Z l E RX5 cX5_lost 4 (some .int) 8 4 [(0, .ref (eA E (42))), (1, .int (x1)), (2, .int (x2))] [] M (PR (some (.int v9)) M9)) (H : fX5_lost_32 k4 x2 s0 s1 M = some (v9, M9)) : Z l E RX5 cX5_lost 4 (some .int) 8 32 [(0, .ref (eA E (42))), (2, .int (x2))] [.int (s0), .int (s1)] M (PR (some (.int v9)) M9) := by
  unfold fX5_lost_32 at H
  refine Z.iadd dX5_lost_32 ?_
  refine Z.istore_n (lv' := [(1, .int (s1 + s0)), (0, .ref (eA E (42))), (2, .int (x2))]) dX5_lost_33 (by decide) rfl ?_
  refine Z.iinc (v := x2 + 1) (lv' := [(2, .int (x2 + 1)), (1, .int (s1 + s0)), (0, .ref (eA E (42)))]) dX5_lost_34 2 rfl rfl (by decide) rfl ?_
  refine Z.goto dX5_lost_37 ?_
  refine Z.sub [2, 1, 0] rfl ?_
  exact hk4 (s1 + s0) (x2 + 1) M  H
set_option maxRecDepth 100000 in
theorem tX5_lost_4 {l : Launch} {E : Env5}   {k4 : Int32 → Int32 → Mem → Option (Int32 × Mem)} (x1 : Int32) (x2 : Int32) (M : Mem) {v9 : Int32} {M9 : Mem} (hk4 : ∀ (x1 : Int32) (x2 : Int32) (M : Mem), k4 x1 x2 M = some (v9, M9) → Z l E RX5 cX5_lost 4 (some .int) 8 4 [(0, .ref (eA E (42))), (1, .int (x1)), (2, .int (x2))] [] M (PR (some (.int v9)) M9)) (H : fX5_lost_4B k4 x1 x2 M = some (v9, M9)) : Z l E RX5 cX5_lost 4 (some .int) 8 4 [(0, .ref (eA E (42))), (1, .int (x1)), (2, .int (x2))] [] M (PR (some (.int v9)) M9) := by
  unfold fX5_lost_4B at H
  refine Z.iload_n dX5_lost_4 2 rfl ?_
  refine Z.aload_n dX5_lost_5 0 rfl ?_
  refine Z.get dX5_lost_6 inX5 (hc := rfl) (by decide) c5 8 (by decide) kw687 rfl rfl ?_
  refine Z.iconst (v := 0) dX5_lost_9 (by decide) ?_
  refine Z.ialdH dX5_lost_10 a5_pictures H (fun v1 H => ?_)
  refine Z.icmp_geH dX5_lost_11 H (fun br11 H => ?_) (fun br11 H => ?_)
  · refine Z.iload_n dX5_lost_40 1 rfl ?_
    exact Z.iret rfl dX5_lost_41 (retW H)
  · refine Z.aload_n dX5_lost_14 0 rfl ?_
    refine Z.iload_n dX5_lost_15 2 rfl ?_
    refine bindC H (fun v2 hv2 H => ?_)
    refine Z.callV (As := [.int (x2)]) (rest := []) (st' := [.int (v2.1)]) dX5_lost_16 (kX5_waitOf  (x2) M hv2) kw1023 kw1025 ks60 kw7 kw1026 hdX5_waitOf (by decide) c5 (hc := rfl) (by decide) (by decide) rfl rfl (Nat.le_of_ble_eq_true rfl) rfl ?_
    refine Z.istore_n (lv' := [(3, .int (v2.1)), (0, .ref (eA E (42))), (1, .int (x1)), (2, .int (x2))]) dX5_lost_19 (by decide) rfl ?_
    refine Z.iload_n dX5_lost_20 2 rfl ?_
    refine Z.iload_n dX5_lost_21 0 rfl ?_
    refine Z.bipush (v := (-9)) dX5_lost_22 (by decide) ?_
    refine Z.icmp_neH dX5_lost_24 H (fun br24 H => ?_) (fun br24 H => ?_)
    · refine Z.iload_n dX5_lost_31 0 rfl ?_
      refine Z.sub [1, 3] rfl ?_
      exact tX5_lost_32  (x2) (v2.1) (x1) v2.2 hk4 H
    · refine Z.iconst (v := 0) dX5_lost_27 (by decide) ?_
      refine Z.goto dX5_lost_28 ?_
      refine Z.sub [1, 3] rfl ?_
      exact tX5_lost_32  (x2) (0) (x1) v2.2 hk4 H
theorem tX5_lost_4L {l : Launch} {E : Env5}     {v9 : Int32} {M9 : Mem}  : ∀ (n : Nat) (x1 : Int32) (x2 : Int32) (M : Mem), fX5_lost_4L   n x1 x2 M = some (v9, M9) → Z l E RX5 cX5_lost 4 (some .int) 8 4 [(0, .ref (eA E (42))), (1, .int (x1)), (2, .int (x2))] [] M (PR (some (.int v9)) M9) := by
  intro n
  induction n with
  | zero => intro x1 x2 M H; exact absurd H (by simp [fX5_lost_4L])
  | succ n ih => intro x1 x2 M H; exact tX5_lost_4  x1 x2 M  (fun x1 x2 M H => ih x1 x2 M H) H
set_option maxRecDepth 100000 in
theorem tX5_lost_0 {l : Launch} {E : Env5}     (M : Mem) {v9 : Int32} {M9 : Mem}  (H : fX5_lost   M = some (v9, M9)) : Z l E RX5 cX5_lost 4 (some .int) 8 0 [(0, .ref (eA E (42)))] [] M (PR (some (.int v9)) M9) := by
  unfold fX5_lost at H
  refine Z.iconst (v := 0) dX5_lost_0 (by decide) ?_
  refine Z.istore_n (lv' := [(1, .int (0)), (0, .ref (eA E (42)))]) dX5_lost_1 (by decide) rfl ?_
  refine Z.iconst (v := 0) dX5_lost_2 (by decide) ?_
  refine Z.istore_n (lv' := [(2, .int (0)), (1, .int (0)), (0, .ref (eA E (42)))]) dX5_lost_3 (by decide) rfl ?_
  refine Z.sub [2, 1, 0] rfl ?_
  exact tX5_lost_4L   FU (0) (0) M H
theorem kX5_lost {l : Launch} {E : Env5}    (M : Mem) {v9 : Int32} {M9 : Mem} (H : fX5_lost  M = some (v9, M9)) : Cn l E yX5_lost cX5_lost 4 (some .int) 8 [.ref (eA E (42))] M (PR (some (.int v9)) M9) := Cn.ofZ rfl (Nat.le_of_ble_eq_true rfl) rfl (tX5_lost_0   M H)
theorem hdX5_lost : yX5_lost.cls ≠ "java/lang/invoke/MethodHandle" ∧ yX5_lost.cls ≠ "java/lang/invoke/VarHandle" ∧ (parseMethodDescriptor yX5_lost.desc).map (fun d => d.parameters.length) = some 0 := by decide +kernel

set_option maxRecDepth 100000 in
theorem tX5_told_243 {l : Launch} {E : Env5}   {k201 : Int32 → Int32 → Int32 → Int32 → Int32 → Int32 → Mem → Option (Int32 × Mem)} (x2 : Int32) (x3 : Int32) (x4 : Int32) (x5 : Int32) (x7 : Int32) (s0 : Int32) (M : Mem) {v9 : Int32} {M9 : Mem} (hk201 : ∀ (x2 : Int32) (x3 : Int32) (x4 : Int32) (x5 : Int32) (x6 : Int32) (x7 : Int32) (M : Mem), k201 x2 x3 x4 x5 x6 x7 M = some (v9, M9) → Z l E RX5 cX5_told 10 (some .int) 8 201 [(0, .ref (eA E (42))), (2, .int (x2)), (3, .int (x3)), (4, .int (x4)), (5, .int (x5)), (6, .int (x6)), (7, .int (x7))] [] M (PR (some (.int v9)) M9)) (H : fX5_told_243 k201 x2 x3 x4 x5 x7 s0 M = some (v9, M9)) : Z l E RX5 cX5_told 10 (some .int) 8 243 [(0, .ref (eA E (42))), (2, .int (x2)), (3, .int (x3)), (4, .int (x4)), (5, .int (x5)), (7, .int (x7))] [.int (s0)] M (PR (some (.int v9)) M9) := by
  unfold fX5_told_243 at H
  refine Z.istore (lv' := [(6, .int (s0)), (0, .ref (eA E (42))), (2, .int (x2)), (3, .int (x3)), (4, .int (x4)), (5, .int (x5)), (7, .int (x7))]) dX5_told_243 (by decide) rfl ?_
  refine Z.iinc (v := x7 + 1) (lv' := [(7, .int (x7 + 1)), (6, .int (s0)), (0, .ref (eA E (42))), (2, .int (x2)), (3, .int (x3)), (4, .int (x4)), (5, .int (x5))]) dX5_told_245 6 rfl rfl (by decide) rfl ?_
  refine Z.goto dX5_told_248 ?_
  refine Z.sub [2, 3, 4, 5, 6, 1, 0] rfl ?_
  exact hk201 (x2) (x3) (x4) (x5) (s0) (x7 + 1) M  H
set_option maxRecDepth 100000 in
theorem tX5_told_233 {l : Launch} {E : Env5}   {k201 : Int32 → Int32 → Int32 → Int32 → Int32 → Int32 → Mem → Option (Int32 × Mem)} (x2 : Int32) (x3 : Int32) (x4 : Int32) (x5 : Int32) (x6 : Int32) (x7 : Int32) (s0 : Int32) (s1 : Int32) (M : Mem) {v9 : Int32} {M9 : Mem} (hk201 : ∀ (x2 : Int32) (x3 : Int32) (x4 : Int32) (x5 : Int32) (x6 : Int32) (x7 : Int32) (M : Mem), k201 x2 x3 x4 x5 x6 x7 M = some (v9, M9) → Z l E RX5 cX5_told 10 (some .int) 8 201 [(0, .ref (eA E (42))), (2, .int (x2)), (3, .int (x3)), (4, .int (x4)), (5, .int (x5)), (6, .int (x6)), (7, .int (x7))] [] M (PR (some (.int v9)) M9)) (H : fX5_told_233 k201 x2 x3 x4 x5 x6 x7 s0 s1 M = some (v9, M9)) : Z l E RX5 cX5_told 10 (some .int) 8 233 [(0, .ref (eA E (42))), (2, .int (x2)), (3, .int (x3)), (4, .int (x4)), (5, .int (x5)), (6, .int (x6)), (7, .int (x7))] [.int (s0), .int (s1)] M (PR (some (.int v9)) M9) := by
  unfold fX5_told_233 at H
  refine Z.icmp_leH dX5_told_233 H (fun br233 H => ?_) (fun br233 H => ?_)
  · refine Z.iload dX5_told_241 5 rfl ?_
    refine Z.sub [0, 1, 2, 3, 4, 6] rfl ?_
    exact tX5_told_243  (x2) (x3) (x4) (x5) (x7) (x6) M hk201 H
  · refine Z.iload dX5_told_236 6 rfl ?_
    refine Z.goto dX5_told_238 ?_
    refine Z.sub [0, 1, 2, 3, 4, 6] rfl ?_
    exact tX5_told_243  (x2) (x3) (x4) (x5) (x7) (x7) M hk201 H
set_option maxRecDepth 100000 in
theorem tX5_told_201 {l : Launch} {E : Env5}   {k201 : Int32 → Int32 → Int32 → Int32 → Int32 → Int32 → Mem → Option (Int32 × Mem)} (x2 : Int32) (x3 : Int32) (x4 : Int32) (x5 : Int32) (x6 : Int32) (x7 : Int32) (M : Mem) {v9 : Int32} {M9 : Mem} (hk201 : ∀ (x2 : Int32) (x3 : Int32) (x4 : Int32) (x5 : Int32) (x6 : Int32) (x7 : Int32) (M : Mem), k201 x2 x3 x4 x5 x6 x7 M = some (v9, M9) → Z l E RX5 cX5_told 10 (some .int) 8 201 [(0, .ref (eA E (42))), (2, .int (x2)), (3, .int (x3)), (4, .int (x4)), (5, .int (x5)), (6, .int (x6)), (7, .int (x7))] [] M (PR (some (.int v9)) M9)) (H : fX5_told_201B k201 x2 x3 x4 x5 x6 x7 M = some (v9, M9)) : Z l E RX5 cX5_told 10 (some .int) 8 201 [(0, .ref (eA E (42))), (2, .int (x2)), (3, .int (x3)), (4, .int (x4)), (5, .int (x5)), (6, .int (x6)), (7, .int (x7))] [] M (PR (some (.int v9)) M9) := by
  unfold fX5_told_201B at H
  refine Z.iload dX5_told_201 6 rfl ?_
  refine Z.bipush (v := 8) dX5_told_203 (by decide) ?_
  refine Z.icmp_geH dX5_told_205 H (fun br205 H => ?_) (fun br205 H => ?_)
  · refine Z.iload_n dX5_told_251 1 rfl ?_
    refine Z.if_neH dX5_told_252 H (fun br252 H => ?_) (fun br252 H => ?_)
    · refine Z.iload_n dX5_told_259 1 rfl ?_
      refine Z.iconst (v := 1) dX5_told_260 (by decide) ?_
      refine Z.icmp_neH dX5_told_261 H (fun br261 H => ?_) (fun br261 H => ?_)
      · refine Z.iload_n dX5_told_269 1 rfl ?_
        refine Z.iconst (v := 2) dX5_told_270 (by decide) ?_
        refine Z.icmp_neH dX5_told_271 H (fun br271 H => ?_) (fun br271 H => ?_)
        · refine Z.iload dX5_told_279 4 rfl ?_
          exact Z.iret rfl dX5_told_281 (retW H)
        · refine Z.iload dX5_told_274 3 rfl ?_
          refine Z.goto dX5_told_276 ?_
          exact Z.iret rfl dX5_told_281 (retW H)
      · refine Z.iload dX5_told_264 5 rfl ?_
        refine Z.goto dX5_told_266 ?_
        exact Z.iret rfl dX5_told_281 (retW H)
    · refine Z.iload_n dX5_told_255 2 rfl ?_
      refine Z.goto dX5_told_256 ?_
      exact Z.iret rfl dX5_told_281 (retW H)
  · refine Z.aload_n dX5_told_208 0 rfl ?_
    refine Z.get dX5_told_209 inX5 (hc := rfl) (by decide) c5 37 (by decide) kw716 rfl rfl ?_
    refine Z.iload dX5_told_212 6 rfl ?_
    refine Z.ialdH dX5_told_214 a5_withs H (fun v1 H => ?_)
    refine Z.iload dX5_told_215 5 rfl ?_
    refine Z.bipush (v := (-9)) dX5_told_217 (by decide) ?_
    refine Z.icmp_neH dX5_told_219 H (fun br219 H => ?_) (fun br219 H => ?_)
    · refine Z.aload_n dX5_told_226 0 rfl ?_
      refine Z.get dX5_told_227 inX5 (hc := rfl) (by decide) c5 37 (by decide) kw716 rfl rfl ?_
      refine Z.iload dX5_told_230 5 rfl ?_
      refine Z.ialdH dX5_told_232 a5_withs H (fun v2 H => ?_)
      refine Z.sub [0, 1, 2, 3, 4, 5, 6] rfl ?_
      exact tX5_told_233  (x2) (x3) (x4) (x5) (x6) (x7) (v2) (v1) M hk201 H
    · refine Z.iconst (v := 0) dX5_told_222 (by decide) ?_
      refine Z.goto dX5_told_223 ?_
      refine Z.sub [0, 1, 2, 3, 4, 5, 6] rfl ?_
      exact tX5_told_233  (x2) (x3) (x4) (x5) (x6) (x7) (0) (v1) M hk201 H
theorem tX5_told_201L {l : Launch} {E : Env5}     {v9 : Int32} {M9 : Mem}  : ∀ (n : Nat) (x2 : Int32) (x3 : Int32) (x4 : Int32) (x5 : Int32) (x6 : Int32) (x7 : Int32) (M : Mem), fX5_told_201L   n x2 x3 x4 x5 x6 x7 M = some (v9, M9) → Z l E RX5 cX5_told 10 (some .int) 8 201 [(0, .ref (eA E (42))), (2, .int (x2)), (3, .int (x3)), (4, .int (x4)), (5, .int (x5)), (6, .int (x6)), (7, .int (x7))] [] M (PR (some (.int v9)) M9) := by
  intro n
  induction n with
  | zero => intro x2 x3 x4 x5 x6 x7 M H; exact absurd H (by simp [fX5_told_201L])
  | succ n ih => intro x2 x3 x4 x5 x6 x7 M H; exact tX5_told_201  x2 x3 x4 x5 x6 x7 M  (fun x2 x3 x4 x5 x6 x7 M H => ih x2 x3 x4 x5 x6 x7 M H) H
set_option maxRecDepth 100000 in
theorem tX5_told_188 {l : Launch} {E : Env5}   {k56 : Int32 → Int32 → Int32 → Int32 → Int32 → Int32 → Mem → Option (Int32 × Mem)} (x1 : Int32) (x2 : Int32) (x3 : Int32) (x4 : Int32) (x5 : Int32) (x6 : Int32) (M : Mem) {v9 : Int32} {M9 : Mem} (hk56 : ∀ (x1 : Int32) (x2 : Int32) (x3 : Int32) (x4 : Int32) (x5 : Int32) (x6 : Int32) (M : Mem), k56 x1 x2 x3 x4 x5 x6 M = some (v9, M9) → Z l E RX5 cX5_told 10 (some .int) 8 56 [(0, .ref (eA E (42))), (1, .int (x1)), (2, .int (x2)), (3, .int (x3)), (4, .int (x4)), (5, .int (x5)), (6, .int (x6))] [] M (PR (some (.int v9)) M9)) (H : fX5_told_188 k56 x1 x2 x3 x4 x5 x6 M = some (v9, M9)) : Z l E RX5 cX5_told 10 (some .int) 8 188 [(0, .ref (eA E (42))), (1, .int (x1)), (2, .int (x2)), (3, .int (x3)), (4, .int (x4)), (5, .int (x5)), (6, .int (x6))] [] M (PR (some (.int v9)) M9) := by
  unfold fX5_told_188 at H
  refine Z.iinc (v := x6 + 1) (lv' := [(6, .int (x6 + 1)), (0, .ref (eA E (42))), (1, .int (x1)), (2, .int (x2)), (3, .int (x3)), (4, .int (x4)), (5, .int (x5))]) dX5_told_188 6 rfl rfl (by decide) rfl ?_
  refine Z.goto dX5_told_191 ?_
  refine Z.sub [1, 2, 3, 4, 5, 6, 0] rfl ?_
  exact hk56 (x1) (x2) (x3) (x4) (x5) (x6 + 1) M  H
set_option maxRecDepth 100000 in
theorem tX5_told_180 {l : Launch} {E : Env5}   {k56 : Int32 → Int32 → Int32 → Int32 → Int32 → Int32 → Mem → Option (Int32 × Mem)} {k143 : Int32 → Int32 → Int32 → Int32 → Int32 → Int32 → Int32 → Int32 → Mem → Option (Int32 × Mem)} (x1 : Int32) (x2 : Int32) (x3 : Int32) (x4 : Int32) (x5 : Int32) (x6 : Int32) (x7 : Int32) (x9 : Int32) (s0 : Int32) (s1 : Int32) (s2 : Int32) (M : Mem) {v9 : Int32} {M9 : Mem} (hk56 : ∀ (x1 : Int32) (x2 : Int32) (x3 : Int32) (x4 : Int32) (x5 : Int32) (x6 : Int32) (M : Mem), k56 x1 x2 x3 x4 x5 x6 M = some (v9, M9) → Z l E RX5 cX5_told 10 (some .int) 8 56 [(0, .ref (eA E (42))), (1, .int (x1)), (2, .int (x2)), (3, .int (x3)), (4, .int (x4)), (5, .int (x5)), (6, .int (x6))] [] M (PR (some (.int v9)) M9)) (hk143 : ∀ (x1 : Int32) (x2 : Int32) (x3 : Int32) (x4 : Int32) (x5 : Int32) (x6 : Int32) (x7 : Int32) (x9 : Int32) (M : Mem), k143 x1 x2 x3 x4 x5 x6 x7 x9 M = some (v9, M9) → Z l E RX5 cX5_told 10 (some .int) 8 143 [(0, .ref (eA E (42))), (1, .int (x1)), (2, .int (x2)), (3, .int (x3)), (4, .int (x4)), (5, .int (x5)), (6, .int (x6)), (7, .int (x7)), (9, .int (x9))] [] M (PR (some (.int v9)) M9)) (H : fX5_told_180 k56 k143 x1 x2 x3 x4 x5 x6 x7 x9 s0 s1 s2 M = some (v9, M9)) : Z l E RX5 cX5_told 10 (some .int) 8 180 [(0, .ref (eA E (42))), (1, .int (x1)), (2, .int (x2)), (3, .int (x3)), (4, .int (x4)), (5, .int (x5)), (6, .int (x6)), (7, .int (x7)), (9, .int (x9))] [.int (s0), .int (s1), .int (s2), .ref (eA E (67))] M (PR (some (.int v9)) M9) := by
  unfold fX5_told_180 at H
  refine Z.iadd dX5_told_180 ?_
  refine Z.iastH dX5_told_181 a5_withs H (fun M1 H => ?_)
  refine Z.iinc (v := x9 + 1) (lv' := [(9, .int (x9 + 1)), (0, .ref (eA E (42))), (1, .int (x1)), (2, .int (x2)), (3, .int (x3)), (4, .int (x4)), (5, .int (x5)), (6, .int (x6)), (7, .int (x7))]) dX5_told_182 8 rfl rfl (by decide) rfl ?_
  refine Z.goto dX5_told_185 ?_
  refine Z.sub [1, 2, 3, 4, 5, 6, 7, 8, 0] rfl ?_
  exact hk143 (x1) (x2) (x3) (x4) (x5) (x6) (x7) (x9 + 1) M1  H
set_option maxRecDepth 100000 in
theorem tX5_told_179 {l : Launch} {E : Env5}   {k56 : Int32 → Int32 → Int32 → Int32 → Int32 → Int32 → Mem → Option (Int32 × Mem)} {k143 : Int32 → Int32 → Int32 → Int32 → Int32 → Int32 → Int32 → Int32 → Mem → Option (Int32 × Mem)} (x1 : Int32) (x2 : Int32) (x3 : Int32) (x4 : Int32) (x5 : Int32) (x6 : Int32) (x7 : Int32) (x9 : Int32) (s0 : Int32) (s1 : Int32) (M : Mem) {v9 : Int32} {M9 : Mem} (hk56 : ∀ (x1 : Int32) (x2 : Int32) (x3 : Int32) (x4 : Int32) (x5 : Int32) (x6 : Int32) (M : Mem), k56 x1 x2 x3 x4 x5 x6 M = some (v9, M9) → Z l E RX5 cX5_told 10 (some .int) 8 56 [(0, .ref (eA E (42))), (1, .int (x1)), (2, .int (x2)), (3, .int (x3)), (4, .int (x4)), (5, .int (x5)), (6, .int (x6))] [] M (PR (some (.int v9)) M9)) (hk143 : ∀ (x1 : Int32) (x2 : Int32) (x3 : Int32) (x4 : Int32) (x5 : Int32) (x6 : Int32) (x7 : Int32) (x9 : Int32) (M : Mem), k143 x1 x2 x3 x4 x5 x6 x7 x9 M = some (v9, M9) → Z l E RX5 cX5_told 10 (some .int) 8 143 [(0, .ref (eA E (42))), (1, .int (x1)), (2, .int (x2)), (3, .int (x3)), (4, .int (x4)), (5, .int (x5)), (6, .int (x6)), (7, .int (x7)), (9, .int (x9))] [] M (PR (some (.int v9)) M9)) (H : fX5_told_179 k56 k143 x1 x2 x3 x4 x5 x6 x7 x9 s0 s1 M = some (v9, M9)) : Z l E RX5 cX5_told 10 (some .int) 8 179 [(0, .ref (eA E (42))), (1, .int (x1)), (2, .int (x2)), (3, .int (x3)), (4, .int (x4)), (5, .int (x5)), (6, .int (x6)), (7, .int (x7)), (9, .int (x9))] [.int (s0), .int (s1), .ref (eA E (67))] M (PR (some (.int v9)) M9) := by
  unfold fX5_told_179 at H
  refine Z.iconst (v := 0) dX5_told_179 (by decide) ?_
  refine Z.sub [0, 1, 2, 3, 4, 5, 6, 7, 8] rfl ?_
  exact tX5_told_180  (x1) (x2) (x3) (x4) (x5) (x6) (x7) (x9) (0) (s0) (s1) M hk56 hk143 H
set_option maxRecDepth 100000 in
theorem tX5_told_143 {l : Launch} {E : Env5}   {k56 : Int32 → Int32 → Int32 → Int32 → Int32 → Int32 → Mem → Option (Int32 × Mem)} {k143 : Int32 → Int32 → Int32 → Int32 → Int32 → Int32 → Int32 → Int32 → Mem → Option (Int32 × Mem)} (x1 : Int32) (x2 : Int32) (x3 : Int32) (x4 : Int32) (x5 : Int32) (x6 : Int32) (x7 : Int32) (x9 : Int32) (M : Mem) {v9 : Int32} {M9 : Mem} (hk56 : ∀ (x1 : Int32) (x2 : Int32) (x3 : Int32) (x4 : Int32) (x5 : Int32) (x6 : Int32) (M : Mem), k56 x1 x2 x3 x4 x5 x6 M = some (v9, M9) → Z l E RX5 cX5_told 10 (some .int) 8 56 [(0, .ref (eA E (42))), (1, .int (x1)), (2, .int (x2)), (3, .int (x3)), (4, .int (x4)), (5, .int (x5)), (6, .int (x6))] [] M (PR (some (.int v9)) M9)) (hk143 : ∀ (x1 : Int32) (x2 : Int32) (x3 : Int32) (x4 : Int32) (x5 : Int32) (x6 : Int32) (x7 : Int32) (x9 : Int32) (M : Mem), k143 x1 x2 x3 x4 x5 x6 x7 x9 M = some (v9, M9) → Z l E RX5 cX5_told 10 (some .int) 8 143 [(0, .ref (eA E (42))), (1, .int (x1)), (2, .int (x2)), (3, .int (x3)), (4, .int (x4)), (5, .int (x5)), (6, .int (x6)), (7, .int (x7)), (9, .int (x9))] [] M (PR (some (.int v9)) M9)) (H : fX5_told_143B k56 k143 x1 x2 x3 x4 x5 x6 x7 x9 M = some (v9, M9)) : Z l E RX5 cX5_told 10 (some .int) 8 143 [(0, .ref (eA E (42))), (1, .int (x1)), (2, .int (x2)), (3, .int (x3)), (4, .int (x4)), (5, .int (x5)), (6, .int (x6)), (7, .int (x7)), (9, .int (x9))] [] M (PR (some (.int v9)) M9) := by
  unfold fX5_told_143B at H
  refine Z.iload dX5_told_143 8 rfl ?_
  refine Z.bipush (v := 8) dX5_told_145 (by decide) ?_
  refine Z.icmp_geH dX5_told_147 H (fun br147 H => ?_) (fun br147 H => ?_)
  · refine Z.sub [0, 1, 2, 3, 4, 5, 6] rfl ?_
    exact tX5_told_188  (x1) (x2) (x3) (x4) (x5) (x6) M hk56 H
  · refine Z.aload_n dX5_told_150 0 rfl ?_
    refine Z.get dX5_told_151 inX5 (hc := rfl) (by decide) c5 37 (by decide) kw716 rfl rfl ?_
    refine Z.iload dX5_told_154 8 rfl ?_
    refine Z.dup2 dX5_told_156 rfl rfl ?_
    refine Z.ialdH dX5_told_157 a5_withs H (fun v1 H => ?_)
    refine Z.iload dX5_told_158 8 rfl ?_
    refine Z.iload_n dX5_told_160 1 rfl ?_
    refine Z.icmp_eqH dX5_told_161 H (fun br161 H => ?_) (fun br161 H => ?_)
    · refine Z.sub [0, 1, 2, 3, 4, 5, 6, 7, 8] rfl ?_
      exact tX5_told_179  (x1) (x2) (x3) (x4) (x5) (x6) (x7) (x9) (v1) (x9) M hk56 hk143 H
    · refine Z.iload dX5_told_164 7 rfl ?_
      refine Z.iload dX5_told_166 8 rfl ?_
      refine Z.ishr dX5_told_168 ?_
      refine Z.iconst (v := 1) dX5_told_169 (by decide) ?_
      refine Z.iand dX5_told_170 ?_
      refine Z.iconst (v := 1) dX5_told_171 (by decide) ?_
      refine Z.icmp_neH dX5_told_172 H (fun br172 H => ?_) (fun br172 H => ?_)
      · refine Z.sub [0, 1, 2, 3, 4, 5, 6, 7, 8] rfl ?_
        exact tX5_told_179  (x1) (x2) (x3) (x4) (x5) (x6) (x7) (x9) (v1) (x9) M hk56 hk143 H
      · refine Z.iconst (v := 1) dX5_told_175 (by decide) ?_
        refine Z.goto dX5_told_176 ?_
        refine Z.sub [0, 1, 2, 3, 4, 5, 6, 7, 8] rfl ?_
        exact tX5_told_180  (x1) (x2) (x3) (x4) (x5) (x6) (x7) (x9) (1) (v1) (x9) M hk56 hk143 H
theorem tX5_told_143L {l : Launch} {E : Env5}   {k56 : Int32 → Int32 → Int32 → Int32 → Int32 → Int32 → Mem → Option (Int32 × Mem)}  {v9 : Int32} {M9 : Mem} (hk56 : ∀ (x1 : Int32) (x2 : Int32) (x3 : Int32) (x4 : Int32) (x5 : Int32) (x6 : Int32) (M : Mem), k56 x1 x2 x3 x4 x5 x6 M = some (v9, M9) → Z l E RX5 cX5_told 10 (some .int) 8 56 [(0, .ref (eA E (42))), (1, .int (x1)), (2, .int (x2)), (3, .int (x3)), (4, .int (x4)), (5, .int (x5)), (6, .int (x6))] [] M (PR (some (.int v9)) M9)) : ∀ (n : Nat) (x1 : Int32) (x2 : Int32) (x3 : Int32) (x4 : Int32) (x5 : Int32) (x6 : Int32) (x7 : Int32) (x9 : Int32) (M : Mem), fX5_told_143L k56  n x1 x2 x3 x4 x5 x6 x7 x9 M = some (v9, M9) → Z l E RX5 cX5_told 10 (some .int) 8 143 [(0, .ref (eA E (42))), (1, .int (x1)), (2, .int (x2)), (3, .int (x3)), (4, .int (x4)), (5, .int (x5)), (6, .int (x6)), (7, .int (x7)), (9, .int (x9))] [] M (PR (some (.int v9)) M9) := by
  intro n
  induction n with
  | zero => intro x1 x2 x3 x4 x5 x6 x7 x9 M H; exact absurd H (by simp [fX5_told_143L])
  | succ n ih => intro x1 x2 x3 x4 x5 x6 x7 x9 M H; exact tX5_told_143  x1 x2 x3 x4 x5 x6 x7 x9 M hk56 (fun x1 x2 x3 x4 x5 x6 x7 x9 M H => ih x1 x2 x3 x4 x5 x6 x7 x9 M H) H
set_option maxRecDepth 100000 in
theorem tX5_told_138 {l : Launch} {E : Env5}   {k56 : Int32 → Int32 → Int32 → Int32 → Int32 → Int32 → Mem → Option (Int32 × Mem)} (x1 : Int32) (x2 : Int32) (x3 : Int32) (x4 : Int32) (x6 : Int32) (x7 : Int32) (s0 : Int32) (M : Mem) {v9 : Int32} {M9 : Mem} (hk56 : ∀ (x1 : Int32) (x2 : Int32) (x3 : Int32) (x4 : Int32) (x5 : Int32) (x6 : Int32) (M : Mem), k56 x1 x2 x3 x4 x5 x6 M = some (v9, M9) → Z l E RX5 cX5_told 10 (some .int) 8 56 [(0, .ref (eA E (42))), (1, .int (x1)), (2, .int (x2)), (3, .int (x3)), (4, .int (x4)), (5, .int (x5)), (6, .int (x6))] [] M (PR (some (.int v9)) M9)) (H : fX5_told_138 k56 x1 x2 x3 x4 x6 x7 s0 M = some (v9, M9)) : Z l E RX5 cX5_told 10 (some .int) 8 138 [(0, .ref (eA E (42))), (1, .int (x1)), (2, .int (x2)), (3, .int (x3)), (4, .int (x4)), (6, .int (x6)), (7, .int (x7))] [.int (s0)] M (PR (some (.int v9)) M9) := by
  unfold fX5_told_138 at H
  refine Z.istore (lv' := [(5, .int (s0)), (0, .ref (eA E (42))), (1, .int (x1)), (2, .int (x2)), (3, .int (x3)), (4, .int (x4)), (6, .int (x6)), (7, .int (x7))]) dX5_told_138 (by decide) rfl ?_
  refine Z.iconst (v := 0) dX5_told_140 (by decide) ?_
  refine Z.istore (lv' := [(9, .int (0)), (5, .int (s0)), (0, .ref (eA E (42))), (1, .int (x1)), (2, .int (x2)), (3, .int (x3)), (4, .int (x4)), (6, .int (x6)), (7, .int (x7))]) dX5_told_141 (by decide) rfl ?_
  refine Z.sub [2, 3, 4, 5, 6, 1, 7, 8, 0] rfl ?_
  exact tX5_told_143L  hk56 FU (x1) (x2) (x3) (x4) (s0) (x6) (x7) (0) M H
set_option maxRecDepth 100000 in
theorem tX5_told_122 {l : Launch} {E : Env5}   {k56 : Int32 → Int32 → Int32 → Int32 → Int32 → Int32 → Mem → Option (Int32 × Mem)} (x1 : Int32) (x2 : Int32) (x3 : Int32) (x5 : Int32) (x6 : Int32) (x7 : Int32) (x8 : Int32) (s0 : Int32) (M : Mem) {v9 : Int32} {M9 : Mem} (hk56 : ∀ (x1 : Int32) (x2 : Int32) (x3 : Int32) (x4 : Int32) (x5 : Int32) (x6 : Int32) (M : Mem), k56 x1 x2 x3 x4 x5 x6 M = some (v9, M9) → Z l E RX5 cX5_told 10 (some .int) 8 56 [(0, .ref (eA E (42))), (1, .int (x1)), (2, .int (x2)), (3, .int (x3)), (4, .int (x4)), (5, .int (x5)), (6, .int (x6))] [] M (PR (some (.int v9)) M9)) (H : fX5_told_122 k56 x1 x2 x3 x5 x6 x7 x8 s0 M = some (v9, M9)) : Z l E RX5 cX5_told 10 (some .int) 8 122 [(0, .ref (eA E (42))), (1, .int (x1)), (2, .int (x2)), (3, .int (x3)), (5, .int (x5)), (6, .int (x6)), (7, .int (x7)), (8, .int (x8))] [.int (s0)] M (PR (some (.int v9)) M9) := by
  unfold fX5_told_122 at H
  refine Z.istore (lv' := [(4, .int (s0)), (0, .ref (eA E (42))), (1, .int (x1)), (2, .int (x2)), (3, .int (x3)), (5, .int (x5)), (6, .int (x6)), (7, .int (x7)), (8, .int (x8))]) dX5_told_122 (by decide) rfl ?_
  refine Z.iload dX5_told_124 8 rfl ?_
  refine Z.iload dX5_told_126 5 rfl ?_
  refine Z.icmp_leH dX5_told_128 H (fun br128 H => ?_) (fun br128 H => ?_)
  · refine Z.iload dX5_told_136 5 rfl ?_
    refine Z.sub [1, 2, 3, 4, 0, 6, 7] rfl ?_
    exact tX5_told_138  (x1) (x2) (x3) (s0) (x6) (x7) (x5) M hk56 H
  · refine Z.iload dX5_told_131 8 rfl ?_
    refine Z.goto dX5_told_133 ?_
    refine Z.sub [1, 2, 3, 4, 0, 6, 7] rfl ?_
    exact tX5_told_138  (x1) (x2) (x3) (s0) (x6) (x7) (x8) M hk56 H
set_option maxRecDepth 100000 in
theorem tX5_told_115 {l : Launch} {E : Env5}   {k56 : Int32 → Int32 → Int32 → Int32 → Int32 → Int32 → Mem → Option (Int32 × Mem)} (x1 : Int32) (x2 : Int32) (x3 : Int32) (x5 : Int32) (x6 : Int32) (x7 : Int32) (x8 : Int32) (M : Mem) {v9 : Int32} {M9 : Mem} (hk56 : ∀ (x1 : Int32) (x2 : Int32) (x3 : Int32) (x4 : Int32) (x5 : Int32) (x6 : Int32) (M : Mem), k56 x1 x2 x3 x4 x5 x6 M = some (v9, M9) → Z l E RX5 cX5_told 10 (some .int) 8 56 [(0, .ref (eA E (42))), (1, .int (x1)), (2, .int (x2)), (3, .int (x3)), (4, .int (x4)), (5, .int (x5)), (6, .int (x6))] [] M (PR (some (.int v9)) M9)) (H : fX5_told_115 k56 x1 x2 x3 x5 x6 x7 x8 M = some (v9, M9)) : Z l E RX5 cX5_told 10 (some .int) 8 115 [(0, .ref (eA E (42))), (1, .int (x1)), (2, .int (x2)), (3, .int (x3)), (5, .int (x5)), (6, .int (x6)), (7, .int (x7)), (8, .int (x8))] [] M (PR (some (.int v9)) M9) := by
  unfold fX5_told_115 at H
  refine Z.iload dX5_told_115 7 rfl ?_
  refine Z.goto dX5_told_117 ?_
  refine Z.sub [0, 1, 2, 3, 4, 5, 6, 7] rfl ?_
  exact tX5_told_122  (x1) (x2) (x3) (x5) (x6) (x7) (x8) (x8) M hk56 H
set_option maxRecDepth 100000 in
theorem tX5_told_56 {l : Launch} {E : Env5}   {k56 : Int32 → Int32 → Int32 → Int32 → Int32 → Int32 → Mem → Option (Int32 × Mem)} (x1 : Int32) (x2 : Int32) (x3 : Int32) (x4 : Int32) (x5 : Int32) (x6 : Int32) (M : Mem) {v9 : Int32} {M9 : Mem} (hk56 : ∀ (x1 : Int32) (x2 : Int32) (x3 : Int32) (x4 : Int32) (x5 : Int32) (x6 : Int32) (M : Mem), k56 x1 x2 x3 x4 x5 x6 M = some (v9, M9) → Z l E RX5 cX5_told 10 (some .int) 8 56 [(0, .ref (eA E (42))), (1, .int (x1)), (2, .int (x2)), (3, .int (x3)), (4, .int (x4)), (5, .int (x5)), (6, .int (x6))] [] M (PR (some (.int v9)) M9)) (H : fX5_told_56B k56 x1 x2 x3 x4 x5 x6 M = some (v9, M9)) : Z l E RX5 cX5_told 10 (some .int) 8 56 [(0, .ref (eA E (42))), (1, .int (x1)), (2, .int (x2)), (3, .int (x3)), (4, .int (x4)), (5, .int (x5)), (6, .int (x6))] [] M (PR (some (.int v9)) M9) := by
  unfold fX5_told_56B at H
  refine Z.iload dX5_told_56 6 rfl ?_
  refine Z.aload_n dX5_told_58 0 rfl ?_
  refine Z.get dX5_told_59 inX5 (hc := rfl) (by decide) c5 8 (by decide) kw687 rfl rfl ?_
  refine Z.iconst (v := 0) dX5_told_62 (by decide) ?_
  refine Z.ialdH dX5_told_63 a5_pictures H (fun v1 H => ?_)
  refine Z.icmp_geH dX5_told_64 H (fun br64 H => ?_) (fun br64 H => ?_)
  · refine Z.bipush (v := (-9)) dX5_told_194 (by decide) ?_
    refine Z.istore (lv' := [(6, .int ((-9))), (0, .ref (eA E (42))), (1, .int (x1)), (2, .int (x2)), (3, .int (x3)), (4, .int (x4)), (5, .int (x5))]) dX5_told_196 (by decide) rfl ?_
    refine Z.iconst (v := 0) dX5_told_198 (by decide) ?_
    refine Z.istore (lv' := [(7, .int (0)), (6, .int ((-9))), (0, .ref (eA E (42))), (1, .int (x1)), (2, .int (x2)), (3, .int (x3)), (4, .int (x4)), (5, .int (x5))]) dX5_told_199 (by decide) rfl ?_
    refine Z.sub [2, 4, 5, 6, 7, 1, 0] rfl ?_
    exact tX5_told_201L   FU (x2) (x3) (x4) (x5) ((-9)) (0) M H
  · refine Z.aload_n dX5_told_67 0 rfl ?_
    refine Z.iload dX5_told_68 6 rfl ?_
    refine bindC H (fun v2 hv2 H => ?_)
    refine Z.callV (As := [.int (x6)]) (rest := []) (st' := [.int (v2.1)]) dX5_told_70 (kX5_showsOf  (x6) M hv2) kw888 kw890 ks43 kw7 kw891 hdX5_showsOf (by decide) c5 (hc := rfl) (by decide) (by decide) rfl rfl (Nat.le_of_ble_eq_true rfl) rfl ?_
    refine Z.istore (lv' := [(7, .int (v2.1)), (0, .ref (eA E (42))), (1, .int (x1)), (2, .int (x2)), (3, .int (x3)), (4, .int (x4)), (5, .int (x5)), (6, .int (x6))]) dX5_told_73 (by decide) rfl ?_
    refine Z.aload_n dX5_told_75 1 rfl ?_
    refine Z.get dX5_told_76 inX5 (hc := rfl) (by decide) c5 9 (by decide) kw688 rfl rfl ?_
    refine Z.iconst (v := 5) dX5_told_79 (by decide) ?_
    refine Z.iload dX5_told_80 7 rfl ?_
    refine Z.imul dX5_told_82 ?_
    refine Z.iconst (v := 4) dX5_told_83 (by decide) ?_
    refine Z.iadd dX5_told_84 ?_
    refine Z.ialdH dX5_told_85 a5_picture H (fun v3 H => ?_)
    refine Z.istore (lv' := [(8, .int (v3)), (7, .int (v2.1)), (0, .ref (eA E (42))), (1, .int (x1)), (2, .int (x2)), (3, .int (x3)), (4, .int (x4)), (5, .int (x5)), (6, .int (x6))]) dX5_told_86 (by decide) rfl ?_
    refine Z.iload dX5_told_88 1 rfl ?_
    refine Z.iload_n dX5_told_90 3 rfl ?_
    refine Z.ishr dX5_told_91 ?_
    refine Z.iconst (v := 1) dX5_told_92 (by decide) ?_
    refine Z.iand dX5_told_93 ?_
    refine Z.iconst (v := 1) dX5_told_94 (by decide) ?_
    refine Z.icmp_neH dX5_told_95 H (fun br95 H => ?_) (fun br95 H => ?_)
    · refine Z.sub [2, 3, 4, 5, 6, 7, 8] rfl ?_
      exact tX5_told_188  (x1) (x2) (x3) (x4) (x5) (x6) v2.2 hk56 H
    · refine Z.iinc (v := x3 + 1) (lv' := [(3, .int (x3 + 1)), (8, .int (v3)), (7, .int (v2.1)), (0, .ref (eA E (42))), (1, .int (x1)), (2, .int (x2)), (4, .int (x4)), (5, .int (x5)), (6, .int (x6))]) dX5_told_98 5 rfl rfl (by decide) rfl ?_
      refine Z.iload dX5_told_101 6 rfl ?_
      refine Z.bipush (v := (-9)) dX5_told_103 (by decide) ?_
      refine Z.icmp_eqH dX5_told_105 H (fun br105 H => ?_) (fun br105 H => ?_)
      · refine Z.sub [3, 4, 5, 0, 7, 8, 2, 1] rfl ?_
        exact tX5_told_115  (x1) (x2) (x3 + 1) (x5) (x6) (v2.1) (v3) v2.2 hk56 H
      · refine Z.iload dX5_told_108 1 rfl ?_
        refine Z.iload dX5_told_110 6 rfl ?_
        refine Z.icmp_geH dX5_told_112 H (fun br112 H => ?_) (fun br112 H => ?_)
        · refine Z.iload dX5_told_120 6 rfl ?_
          refine Z.sub [3, 4, 5, 0, 7, 8, 2, 1] rfl ?_
          exact tX5_told_122  (x1) (x2) (x3 + 1) (x5) (x6) (v2.1) (v3) (x4) v2.2 hk56 H
        · refine Z.sub [3, 4, 5, 0, 7, 8, 2, 1] rfl ?_
          exact tX5_told_115  (x1) (x2) (x3 + 1) (x5) (x6) (v2.1) (v3) v2.2 hk56 H
theorem tX5_told_56L {l : Launch} {E : Env5}     {v9 : Int32} {M9 : Mem}  : ∀ (n : Nat) (x1 : Int32) (x2 : Int32) (x3 : Int32) (x4 : Int32) (x5 : Int32) (x6 : Int32) (M : Mem), fX5_told_56L   n x1 x2 x3 x4 x5 x6 M = some (v9, M9) → Z l E RX5 cX5_told 10 (some .int) 8 56 [(0, .ref (eA E (42))), (1, .int (x1)), (2, .int (x2)), (3, .int (x3)), (4, .int (x4)), (5, .int (x5)), (6, .int (x6))] [] M (PR (some (.int v9)) M9) := by
  intro n
  induction n with
  | zero => intro x1 x2 x3 x4 x5 x6 M H; exact absurd H (by simp [fX5_told_56L])
  | succ n ih => intro x1 x2 x3 x4 x5 x6 M H; exact tX5_told_56  x1 x2 x3 x4 x5 x6 M  (fun x1 x2 x3 x4 x5 x6 M H => ih x1 x2 x3 x4 x5 x6 M H) H
set_option maxRecDepth 100000 in
theorem tX5_told_32 {l : Launch} {E : Env5}   {k32 : Int32 → Int32 → Int32 → Int32 → Int32 → Int32 → Mem → Option (Int32 × Mem)} (x1 : Int32) (x2 : Int32) (x3 : Int32) (x4 : Int32) (x5 : Int32) (x6 : Int32) (M : Mem) {v9 : Int32} {M9 : Mem} (hk32 : ∀ (x1 : Int32) (x2 : Int32) (x3 : Int32) (x4 : Int32) (x5 : Int32) (x6 : Int32) (M : Mem), k32 x1 x2 x3 x4 x5 x6 M = some (v9, M9) → Z l E RX5 cX5_told 10 (some .int) 8 32 [(0, .ref (eA E (42))), (1, .int (x1)), (2, .int (x2)), (3, .int (x3)), (4, .int (x4)), (5, .int (x5)), (6, .int (x6))] [] M (PR (some (.int v9)) M9)) (H : fX5_told_32B k32 x1 x2 x3 x4 x5 x6 M = some (v9, M9)) : Z l E RX5 cX5_told 10 (some .int) 8 32 [(0, .ref (eA E (42))), (1, .int (x1)), (2, .int (x2)), (3, .int (x3)), (4, .int (x4)), (5, .int (x5)), (6, .int (x6))] [] M (PR (some (.int v9)) M9) := by
  unfold fX5_told_32B at H
  refine Z.iload dX5_told_32 6 rfl ?_
  refine Z.bipush (v := 8) dX5_told_34 (by decide) ?_
  refine Z.icmp_geH dX5_told_36 H (fun br36 H => ?_) (fun br36 H => ?_)
  · refine Z.iconst (v := 0) dX5_told_53 (by decide) ?_
    refine Z.istore (lv' := [(6, .int (0)), (0, .ref (eA E (42))), (1, .int (x1)), (2, .int (x2)), (3, .int (x3)), (4, .int (x4)), (5, .int (x5))]) dX5_told_54 (by decide) rfl ?_
    refine Z.sub [1, 2, 3, 4, 5, 6, 0] rfl ?_
    exact tX5_told_56L   FU (x1) (x2) (x3) (x4) (x5) (0) M H
  · refine Z.aload_n dX5_told_39 0 rfl ?_
    refine Z.get dX5_told_40 inX5 (hc := rfl) (by decide) c5 37 (by decide) kw716 rfl rfl ?_
    refine Z.iload dX5_told_43 6 rfl ?_
    refine Z.iconst (v := 0) dX5_told_45 (by decide) ?_
    refine Z.iastH dX5_told_46 a5_withs H (fun M1 H => ?_)
    refine Z.iinc (v := x6 + 1) (lv' := [(6, .int (x6 + 1)), (0, .ref (eA E (42))), (1, .int (x1)), (2, .int (x2)), (3, .int (x3)), (4, .int (x4)), (5, .int (x5))]) dX5_told_47 6 rfl rfl (by decide) rfl ?_
    refine Z.goto dX5_told_50 ?_
    refine Z.sub [1, 2, 3, 4, 5, 6, 0] rfl ?_
    exact hk32 (x1) (x2) (x3) (x4) (x5) (x6 + 1) M1  H
theorem tX5_told_32L {l : Launch} {E : Env5}     {v9 : Int32} {M9 : Mem}  : ∀ (n : Nat) (x1 : Int32) (x2 : Int32) (x3 : Int32) (x4 : Int32) (x5 : Int32) (x6 : Int32) (M : Mem), fX5_told_32L   n x1 x2 x3 x4 x5 x6 M = some (v9, M9) → Z l E RX5 cX5_told 10 (some .int) 8 32 [(0, .ref (eA E (42))), (1, .int (x1)), (2, .int (x2)), (3, .int (x3)), (4, .int (x4)), (5, .int (x5)), (6, .int (x6))] [] M (PR (some (.int v9)) M9) := by
  intro n
  induction n with
  | zero => intro x1 x2 x3 x4 x5 x6 M H; exact absurd H (by simp [fX5_told_32L])
  | succ n ih => intro x1 x2 x3 x4 x5 x6 M H; exact tX5_told_32  x1 x2 x3 x4 x5 x6 M  (fun x1 x2 x3 x4 x5 x6 M H => ih x1 x2 x3 x4 x5 x6 M H) H
set_option maxRecDepth 100000 in
theorem tX5_told_0 {l : Launch} {E : Env5}    (x1 : Int32) (x2 : Int32) (M : Mem) {v9 : Int32} {M9 : Mem}  (H : fX5_told  x1 x2 M = some (v9, M9)) : Z l E RX5 cX5_told 10 (some .int) 8 0 [(0, .ref (eA E (42))), (1, .int (x1)), (2, .int (x2))] [] M (PR (some (.int v9)) M9) := by
  unfold fX5_told at H
  refine Z.aload_n dX5_told_0 0 rfl ?_
  refine Z.iload_n dX5_told_1 1 rfl ?_
  refine bindC H (fun v1 hv1 H => ?_)
  refine Z.callV (As := [.int (x1)]) (rest := []) (st' := [.int (v1)]) dX5_told_2 (kX5_isPerson  (x1) M hv1) kw850 kw852 ks39 kw7 kw853 hdX5_isPerson (by decide) c5 (hc := rfl) (by decide) (by decide) rfl rfl (Nat.le_of_ble_eq_true rfl) rfl ?_
  refine Z.if_eqH dX5_told_5 H (fun br5 H => ?_) (fun br5 H => ?_)
  · refine Z.iconst (v := (-1)) dX5_told_17 (by decide) ?_
    exact Z.iret rfl dX5_told_18 (retW H)
  · refine Z.iload_n dX5_told_8 2 rfl ?_
    refine Z.iconst (v := 0) dX5_told_9 (by decide) ?_
    refine Z.iconst (v := 3) dX5_told_10 (by decide) ?_
    refine bindC H (fun v2 hv2 H => ?_)
    refine Z.callS (As := [.int (x2), .int (0), .int (3)]) (rest := []) (st' := [.int (v2)]) dX5_told_11 (kX5_in  (x2) (0) (3) M hv2) kw798 kw799 kw7 kw800 hdX5_in (by decide) (by decide) rfl rfl (Nat.le_of_ble_eq_true rfl) rfl ?_
    refine Z.if_neH dX5_told_14 H (fun br14 H => ?_) (fun br14 H => ?_)
    · refine Z.iconst (v := 0) dX5_told_19 (by decide) ?_
      refine Z.istore_n (lv' := [(3, .int (0)), (0, .ref (eA E (42))), (1, .int (x1)), (2, .int (x2))]) dX5_told_20 (by decide) rfl ?_
      refine Z.bipush (v := (-9)) dX5_told_21 (by decide) ?_
      refine Z.istore (lv' := [(4, .int ((-9))), (3, .int (0)), (0, .ref (eA E (42))), (1, .int (x1)), (2, .int (x2))]) dX5_told_23 (by decide) rfl ?_
      refine Z.bipush (v := (-9)) dX5_told_25 (by decide) ?_
      refine Z.istore (lv' := [(5, .int ((-9))), (4, .int ((-9))), (3, .int (0)), (0, .ref (eA E (42))), (1, .int (x1)), (2, .int (x2))]) dX5_told_27 (by decide) rfl ?_
      refine Z.iconst (v := 0) dX5_told_29 (by decide) ?_
      refine Z.istore (lv' := [(6, .int (0)), (5, .int ((-9))), (4, .int ((-9))), (3, .int (0)), (0, .ref (eA E (42))), (1, .int (x1)), (2, .int (x2))]) dX5_told_30 (by decide) rfl ?_
      refine Z.sub [4, 5, 6, 3, 2, 1, 0] rfl ?_
      exact tX5_told_32L   FU (x1) (x2) (0) ((-9)) ((-9)) (0) M H
    · refine Z.iconst (v := (-1)) dX5_told_17 (by decide) ?_
      exact Z.iret rfl dX5_told_18 (retW H)
theorem kX5_told {l : Launch} {E : Env5}   (x1 : Int32) (x2 : Int32) (M : Mem) {v9 : Int32} {M9 : Mem} (H : fX5_told x1 x2 M = some (v9, M9)) : Cn l E yX5_told cX5_told 10 (some .int) 8 [.ref (eA E (42)), .int (x1), .int (x2)] M (PR (some (.int v9)) M9) := Cn.ofZ rfl (Nat.le_of_ble_eq_true rfl) rfl (tX5_told_0  x1 x2 M H)
theorem hdX5_told : yX5_told.cls ≠ "java/lang/invoke/MethodHandle" ∧ yX5_told.cls ≠ "java/lang/invoke/VarHandle" ∧ (parseMethodDescriptor yX5_told.desc).map (fun d => d.parameters.length) = some 2 := by decide +kernel

set_option maxRecDepth 100000 in
theorem tX5_manyTo_82 {l : Launch} {E : Env5}   {k5 : Int32 → Int32 → Int32 → Int32 → Mem → Option (Int32 × Mem)} (x1 : Int32) (x2 : Int32) (x4 : Int32) (s0 : Int32) (s1 : Int32) (M : Mem) {v9 : Int32} {M9 : Mem} (hk5 : ∀ (x1 : Int32) (x2 : Int32) (x3 : Int32) (x4 : Int32) (M : Mem), k5 x1 x2 x3 x4 M = some (v9, M9) → Z l E RX5 cX5_manyTo 6 (some .int) 6 5 [(0, .ref (eA E (42))), (1, .int (x1)), (2, .int (x2)), (3, .int (x3)), (4, .int (x4))] [] M (PR (some (.int v9)) M9)) (H : fX5_manyTo_82 k5 x1 x2 x4 s0 s1 M = some (v9, M9)) : Z l E RX5 cX5_manyTo 6 (some .int) 6 82 [(0, .ref (eA E (42))), (1, .int (x1)), (2, .int (x2)), (4, .int (x4))] [.int (s0), .int (s1)] M (PR (some (.int v9)) M9) := by
  unfold fX5_manyTo_82 at H
  refine Z.iadd dX5_manyTo_82 ?_
  refine Z.istore_n (lv' := [(3, .int (s1 + s0)), (0, .ref (eA E (42))), (1, .int (x1)), (2, .int (x2)), (4, .int (x4))]) dX5_manyTo_83 (by decide) rfl ?_
  refine Z.iinc (v := x4 + 1) (lv' := [(4, .int (x4 + 1)), (3, .int (s1 + s0)), (0, .ref (eA E (42))), (1, .int (x1)), (2, .int (x2))]) dX5_manyTo_84 4 rfl rfl (by decide) rfl ?_
  refine Z.goto dX5_manyTo_87 ?_
  refine Z.sub [2, 3, 4, 1, 0] rfl ?_
  exact hk5 (x1) (x2) (s1 + s0) (x4 + 1) M  H
set_option maxRecDepth 100000 in
theorem tX5_manyTo_81 {l : Launch} {E : Env5}   {k5 : Int32 → Int32 → Int32 → Int32 → Mem → Option (Int32 × Mem)} (x1 : Int32) (x2 : Int32) (x4 : Int32) (s0 : Int32) (M : Mem) {v9 : Int32} {M9 : Mem} (hk5 : ∀ (x1 : Int32) (x2 : Int32) (x3 : Int32) (x4 : Int32) (M : Mem), k5 x1 x2 x3 x4 M = some (v9, M9) → Z l E RX5 cX5_manyTo 6 (some .int) 6 5 [(0, .ref (eA E (42))), (1, .int (x1)), (2, .int (x2)), (3, .int (x3)), (4, .int (x4))] [] M (PR (some (.int v9)) M9)) (H : fX5_manyTo_81 k5 x1 x2 x4 s0 M = some (v9, M9)) : Z l E RX5 cX5_manyTo 6 (some .int) 6 81 [(0, .ref (eA E (42))), (1, .int (x1)), (2, .int (x2)), (4, .int (x4))] [.int (s0)] M (PR (some (.int v9)) M9) := by
  unfold fX5_manyTo_81 at H
  refine Z.iconst (v := 0) dX5_manyTo_81 (by decide) ?_
  refine Z.sub [0, 1, 2, 3] rfl ?_
  exact tX5_manyTo_82  (x1) (x2) (x4) (0) (s0) M hk5 H
set_option maxRecDepth 100000 in
theorem tX5_manyTo_5 {l : Launch} {E : Env5}   {k5 : Int32 → Int32 → Int32 → Int32 → Mem → Option (Int32 × Mem)} (x1 : Int32) (x2 : Int32) (x3 : Int32) (x4 : Int32) (M : Mem) {v9 : Int32} {M9 : Mem} (hk5 : ∀ (x1 : Int32) (x2 : Int32) (x3 : Int32) (x4 : Int32) (M : Mem), k5 x1 x2 x3 x4 M = some (v9, M9) → Z l E RX5 cX5_manyTo 6 (some .int) 6 5 [(0, .ref (eA E (42))), (1, .int (x1)), (2, .int (x2)), (3, .int (x3)), (4, .int (x4))] [] M (PR (some (.int v9)) M9)) (H : fX5_manyTo_5B k5 x1 x2 x3 x4 M = some (v9, M9)) : Z l E RX5 cX5_manyTo 6 (some .int) 6 5 [(0, .ref (eA E (42))), (1, .int (x1)), (2, .int (x2)), (3, .int (x3)), (4, .int (x4))] [] M (PR (some (.int v9)) M9) := by
  unfold fX5_manyTo_5B at H
  refine Z.iload dX5_manyTo_5 4 rfl ?_
  refine Z.aload_n dX5_manyTo_7 0 rfl ?_
  refine Z.get dX5_manyTo_8 inX5 (hc := rfl) (by decide) c5 8 (by decide) kw687 rfl rfl ?_
  refine Z.iconst (v := 0) dX5_manyTo_11 (by decide) ?_
  refine Z.ialdH dX5_manyTo_12 a5_pictures H (fun v1 H => ?_)
  refine Z.icmp_geH dX5_manyTo_13 H (fun br13 H => ?_) (fun br13 H => ?_)
  · refine Z.iload_n dX5_manyTo_90 3 rfl ?_
    exact Z.iret rfl dX5_manyTo_91 (retW H)
  · refine Z.aload_n dX5_manyTo_16 0 rfl ?_
    refine Z.iload dX5_manyTo_17 4 rfl ?_
    refine Z.aload_n dX5_manyTo_19 0 rfl ?_
    refine Z.get dX5_manyTo_20 inX5 (hc := rfl) (by decide) c5 9 (by decide) kw688 rfl rfl ?_
    refine Z.iconst (v := 5) dX5_manyTo_23 (by decide) ?_
    refine Z.iload dX5_manyTo_24 4 rfl ?_
    refine Z.imul dX5_manyTo_26 ?_
    refine Z.iconst (v := 4) dX5_manyTo_27 (by decide) ?_
    refine Z.iadd dX5_manyTo_28 ?_
    refine Z.ialdH dX5_manyTo_29 a5_picture H (fun v2 H => ?_)
    refine bindC H (fun v3 hv3 H => ?_)
    refine Z.callV (As := [.int (x4), .int (v2)]) (rest := []) (st' := []) dX5_manyTo_30 (kX5_lookAs  (x4) (v2) M hv3) kw892 kw894 ks44 kw7 kw895 hdX5_lookAs (by decide) c5 (hc := rfl) (by decide) (by decide) rfl rfl (Nat.le_of_ble_eq_true rfl) rfl ?_
    refine Z.aload_n dX5_manyTo_33 0 rfl ?_
    refine Z.iload_n dX5_manyTo_34 1 rfl ?_
    refine Z.aload_n dX5_manyTo_35 0 rfl ?_
    refine Z.get dX5_manyTo_36 inX5 (hc := rfl) (by decide) c5 9 (by decide) kw688 rfl rfl ?_
    refine Z.iconst (v := 5) dX5_manyTo_39 (by decide) ?_
    refine Z.iload dX5_manyTo_40 4 rfl ?_
    refine Z.imul dX5_manyTo_42 ?_
    refine Z.iconst (v := 3) dX5_manyTo_43 (by decide) ?_
    refine Z.iadd dX5_manyTo_44 ?_
    refine Z.ialdH dX5_manyTo_45 a5_picture H (fun v4 H => ?_)
    refine bindC H (fun v5 hv5 H => ?_)
    refine Z.callV (As := [.int (x1), .int (v4)]) (rest := []) (st' := [.int (v5.1)]) dX5_manyTo_46 (kX5_aheadOf  (x1) (v4) v3 hv5) kw924 kw926 ks50 kw7 kw927 hdX5_aheadOf (by decide) c5 (hc := rfl) (by decide) (by decide) rfl rfl (Nat.le_of_ble_eq_true rfl) rfl ?_
    refine Z.istore (lv' := [(5, .int (v5.1)), (0, .ref (eA E (42))), (1, .int (x1)), (2, .int (x2)), (3, .int (x3)), (4, .int (x4))]) dX5_manyTo_49 (by decide) rfl ?_
    refine Z.iload_n dX5_manyTo_51 4 rfl ?_
    refine Z.iload dX5_manyTo_52 0 rfl ?_
    refine Z.if_leH dX5_manyTo_54 H (fun br54 H => ?_) (fun br54 H => ?_)
    · refine Z.sub [1, 2, 3, 5] rfl ?_
      exact tX5_manyTo_81  (x1) (x2) (x4) (x3) v5.2 hk5 H
    · refine Z.iload dX5_manyTo_57 0 rfl ?_
      refine Z.iload_n dX5_manyTo_59 3 rfl ?_
      refine Z.icmp_gtH dX5_manyTo_60 H (fun br60 H => ?_) (fun br60 H => ?_)
      · refine Z.sub [1, 2, 3, 5] rfl ?_
        exact tX5_manyTo_81  (x1) (x2) (x4) (x3) v5.2 hk5 H
      · refine Z.aload_n dX5_manyTo_63 1 rfl ?_
        refine Z.iload dX5_manyTo_64 0 rfl ?_
        refine Z.aload_n dX5_manyTo_66 1 rfl ?_
        refine Z.get dX5_manyTo_67 inX5 (hc := rfl) (by decide) c5 19 (by decide) kw698 rfl rfl ?_
        refine bindC H (fun v6 hv6 H => ?_)
        refine Z.callV (As := [.int (v5.1), .int (v5.2.1 42 19)]) (rest := [.int (x3)]) (st' := [.int (v6), .int (x3)]) dX5_manyTo_70 (kX5_hides  (v5.1) (v5.2.1 42 19) v5.2 hv6) kw912 kw914 ks49 kw7 kw915 hdX5_hides (by decide) c5 (hc := rfl) (by decide) (by decide) rfl rfl (Nat.le_of_ble_eq_true rfl) rfl ?_
        refine Z.iconst (v := 1) dX5_manyTo_73 (by decide) ?_
        refine Z.icmp_neH dX5_manyTo_74 H (fun br74 H => ?_) (fun br74 H => ?_)
        · refine Z.sub [1, 2, 3, 5] rfl ?_
          exact tX5_manyTo_81  (x1) (x2) (x4) (x3) v5.2 hk5 H
        · refine Z.iconst (v := 1) dX5_manyTo_77 (by decide) ?_
          refine Z.goto dX5_manyTo_78 ?_
          refine Z.sub [1, 2, 3, 5] rfl ?_
          exact tX5_manyTo_82  (x1) (x2) (x4) (1) (x3) v5.2 hk5 H
theorem tX5_manyTo_5L {l : Launch} {E : Env5}     {v9 : Int32} {M9 : Mem}  : ∀ (n : Nat) (x1 : Int32) (x2 : Int32) (x3 : Int32) (x4 : Int32) (M : Mem), fX5_manyTo_5L   n x1 x2 x3 x4 M = some (v9, M9) → Z l E RX5 cX5_manyTo 6 (some .int) 6 5 [(0, .ref (eA E (42))), (1, .int (x1)), (2, .int (x2)), (3, .int (x3)), (4, .int (x4))] [] M (PR (some (.int v9)) M9) := by
  intro n
  induction n with
  | zero => intro x1 x2 x3 x4 M H; exact absurd H (by simp [fX5_manyTo_5L])
  | succ n ih => intro x1 x2 x3 x4 M H; exact tX5_manyTo_5  x1 x2 x3 x4 M  (fun x1 x2 x3 x4 M H => ih x1 x2 x3 x4 M H) H
set_option maxRecDepth 100000 in
theorem tX5_manyTo_0 {l : Launch} {E : Env5}    (x1 : Int32) (x2 : Int32) (M : Mem) {v9 : Int32} {M9 : Mem}  (H : fX5_manyTo  x1 x2 M = some (v9, M9)) : Z l E RX5 cX5_manyTo 6 (some .int) 6 0 [(0, .ref (eA E (42))), (1, .int (x1)), (2, .int (x2))] [] M (PR (some (.int v9)) M9) := by
  unfold fX5_manyTo at H
  refine Z.iconst (v := 0) dX5_manyTo_0 (by decide) ?_
  refine Z.istore_n (lv' := [(3, .int (0)), (0, .ref (eA E (42))), (1, .int (x1)), (2, .int (x2))]) dX5_manyTo_1 (by decide) rfl ?_
  refine Z.iconst (v := 0) dX5_manyTo_2 (by decide) ?_
  refine Z.istore (lv' := [(4, .int (0)), (3, .int (0)), (0, .ref (eA E (42))), (1, .int (x1)), (2, .int (x2))]) dX5_manyTo_3 (by decide) rfl ?_
  refine Z.sub [2, 3, 4, 1, 0] rfl ?_
  exact tX5_manyTo_5L   FU (x1) (x2) (0) (0) M H
theorem kX5_manyTo {l : Launch} {E : Env5}   (x1 : Int32) (x2 : Int32) (M : Mem) {v9 : Int32} {M9 : Mem} (H : fX5_manyTo x1 x2 M = some (v9, M9)) : Cn l E yX5_manyTo cX5_manyTo 6 (some .int) 6 [.ref (eA E (42)), .int (x1), .int (x2)] M (PR (some (.int v9)) M9) := Cn.ofZ rfl (Nat.le_of_ble_eq_true rfl) rfl (tX5_manyTo_0  x1 x2 M H)
theorem hdX5_manyTo : yX5_manyTo.cls ≠ "java/lang/invoke/MethodHandle" ∧ yX5_manyTo.cls ≠ "java/lang/invoke/VarHandle" ∧ (parseMethodDescriptor yX5_manyTo.desc).map (fun d => d.parameters.length) = some 2 := by decide +kernel

set_option maxRecDepth 100000 in
theorem tX5_rule_89 {l : Launch} {E : Env5}   {k16 : Int32 → Int32 → Int32 → Mem → Option (Int32 × Mem)} (x1 : Int32) (x3 : Int32) (s0 : Int32) (M : Mem) {v9 : Int32} {M9 : Mem} (hk16 : ∀ (x1 : Int32) (x2 : Int32) (x3 : Int32) (M : Mem), k16 x1 x2 x3 M = some (v9, M9) → Z l E RX5 cX5_rule 6 (some .int) 7 16 [(0, .ref (eA E (42))), (1, .int (x1)), (2, .int (x2)), (3, .int (x3))] [] M (PR (some (.int v9)) M9)) (H : fX5_rule_89 k16 x1 x3 s0 M = some (v9, M9)) : Z l E RX5 cX5_rule 6 (some .int) 7 89 [(0, .ref (eA E (42))), (1, .int (x1)), (3, .int (x3))] [.int (s0)] M (PR (some (.int v9)) M9) := by
  unfold fX5_rule_89 at H
  refine Z.istore_n (lv' := [(2, .int (s0)), (0, .ref (eA E (42))), (1, .int (x1)), (3, .int (x3))]) dX5_rule_89 (by decide) rfl ?_
  refine Z.iinc (v := x3 + 1) (lv' := [(3, .int (x3 + 1)), (2, .int (s0)), (0, .ref (eA E (42))), (1, .int (x1))]) dX5_rule_90 3 rfl rfl (by decide) rfl ?_
  refine Z.goto dX5_rule_93 ?_
  refine Z.sub [2, 3, 1, 0] rfl ?_
  exact hk16 (x1) (s0) (x3 + 1) M  H
set_option maxRecDepth 100000 in
theorem tX5_rule_79 {l : Launch} {E : Env5}   {k16 : Int32 → Int32 → Int32 → Mem → Option (Int32 × Mem)} (x1 : Int32) (x2 : Int32) (x3 : Int32) (x4 : Int32) (M : Mem) {v9 : Int32} {M9 : Mem} (hk16 : ∀ (x1 : Int32) (x2 : Int32) (x3 : Int32) (M : Mem), k16 x1 x2 x3 M = some (v9, M9) → Z l E RX5 cX5_rule 6 (some .int) 7 16 [(0, .ref (eA E (42))), (1, .int (x1)), (2, .int (x2)), (3, .int (x3))] [] M (PR (some (.int v9)) M9)) (H : fX5_rule_79 k16 x1 x2 x3 x4 M = some (v9, M9)) : Z l E RX5 cX5_rule 6 (some .int) 7 79 [(0, .ref (eA E (42))), (1, .int (x1)), (2, .int (x2)), (3, .int (x3)), (4, .int (x4))] [] M (PR (some (.int v9)) M9) := by
  unfold fX5_rule_79 at H
  refine Z.iload dX5_rule_79 4 rfl ?_
  refine Z.if_eqH dX5_rule_81 H (fun br81 H => ?_) (fun br81 H => ?_)
  · refine Z.iload_n dX5_rule_88 2 rfl ?_
    refine Z.sub [0, 1, 3] rfl ?_
    exact tX5_rule_89  (x1) (x3) (x2) M hk16 H
  · refine Z.iload_n dX5_rule_84 3 rfl ?_
    refine Z.goto dX5_rule_85 ?_
    refine Z.sub [0, 1, 3] rfl ?_
    exact tX5_rule_89  (x1) (x3) (x3) M hk16 H
set_option maxRecDepth 100000 in
theorem tX5_rule_71 {l : Launch} {E : Env5}   {k16 : Int32 → Int32 → Int32 → Mem → Option (Int32 × Mem)} {k39 : Int32 → Int32 → Int32 → Int32 → Int32 → Mem → Option (Int32 × Mem)} (x1 : Int32) (x2 : Int32) (x3 : Int32) (x5 : Int32) (s0 : Int32) (M : Mem) {v9 : Int32} {M9 : Mem} (hk16 : ∀ (x1 : Int32) (x2 : Int32) (x3 : Int32) (M : Mem), k16 x1 x2 x3 M = some (v9, M9) → Z l E RX5 cX5_rule 6 (some .int) 7 16 [(0, .ref (eA E (42))), (1, .int (x1)), (2, .int (x2)), (3, .int (x3))] [] M (PR (some (.int v9)) M9)) (hk39 : ∀ (x1 : Int32) (x2 : Int32) (x3 : Int32) (x4 : Int32) (x5 : Int32) (M : Mem), k39 x1 x2 x3 x4 x5 M = some (v9, M9) → Z l E RX5 cX5_rule 6 (some .int) 7 39 [(0, .ref (eA E (42))), (1, .int (x1)), (2, .int (x2)), (3, .int (x3)), (4, .int (x4)), (5, .int (x5))] [] M (PR (some (.int v9)) M9)) (H : fX5_rule_71 k16 k39 x1 x2 x3 x5 s0 M = some (v9, M9)) : Z l E RX5 cX5_rule 6 (some .int) 7 71 [(0, .ref (eA E (42))), (1, .int (x1)), (2, .int (x2)), (3, .int (x3)), (5, .int (x5))] [.int (s0)] M (PR (some (.int v9)) M9) := by
  unfold fX5_rule_71 at H
  refine Z.istore (lv' := [(4, .int (s0)), (0, .ref (eA E (42))), (1, .int (x1)), (2, .int (x2)), (3, .int (x3)), (5, .int (x5))]) dX5_rule_71 (by decide) rfl ?_
  refine Z.iinc (v := x5 + 1) (lv' := [(5, .int (x5 + 1)), (4, .int (s0)), (0, .ref (eA E (42))), (1, .int (x1)), (2, .int (x2)), (3, .int (x3))]) dX5_rule_73 5 rfl rfl (by decide) rfl ?_
  refine Z.goto dX5_rule_76 ?_
  refine Z.sub [2, 3, 4, 5, 1, 0] rfl ?_
  exact hk39 (x1) (x2) (x3) (s0) (x5 + 1) M  H
set_option maxRecDepth 100000 in
theorem tX5_rule_39 {l : Launch} {E : Env5}   {k16 : Int32 → Int32 → Int32 → Mem → Option (Int32 × Mem)} {k39 : Int32 → Int32 → Int32 → Int32 → Int32 → Mem → Option (Int32 × Mem)} (x1 : Int32) (x2 : Int32) (x3 : Int32) (x4 : Int32) (x5 : Int32) (M : Mem) {v9 : Int32} {M9 : Mem} (hk16 : ∀ (x1 : Int32) (x2 : Int32) (x3 : Int32) (M : Mem), k16 x1 x2 x3 M = some (v9, M9) → Z l E RX5 cX5_rule 6 (some .int) 7 16 [(0, .ref (eA E (42))), (1, .int (x1)), (2, .int (x2)), (3, .int (x3))] [] M (PR (some (.int v9)) M9)) (hk39 : ∀ (x1 : Int32) (x2 : Int32) (x3 : Int32) (x4 : Int32) (x5 : Int32) (M : Mem), k39 x1 x2 x3 x4 x5 M = some (v9, M9) → Z l E RX5 cX5_rule 6 (some .int) 7 39 [(0, .ref (eA E (42))), (1, .int (x1)), (2, .int (x2)), (3, .int (x3)), (4, .int (x4)), (5, .int (x5))] [] M (PR (some (.int v9)) M9)) (H : fX5_rule_39B k16 k39 x1 x2 x3 x4 x5 M = some (v9, M9)) : Z l E RX5 cX5_rule 6 (some .int) 7 39 [(0, .ref (eA E (42))), (1, .int (x1)), (2, .int (x2)), (3, .int (x3)), (4, .int (x4)), (5, .int (x5))] [] M (PR (some (.int v9)) M9) := by
  unfold fX5_rule_39B at H
  refine Z.iload dX5_rule_39 5 rfl ?_
  refine Z.aload_n dX5_rule_41 0 rfl ?_
  refine Z.get dX5_rule_42 inX5 (hc := rfl) (by decide) c5 6 (by decide) kw685 rfl rfl ?_
  refine Z.iconst (v := 0) dX5_rule_45 (by decide) ?_
  refine Z.ialdH dX5_rule_46 a5_people H (fun v1 H => ?_)
  refine Z.icmp_geH dX5_rule_47 H (fun br47 H => ?_) (fun br47 H => ?_)
  · refine Z.sub [0, 1, 2, 3, 4] rfl ?_
    exact tX5_rule_79  (x1) (x2) (x3) (x4) M hk16 H
  · refine Z.iload dX5_rule_50 4 rfl ?_
    refine Z.if_eqH dX5_rule_52 H (fun br52 H => ?_) (fun br52 H => ?_)
    · refine Z.sub [0, 1, 2, 3, 4] rfl ?_
      exact tX5_rule_79  (x1) (x2) (x3) (x4) M hk16 H
    · refine Z.aload_n dX5_rule_55 0 rfl ?_
      refine Z.iload dX5_rule_56 5 rfl ?_
      refine Z.iload_n dX5_rule_58 3 rfl ?_
      refine bindC H (fun v2 hv2 H => ?_)
      refine Z.callV (As := [.int (x5), .int (x3)]) (rest := []) (st' := [.int (v2.1)]) dX5_rule_59 (kX5_manyTo  (x5) (x3) M hv2) kw1039 kw1041 ks61 kw7 kw1042 hdX5_manyTo (by decide) c5 (hc := rfl) (by decide) (by decide) rfl rfl (Nat.le_of_ble_eq_true rfl) rfl ?_
      refine Z.iload_n dX5_rule_62 1 rfl ?_
      refine Z.icmp_gtH dX5_rule_63 H (fun br63 H => ?_) (fun br63 H => ?_)
      · refine Z.iconst (v := 0) dX5_rule_70 (by decide) ?_
        refine Z.sub [0, 1, 2, 3, 5] rfl ?_
        exact tX5_rule_71  (x1) (x2) (x3) (x5) (0) v2.2 hk16 hk39 H
      · refine Z.iconst (v := 1) dX5_rule_66 (by decide) ?_
        refine Z.goto dX5_rule_67 ?_
        refine Z.sub [0, 1, 2, 3, 5] rfl ?_
        exact tX5_rule_71  (x1) (x2) (x3) (x5) (1) v2.2 hk16 hk39 H
theorem tX5_rule_39L {l : Launch} {E : Env5}   {k16 : Int32 → Int32 → Int32 → Mem → Option (Int32 × Mem)}  {v9 : Int32} {M9 : Mem} (hk16 : ∀ (x1 : Int32) (x2 : Int32) (x3 : Int32) (M : Mem), k16 x1 x2 x3 M = some (v9, M9) → Z l E RX5 cX5_rule 6 (some .int) 7 16 [(0, .ref (eA E (42))), (1, .int (x1)), (2, .int (x2)), (3, .int (x3))] [] M (PR (some (.int v9)) M9)) : ∀ (n : Nat) (x1 : Int32) (x2 : Int32) (x3 : Int32) (x4 : Int32) (x5 : Int32) (M : Mem), fX5_rule_39L k16  n x1 x2 x3 x4 x5 M = some (v9, M9) → Z l E RX5 cX5_rule 6 (some .int) 7 39 [(0, .ref (eA E (42))), (1, .int (x1)), (2, .int (x2)), (3, .int (x3)), (4, .int (x4)), (5, .int (x5))] [] M (PR (some (.int v9)) M9) := by
  intro n
  induction n with
  | zero => intro x1 x2 x3 x4 x5 M H; exact absurd H (by simp [fX5_rule_39L])
  | succ n ih => intro x1 x2 x3 x4 x5 M H; exact tX5_rule_39  x1 x2 x3 x4 x5 M hk16 (fun x1 x2 x3 x4 x5 M H => ih x1 x2 x3 x4 x5 M H) H
set_option maxRecDepth 100000 in
theorem tX5_rule_34 {l : Launch} {E : Env5}   {k16 : Int32 → Int32 → Int32 → Mem → Option (Int32 × Mem)} (x1 : Int32) (x2 : Int32) (x3 : Int32) (s0 : Int32) (M : Mem) {v9 : Int32} {M9 : Mem} (hk16 : ∀ (x1 : Int32) (x2 : Int32) (x3 : Int32) (M : Mem), k16 x1 x2 x3 M = some (v9, M9) → Z l E RX5 cX5_rule 6 (some .int) 7 16 [(0, .ref (eA E (42))), (1, .int (x1)), (2, .int (x2)), (3, .int (x3))] [] M (PR (some (.int v9)) M9)) (H : fX5_rule_34 k16 x1 x2 x3 s0 M = some (v9, M9)) : Z l E RX5 cX5_rule 6 (some .int) 7 34 [(0, .ref (eA E (42))), (1, .int (x1)), (2, .int (x2)), (3, .int (x3))] [.int (s0)] M (PR (some (.int v9)) M9) := by
  unfold fX5_rule_34 at H
  refine Z.istore (lv' := [(4, .int (s0)), (0, .ref (eA E (42))), (1, .int (x1)), (2, .int (x2)), (3, .int (x3))]) dX5_rule_34 (by decide) rfl ?_
  refine Z.iconst (v := 0) dX5_rule_36 (by decide) ?_
  refine Z.istore (lv' := [(5, .int (0)), (4, .int (s0)), (0, .ref (eA E (42))), (1, .int (x1)), (2, .int (x2)), (3, .int (x3))]) dX5_rule_37 (by decide) rfl ?_
  refine Z.sub [2, 3, 4, 5, 1, 0] rfl ?_
  exact tX5_rule_39L  hk16 FU (x1) (x2) (x3) (s0) (0) M H
set_option maxRecDepth 100000 in
theorem tX5_rule_16 {l : Launch} {E : Env5}   {k16 : Int32 → Int32 → Int32 → Mem → Option (Int32 × Mem)} (x1 : Int32) (x2 : Int32) (x3 : Int32) (M : Mem) {v9 : Int32} {M9 : Mem} (hk16 : ∀ (x1 : Int32) (x2 : Int32) (x3 : Int32) (M : Mem), k16 x1 x2 x3 M = some (v9, M9) → Z l E RX5 cX5_rule 6 (some .int) 7 16 [(0, .ref (eA E (42))), (1, .int (x1)), (2, .int (x2)), (3, .int (x3))] [] M (PR (some (.int v9)) M9)) (H : fX5_rule_16B k16 x1 x2 x3 M = some (v9, M9)) : Z l E RX5 cX5_rule 6 (some .int) 7 16 [(0, .ref (eA E (42))), (1, .int (x1)), (2, .int (x2)), (3, .int (x3))] [] M (PR (some (.int v9)) M9) := by
  unfold fX5_rule_16B at H
  refine Z.iload_n dX5_rule_16 3 rfl ?_
  refine Z.bipush (v := 9) dX5_rule_17 (by decide) ?_
  refine Z.icmp_gtH dX5_rule_19 H (fun br19 H => ?_) (fun br19 H => ?_)
  · refine Z.iload_n dX5_rule_96 2 rfl ?_
    exact Z.iret rfl dX5_rule_97 (retW H)
  · refine Z.iload_n dX5_rule_22 2 rfl ?_
    refine Z.iload_n dX5_rule_23 3 rfl ?_
    refine Z.iconst (v := 1) dX5_rule_24 (by decide) ?_
    refine Z.isub dX5_rule_25 ?_
    refine Z.icmp_neH dX5_rule_26 H (fun br26 H => ?_) (fun br26 H => ?_)
    · refine Z.iconst (v := 0) dX5_rule_33 (by decide) ?_
      refine Z.sub [0, 1, 2, 3] rfl ?_
      exact tX5_rule_34  (x1) (x2) (x3) (0) M hk16 H
    · refine Z.iconst (v := 1) dX5_rule_29 (by decide) ?_
      refine Z.goto dX5_rule_30 ?_
      refine Z.sub [0, 1, 2, 3] rfl ?_
      exact tX5_rule_34  (x1) (x2) (x3) (1) M hk16 H
theorem tX5_rule_16L {l : Launch} {E : Env5}     {v9 : Int32} {M9 : Mem}  : ∀ (n : Nat) (x1 : Int32) (x2 : Int32) (x3 : Int32) (M : Mem), fX5_rule_16L   n x1 x2 x3 M = some (v9, M9) → Z l E RX5 cX5_rule 6 (some .int) 7 16 [(0, .ref (eA E (42))), (1, .int (x1)), (2, .int (x2)), (3, .int (x3))] [] M (PR (some (.int v9)) M9) := by
  intro n
  induction n with
  | zero => intro x1 x2 x3 M H; exact absurd H (by simp [fX5_rule_16L])
  | succ n ih => intro x1 x2 x3 M H; exact tX5_rule_16  x1 x2 x3 M  (fun x1 x2 x3 M H => ih x1 x2 x3 M H) H
set_option maxRecDepth 100000 in
theorem tX5_rule_0 {l : Launch} {E : Env5}    (x1 : Int32) (M : Mem) {v9 : Int32} {M9 : Mem}  (H : fX5_rule  x1 M = some (v9, M9)) : Z l E RX5 cX5_rule 6 (some .int) 7 0 [(0, .ref (eA E (42))), (1, .int (x1))] [] M (PR (some (.int v9)) M9) := by
  unfold fX5_rule at H
  refine Z.iload_n dX5_rule_0 1 rfl ?_
  refine Z.iconst (v := 0) dX5_rule_1 (by decide) ?_
  refine Z.bipush (v := 10) dX5_rule_2 (by decide) ?_
  refine bindC H (fun v1 hv1 H => ?_)
  refine Z.callS (As := [.int (x1), .int (0), .int (10)]) (rest := []) (st' := [.int (v1)]) dX5_rule_4 (kX5_in  (x1) (0) (10) M hv1) kw798 kw799 kw7 kw800 hdX5_in (by decide) (by decide) rfl rfl (Nat.le_of_ble_eq_true rfl) rfl ?_
  refine Z.if_neH dX5_rule_7 H (fun br7 H => ?_) (fun br7 H => ?_)
  · refine Z.iconst (v := 0) dX5_rule_12 (by decide) ?_
    refine Z.istore_n (lv' := [(2, .int (0)), (0, .ref (eA E (42))), (1, .int (x1))]) dX5_rule_13 (by decide) rfl ?_
    refine Z.iconst (v := 1) dX5_rule_14 (by decide) ?_
    refine Z.istore_n (lv' := [(3, .int (1)), (2, .int (0)), (0, .ref (eA E (42))), (1, .int (x1))]) dX5_rule_15 (by decide) rfl ?_
    refine Z.sub [2, 3, 1, 0] rfl ?_
    exact tX5_rule_16L   FU (x1) (0) (1) M H
  · refine Z.iconst (v := (-1)) dX5_rule_10 (by decide) ?_
    exact Z.iret rfl dX5_rule_11 (retW H)
theorem kX5_rule {l : Launch} {E : Env5}   (x1 : Int32) (M : Mem) {v9 : Int32} {M9 : Mem} (H : fX5_rule x1 M = some (v9, M9)) : Cn l E yX5_rule cX5_rule 6 (some .int) 7 [.ref (eA E (42)), .int (x1)] M (PR (some (.int v9)) M9) := Cn.ofZ rfl (Nat.le_of_ble_eq_true rfl) rfl (tX5_rule_0  x1 M H)
theorem hdX5_rule : yX5_rule.cls ≠ "java/lang/invoke/MethodHandle" ∧ yX5_rule.cls ≠ "java/lang/invoke/VarHandle" ∧ (parseMethodDescriptor yX5_rule.desc).map (fun d => d.parameters.length) = some 1 := by decide +kernel

set_option maxRecDepth 100000 in
theorem tX5_untrue_0 {l : Launch} {E : Env5}    (x1 : Int32) (x2 : Int32) (M : Mem) {v9 : Int32} {M9 : Mem}  (H : fX5_untrue  x1 x2 M = some (v9, M9)) : Z l E RX5 cX5_untrue 4 (some .int) 8 0 [(0, .ref (eA E (42))), (1, .int (x1)), (2, .int (x2))] [] M (PR (some (.int v9)) M9) := by
  unfold fX5_untrue at H
  refine Z.aload_n dX5_untrue_0 0 rfl ?_
  refine Z.iload_n dX5_untrue_1 1 rfl ?_
  refine bindC H (fun v1 hv1 H => ?_)
  refine Z.callV (As := [.int (x1)]) (rest := []) (st' := [.int (v1)]) dX5_untrue_2 (kX5_isPicture  (x1) M hv1) kw858 kw860 ks40 kw7 kw861 hdX5_isPicture (by decide) c5 (hc := rfl) (by decide) (by decide) rfl rfl (Nat.le_of_ble_eq_true rfl) rfl ?_
  refine Z.if_eqH dX5_untrue_5 H (fun br5 H => ?_) (fun br5 H => ?_)
  · refine Z.iconst (v := (-1)) dX5_untrue_16 (by decide) ?_
    exact Z.iret rfl dX5_untrue_17 (retW H)
  · refine Z.aload_n dX5_untrue_8 0 rfl ?_
    refine Z.iload_n dX5_untrue_9 2 rfl ?_
    refine bindC H (fun v2 hv2 H => ?_)
    refine Z.callV (As := [.int (x2)]) (rest := []) (st' := [.int (v2)]) dX5_untrue_10 (kX5_isSet  (x2) M hv2) kw932 kw934 ks51 kw7 kw935 hdX5_isSet (by decide) c5 (hc := rfl) (by decide) (by decide) rfl rfl (Nat.le_of_ble_eq_true rfl) rfl ?_
    refine Z.if_neH dX5_untrue_13 H (fun br13 H => ?_) (fun br13 H => ?_)
    · refine Z.aload_n dX5_untrue_18 0 rfl ?_
      refine Z.iload_n dX5_untrue_19 1 rfl ?_
      refine bindC H (fun v3 hv3 H => ?_)
      refine Z.callV (As := [.int (x1)]) (rest := []) (st' := [.int (v3.1)]) dX5_untrue_20 (kX5_showsOf  (x1) M hv3) kw888 kw890 ks43 kw7 kw891 hdX5_showsOf (by decide) c5 (hc := rfl) (by decide) (by decide) rfl rfl (Nat.le_of_ble_eq_true rfl) rfl ?_
      refine Z.istore_n (lv' := [(3, .int (v3.1)), (0, .ref (eA E (42))), (1, .int (x1)), (2, .int (x2))]) dX5_untrue_23 (by decide) rfl ?_
      refine Z.iload_n dX5_untrue_24 3 rfl ?_
      refine Z.iload_n dX5_untrue_25 0 rfl ?_
      refine Z.iconst (v := (-1)) dX5_untrue_26 (by decide) ?_
      refine Z.ixor dX5_untrue_27 ?_
      refine Z.iand dX5_untrue_28 ?_
      refine bindC H (fun v4 hv4 H => ?_)
      refine Z.callS (As := [.int (x2 &&& (v3.1 ^^^ ((-1))))]) (rest := []) (st' := [.int (v4)]) dX5_untrue_29 (kX5_bitsIn  (x2 &&& (v3.1 ^^^ ((-1)))) v3.2 hv4) kw977 kw978 kw7 kw979 hdX5_bitsIn (by decide) (by decide) rfl rfl (Nat.le_of_ble_eq_true rfl) rfl ?_
      refine Z.iload_n dX5_untrue_32 0 rfl ?_
      refine Z.iload_n dX5_untrue_33 3 rfl ?_
      refine Z.iconst (v := (-1)) dX5_untrue_34 (by decide) ?_
      refine Z.ixor dX5_untrue_35 ?_
      refine Z.iand dX5_untrue_36 ?_
      refine bindC H (fun v5 hv5 H => ?_)
      refine Z.callS (As := [.int (v3.1 &&& (x2 ^^^ ((-1))))]) (rest := [.int (v4)]) (st' := [.int (v5), .int (v4)]) dX5_untrue_37 (kX5_bitsIn  (v3.1 &&& (x2 ^^^ ((-1)))) v3.2 hv5) kw977 kw978 kw7 kw979 hdX5_bitsIn (by decide) (by decide) rfl rfl (Nat.le_of_ble_eq_true rfl) rfl ?_
      refine Z.iadd dX5_untrue_40 ?_
      exact Z.iret rfl dX5_untrue_41 (retW H)
    · refine Z.iconst (v := (-1)) dX5_untrue_16 (by decide) ?_
      exact Z.iret rfl dX5_untrue_17 (retW H)
theorem kX5_untrue {l : Launch} {E : Env5}   (x1 : Int32) (x2 : Int32) (M : Mem) {v9 : Int32} {M9 : Mem} (H : fX5_untrue x1 x2 M = some (v9, M9)) : Cn l E yX5_untrue cX5_untrue 4 (some .int) 8 [.ref (eA E (42)), .int (x1), .int (x2)] M (PR (some (.int v9)) M9) := Cn.ofZ rfl (Nat.le_of_ble_eq_true rfl) rfl (tX5_untrue_0  x1 x2 M H)
theorem hdX5_untrue : yX5_untrue.cls ≠ "java/lang/invoke/MethodHandle" ∧ yX5_untrue.cls ≠ "java/lang/invoke/VarHandle" ∧ (parseMethodDescriptor yX5_untrue.desc).map (fun d => d.parameters.length) = some 2 := by decide +kernel

set_option maxRecDepth 100000 in
theorem tX5_rate_0 {l : Launch} {E : Env5}    (x1 : Int32) (x2 : Int32) (M : Mem) {v9 : Int32} {M9 : Mem}  (H : fX5_rate  x1 x2 M = some (v9, M9)) : Z l E RX5 cX5_rate 6 (some .int) 8 0 [(0, .ref (eA E (42))), (1, .int (x1)), (2, .int (x2))] [] M (PR (some (.int v9)) M9) := by
  unfold fX5_rate at H
  refine Z.iload_n dX5_rate_0 1 rfl ?_
  refine Z.iconst (v := 0) dX5_rate_1 (by decide) ?_
  refine Z.iconst (v := 5) dX5_rate_2 (by decide) ?_
  refine bindC H (fun v1 hv1 H => ?_)
  refine Z.callS (As := [.int (x1), .int (0), .int (5)]) (rest := []) (st' := [.int (v1)]) dX5_rate_3 (kX5_in  (x1) (0) (5) M hv1) kw798 kw799 kw7 kw800 hdX5_in (by decide) (by decide) rfl rfl (Nat.le_of_ble_eq_true rfl) rfl ?_
  refine Z.if_eqH dX5_rate_6 H (fun br6 H => ?_) (fun br6 H => ?_)
  · refine Z.ldc (v := (-1000000)) dX5_rate_17 kw944 ?_
    exact Z.iret rfl dX5_rate_19 (retW H)
  · refine Z.aload_n dX5_rate_9 0 rfl ?_
    refine Z.iload_n dX5_rate_10 2 rfl ?_
    refine bindC H (fun v2 hv2 H => ?_)
    refine Z.callV (As := [.int (x2)]) (rest := []) (st' := [.int (v2)]) dX5_rate_11 (kX5_isPicture  (x2) M hv2) kw858 kw860 ks40 kw7 kw861 hdX5_isPicture (by decide) c5 (hc := rfl) (by decide) (by decide) rfl rfl (Nat.le_of_ble_eq_true rfl) rfl ?_
    refine Z.if_neH dX5_rate_14 H (fun br14 H => ?_) (fun br14 H => ?_)
    · refine Z.aload_n dX5_rate_20 0 rfl ?_
      refine Z.iload_n dX5_rate_21 2 rfl ?_
      refine bindC H (fun v3 hv3 H => ?_)
      refine Z.callV (As := [.int (x2)]) (rest := []) (st' := [.int (v3.1)]) dX5_rate_22 (kX5_showsOf  (x2) M hv3) kw888 kw890 ks43 kw7 kw891 hdX5_showsOf (by decide) c5 (hc := rfl) (by decide) (by decide) rfl rfl (Nat.le_of_ble_eq_true rfl) rfl ?_
      refine bindC H (fun v4 hv4 H => ?_)
      refine Z.callS (As := [.int (v3.1)]) (rest := []) (st' := [.int (v4)]) dX5_rate_25 (kX5_bitsIn  (v3.1) v3.2 hv4) kw977 kw978 kw7 kw979 hdX5_bitsIn (by decide) (by decide) rfl rfl (Nat.le_of_ble_eq_true rfl) rfl ?_
      refine Z.istore_n (lv' := [(3, .int (v4)), (0, .ref (eA E (42))), (1, .int (x1)), (2, .int (x2))]) dX5_rate_28 (by decide) rfl ?_
      refine Z.aload_n dX5_rate_29 1 rfl ?_
      refine Z.get dX5_rate_30 inX5 (hc := rfl) (by decide) c5 9 (by decide) kw688 rfl rfl ?_
      refine Z.iconst (v := 5) dX5_rate_33 (by decide) ?_
      refine Z.iload_n dX5_rate_34 3 rfl ?_
      refine Z.imul dX5_rate_35 ?_
      refine Z.iconst (v := 3) dX5_rate_36 (by decide) ?_
      refine Z.iadd dX5_rate_37 ?_
      refine Z.ialdH dX5_rate_38 a5_picture H (fun v5 H => ?_)
      refine Z.istore (lv' := [(4, .int (v5)), (3, .int (v4)), (0, .ref (eA E (42))), (1, .int (x1)), (2, .int (x2))]) dX5_rate_39 (by decide) rfl ?_
      refine Z.iload_n dX5_rate_41 3 rfl ?_
      refine iteE H (fun e0 H => ?_) (fun e0 H => ?_)
      · refine Z.tabC (c := 0) (tgt := 76) e0 dX5_rate_42 (by decide) (by decide) rfl rfl ?_
        refine Z.aload_n dX5_rate_76 2 rfl ?_
        refine Z.dup dX5_rate_77 rfl ?_
        refine Z.get dX5_rate_78 inX5 (hc := rfl) (by decide) c5 0 (by decide) kw679 rfl rfl ?_
        refine Z.lconst (v := 1) dX5_rate_81 (by decide) ?_
        refine Z.ladd dX5_rate_82 ?_
        refine wE H (fun M6 eM6 H => ?_)
        refine Z.put (ty := .long) (M' := M6) dX5_rate_83 inX5 tyX5_ok nmX5 (hc := rfl) (by decide) c5 0 (by decide) kw679 rfl rfl (by decide +kernel) rfl rfl (Nat.le_of_ble_eq_true rfl) (by rw [← eM6, c5, sJ_k]; exact congrArg (fun q => Sum.inr (5, q)) u5_trace) (by rw [← eM6]; exact sJ_o) (by rw [← eM6]; exact (fun q => q)) ?_
        refine Z.iload_n dX5_rate_86 1 rfl ?_
        exact Z.iret rfl dX5_rate_87 (retW H)
      refine iteE H (fun e1 H => ?_) (fun e1 H => ?_)
      · refine Z.tabC (c := 1) (tgt := 88) e1 dX5_rate_42 (by decide) (by decide) rfl rfl ?_
        refine Z.aload_n dX5_rate_88 2 rfl ?_
        refine Z.dup dX5_rate_89 rfl ?_
        refine Z.get dX5_rate_90 inX5 (hc := rfl) (by decide) c5 0 (by decide) kw679 rfl rfl ?_
        refine Z.ldc2 (v := 11) dX5_rate_93 kw1051 ?_
        refine Z.ladd dX5_rate_96 ?_
        refine wE H (fun M7 eM7 H => ?_)
        refine Z.put (ty := .long) (M' := M7) dX5_rate_97 inX5 tyX5_ok nmX5 (hc := rfl) (by decide) c5 0 (by decide) kw679 rfl rfl (by decide +kernel) rfl rfl (Nat.le_of_ble_eq_true rfl) (by rw [← eM7, c5, sJ_k]; exact congrArg (fun q => Sum.inr (5, q)) u5_trace) (by rw [← eM7]; exact sJ_o) (by rw [← eM7]; exact (fun q => q)) ?_
        refine Z.iload_n dX5_rate_100 1 rfl ?_
        refine Z.iload dX5_rate_101 0 rfl ?_
        refine Z.iadd dX5_rate_103 ?_
        exact Z.iret rfl dX5_rate_104 (retW H)
      refine iteE H (fun e2 H => ?_) (fun e2 H => ?_)
      · refine Z.tabC (c := 2) (tgt := 105) e2 dX5_rate_42 (by decide) (by decide) rfl rfl ?_
        refine Z.aload_n dX5_rate_105 2 rfl ?_
        refine Z.dup dX5_rate_106 rfl ?_
        refine Z.get dX5_rate_107 inX5 (hc := rfl) (by decide) c5 0 (by decide) kw679 rfl rfl ?_
        refine Z.ldc2 (v := 101) dX5_rate_110 kw1052 ?_
        refine Z.ladd dX5_rate_113 ?_
        refine wE H (fun M8 eM8 H => ?_)
        refine Z.put (ty := .long) (M' := M8) dX5_rate_114 inX5 tyX5_ok nmX5 (hc := rfl) (by decide) c5 0 (by decide) kw679 rfl rfl (by decide +kernel) rfl rfl (Nat.le_of_ble_eq_true rfl) (by rw [← eM8, c5, sJ_k]; exact congrArg (fun q => Sum.inr (5, q)) u5_trace) (by rw [← eM8]; exact sJ_o) (by rw [← eM8]; exact (fun q => q)) ?_
        refine Z.iconst (v := 3) dX5_rate_117 (by decide) ?_
        refine Z.iload_n dX5_rate_118 1 rfl ?_
        refine Z.imul dX5_rate_119 ?_
        exact Z.iret rfl dX5_rate_120 (retW H)
      refine iteE H (fun e3 H => ?_) (fun e3 H => ?_)
      · refine Z.tabC (c := 3) (tgt := 121) e3 dX5_rate_42 (by decide) (by decide) rfl rfl ?_
        refine Z.aload_n dX5_rate_121 2 rfl ?_
        refine Z.dup dX5_rate_122 rfl ?_
        refine Z.get dX5_rate_123 inX5 (hc := rfl) (by decide) c5 0 (by decide) kw679 rfl rfl ?_
        refine Z.ldc2 (v := 1101) dX5_rate_126 kw1053 ?_
        refine Z.ladd dX5_rate_129 ?_
        refine wE H (fun M9 eM9 H => ?_)
        refine Z.put (ty := .long) (M' := M9) dX5_rate_130 inX5 tyX5_ok nmX5 (hc := rfl) (by decide) c5 0 (by decide) kw679 rfl rfl (by decide +kernel) rfl rfl (Nat.le_of_ble_eq_true rfl) (by rw [← eM9, c5, sJ_k]; exact congrArg (fun q => Sum.inr (5, q)) u5_trace) (by rw [← eM9]; exact sJ_o) (by rw [← eM9]; exact (fun q => q)) ?_
        refine Z.aload_n dX5_rate_133 2 rfl ?_
        refine Z.iload_n dX5_rate_134 4 rfl ?_
        refine bindC H (fun v10 hv10 H => ?_)
        refine Z.callV (As := [.int (x2)]) (rest := []) (st' := [.int (v10.1)]) dX5_rate_135 (kX5_waitOf  (x2) M9 hv10) kw1023 kw1025 ks60 kw7 kw1026 hdX5_waitOf (by decide) c5 (hc := rfl) (by decide) (by decide) rfl rfl (Nat.le_of_ble_eq_true rfl) rfl ?_
        refine Z.istore (lv' := [(5, .int (v10.1)), (4, .int (v5)), (3, .int (v4)), (0, .ref (eA E (42))), (1, .int (x1)), (2, .int (x2))]) dX5_rate_138 (by decide) rfl ?_
        refine Z.iconst (v := 3) dX5_rate_140 (by decide) ?_
        refine Z.iload_n dX5_rate_141 2 rfl ?_
        refine Z.imul dX5_rate_142 ?_
        refine Z.iload dX5_rate_143 0 rfl ?_
        refine Z.bipush (v := (-9)) dX5_rate_145 (by decide) ?_
        refine Z.icmp_neH dX5_rate_147 H (fun br147 H => ?_) (fun br147 H => ?_)
        · refine Z.iload dX5_rate_155 0 rfl ?_
          refine Z.iadd dX5_rate_157 ?_
          exact Z.iret rfl dX5_rate_158 (retW H)
        · refine Z.bipush (v := 100) dX5_rate_150 (by decide) ?_
          refine Z.goto dX5_rate_152 ?_
          refine Z.iadd dX5_rate_157 ?_
          exact Z.iret rfl dX5_rate_158 (retW H)
      refine iteE H (fun e4 H => ?_) (fun e4 H => ?_)
      · refine Z.tabC (c := 4) (tgt := 159) e4 dX5_rate_42 (by decide) (by decide) rfl rfl ?_
        refine Z.aload_n dX5_rate_159 2 rfl ?_
        refine Z.dup dX5_rate_160 rfl ?_
        refine Z.get dX5_rate_161 inX5 (hc := rfl) (by decide) c5 0 (by decide) kw679 rfl rfl ?_
        refine Z.ldc2 (v := 10011) dX5_rate_164 kw1054 ?_
        refine Z.ladd dX5_rate_167 ?_
        refine wE H (fun M11 eM11 H => ?_)
        refine Z.put (ty := .long) (M' := M11) dX5_rate_168 inX5 tyX5_ok nmX5 (hc := rfl) (by decide) c5 0 (by decide) kw679 rfl rfl (by decide +kernel) rfl rfl (Nat.le_of_ble_eq_true rfl) (by rw [← eM11, c5, sJ_k]; exact congrArg (fun q => Sum.inr (5, q)) u5_trace) (by rw [← eM11]; exact sJ_o) (by rw [← eM11]; exact (fun q => q)) ?_
        refine Z.iconst (v := 2) dX5_rate_171 (by decide) ?_
        refine Z.iload_n dX5_rate_172 1 rfl ?_
        refine Z.iload dX5_rate_173 0 rfl ?_
        refine Z.iadd dX5_rate_175 ?_
        refine Z.imul dX5_rate_176 ?_
        exact Z.iret rfl dX5_rate_177 (retW H)
      refine Z.tabOut (tgt := 178) dX5_rate_42 (by have := @Int32.toInt_inj; have z0 := sw_ne (k := 0) rfl e0; have z1 := sw_ne (k := 1) rfl e1; have z2 := sw_ne (k := 2) rfl e2; have z3 := sw_ne (k := 3) rfl e3; have z4 := sw_ne (k := 4) rfl e4; omega) rfl ?_
      refine Z.aload_n dX5_rate_178 2 rfl ?_
      refine Z.dup dX5_rate_179 rfl ?_
      refine Z.get dX5_rate_180 inX5 (hc := rfl) (by decide) c5 0 (by decide) kw679 rfl rfl ?_
      refine Z.ldc2 (v := 100001) dX5_rate_183 kw1055 ?_
      refine Z.ladd dX5_rate_186 ?_
      refine wE H (fun M12 eM12 H => ?_)
      refine Z.put (ty := .long) (M' := M12) dX5_rate_187 inX5 tyX5_ok nmX5 (hc := rfl) (by decide) c5 0 (by decide) kw679 rfl rfl (by decide +kernel) rfl rfl (Nat.le_of_ble_eq_true rfl) (by rw [← eM12, c5, sJ_k]; exact congrArg (fun q => Sum.inr (5, q)) u5_trace) (by rw [← eM12]; exact sJ_o) (by rw [← eM12]; exact (fun q => q)) ?_
      refine Z.iload_n dX5_rate_190 1 rfl ?_
      refine Z.aload_n dX5_rate_191 2 rfl ?_
      refine Z.get dX5_rate_192 inX5 (hc := rfl) (by decide) c5 9 (by decide) kw688 rfl rfl ?_
      refine Z.iconst (v := 5) dX5_rate_195 (by decide) ?_
      refine Z.iload_n dX5_rate_196 4 rfl ?_
      refine Z.imul dX5_rate_197 ?_
      refine Z.iconst (v := 4) dX5_rate_198 (by decide) ?_
      refine Z.iadd dX5_rate_199 ?_
      refine Z.ialdH dX5_rate_200 a5_picture H (fun v13 H => ?_)
      refine Z.isub dX5_rate_201 ?_
      exact Z.iret rfl dX5_rate_202 (retW H)
    · refine Z.ldc (v := (-1000000)) dX5_rate_17 kw944 ?_
      exact Z.iret rfl dX5_rate_19 (retW H)
theorem kX5_rate {l : Launch} {E : Env5}   (x1 : Int32) (x2 : Int32) (M : Mem) {v9 : Int32} {M9 : Mem} (H : fX5_rate x1 x2 M = some (v9, M9)) : Cn l E yX5_rate cX5_rate 6 (some .int) 8 [.ref (eA E (42)), .int (x1), .int (x2)] M (PR (some (.int v9)) M9) := Cn.ofZ rfl (Nat.le_of_ble_eq_true rfl) rfl (tX5_rate_0  x1 x2 M H)
theorem hdX5_rate : yX5_rate.cls ≠ "java/lang/invoke/MethodHandle" ∧ yX5_rate.cls ≠ "java/lang/invoke/VarHandle" ∧ (parseMethodDescriptor yX5_rate.desc).map (fun d => d.parameters.length) = some 2 := by decide +kernel

set_option maxRecDepth 100000 in
theorem tX5_copy_230 {l : Launch} {E : Env5}   {k230 : Int32 → Int32 → Int32 → Mem → Option Mem} (x1 : Int32) (x2 : Int32) (x3 : Int32) (M : Mem) {M9 : Mem} (hk230 : ∀ (x1 : Int32) (x2 : Int32) (x3 : Int32) (M : Mem), k230 x1 x2 x3 M = some M9 → Z l E RX5 cX5_copy 4 none 0 230 [(0, .ref (eA E (42))), (1, .int (x1)), (2, .int (x2)), (3, .int (x3))] [] M (PR none M9)) (H : fX5_copy_230B k230 x1 x2 x3 M = some M9) : Z l E RX5 cX5_copy 4 none 0 230 [(0, .ref (eA E (42))), (1, .int (x1)), (2, .int (x2)), (3, .int (x3))] [] M (PR none M9) := by
  unfold fX5_copy_230B at H
  refine Z.iload_n dX5_copy_230 3 rfl ?_
  refine Z.bipush (v := 10) dX5_copy_231 (by decide) ?_
  refine Z.icmp_geH dX5_copy_233 H (fun br233 H => ?_) (fun br233 H => ?_)
  · exact Z.vret rfl dX5_copy_264 (retV H)
  · refine Z.aload_n dX5_copy_236 0 rfl ?_
    refine Z.get dX5_copy_237 inX5 (hc := rfl) (by decide) c5 30 (by decide) kw709 rfl rfl ?_
    refine Z.bipush (v := 10) dX5_copy_240 (by decide) ?_
    refine Z.iload_n dX5_copy_242 2 rfl ?_
    refine Z.imul dX5_copy_243 ?_
    refine Z.iload_n dX5_copy_244 3 rfl ?_
    refine Z.iadd dX5_copy_245 ?_
    refine Z.aload_n dX5_copy_246 0 rfl ?_
    refine Z.get dX5_copy_247 inX5 (hc := rfl) (by decide) c5 30 (by decide) kw709 rfl rfl ?_
    refine Z.bipush (v := 10) dX5_copy_250 (by decide) ?_
    refine Z.iload_n dX5_copy_252 1 rfl ?_
    refine Z.imul dX5_copy_253 ?_
    refine Z.iload_n dX5_copy_254 3 rfl ?_
    refine Z.iadd dX5_copy_255 ?_
    refine Z.ialdH dX5_copy_256 a5_hats H (fun v1 H => ?_)
    refine Z.iastH dX5_copy_257 a5_hats H (fun M2 H => ?_)
    refine Z.iinc (v := x3 + 1) (lv' := [(3, .int (x3 + 1)), (0, .ref (eA E (42))), (1, .int (x1)), (2, .int (x2))]) dX5_copy_258 3 rfl rfl (by decide) rfl ?_
    refine Z.goto dX5_copy_261 ?_
    refine Z.sub [1, 2, 3, 0] rfl ?_
    exact hk230 (x1) (x2) (x3 + 1) M2  H
theorem tX5_copy_230L {l : Launch} {E : Env5}     {M9 : Mem}  : ∀ (n : Nat) (x1 : Int32) (x2 : Int32) (x3 : Int32) (M : Mem), fX5_copy_230L   n x1 x2 x3 M = some M9 → Z l E RX5 cX5_copy 4 none 0 230 [(0, .ref (eA E (42))), (1, .int (x1)), (2, .int (x2)), (3, .int (x3))] [] M (PR none M9) := by
  intro n
  induction n with
  | zero => intro x1 x2 x3 M H; exact absurd H (by simp [fX5_copy_230L])
  | succ n ih => intro x1 x2 x3 M H; exact tX5_copy_230  x1 x2 x3 M  (fun x1 x2 x3 M H => ih x1 x2 x3 M H) H
set_option maxRecDepth 100000 in
theorem tX5_copy_128 {l : Launch} {E : Env5}   {k128 : Int32 → Int32 → Int32 → Mem → Option Mem} (x1 : Int32) (x2 : Int32) (x3 : Int32) (M : Mem) {M9 : Mem} (hk128 : ∀ (x1 : Int32) (x2 : Int32) (x3 : Int32) (M : Mem), k128 x1 x2 x3 M = some M9 → Z l E RX5 cX5_copy 4 none 0 128 [(0, .ref (eA E (42))), (1, .int (x1)), (2, .int (x2)), (3, .int (x3))] [] M (PR none M9)) (H : fX5_copy_128B k128 x1 x2 x3 M = some M9) : Z l E RX5 cX5_copy 4 none 0 128 [(0, .ref (eA E (42))), (1, .int (x1)), (2, .int (x2)), (3, .int (x3))] [] M (PR none M9) := by
  unfold fX5_copy_128B at H
  refine Z.iload_n dX5_copy_128 3 rfl ?_
  refine Z.bipush (v := 8) dX5_copy_129 (by decide) ?_
  refine Z.icmp_geH dX5_copy_131 H (fun br131 H => ?_) (fun br131 H => ?_)
  · refine Z.iconst (v := 0) dX5_copy_228 (by decide) ?_
    refine Z.istore_n (lv' := [(3, .int (0)), (0, .ref (eA E (42))), (1, .int (x1)), (2, .int (x2))]) dX5_copy_229 (by decide) rfl ?_
    refine Z.sub [1, 2, 3, 0] rfl ?_
    exact tX5_copy_230L   FU (x1) (x2) (0) M H
  · refine Z.aload_n dX5_copy_134 0 rfl ?_
    refine Z.get dX5_copy_135 inX5 (hc := rfl) (by decide) c5 26 (by decide) kw705 rfl rfl ?_
    refine Z.bipush (v := 8) dX5_copy_138 (by decide) ?_
    refine Z.iload_n dX5_copy_140 2 rfl ?_
    refine Z.imul dX5_copy_141 ?_
    refine Z.iload_n dX5_copy_142 3 rfl ?_
    refine Z.iadd dX5_copy_143 ?_
    refine Z.aload_n dX5_copy_144 0 rfl ?_
    refine Z.get dX5_copy_145 inX5 (hc := rfl) (by decide) c5 26 (by decide) kw705 rfl rfl ?_
    refine Z.bipush (v := 8) dX5_copy_148 (by decide) ?_
    refine Z.iload_n dX5_copy_150 1 rfl ?_
    refine Z.imul dX5_copy_151 ?_
    refine Z.iload_n dX5_copy_152 3 rfl ?_
    refine Z.iadd dX5_copy_153 ?_
    refine Z.ialdH dX5_copy_154 a5_seenX H (fun v1 H => ?_)
    refine Z.iastH dX5_copy_155 a5_seenX H (fun M2 H => ?_)
    refine Z.aload_n dX5_copy_156 0 rfl ?_
    refine Z.get dX5_copy_157 inX5 (hc := rfl) (by decide) c5 27 (by decide) kw706 rfl rfl ?_
    refine Z.bipush (v := 8) dX5_copy_160 (by decide) ?_
    refine Z.iload_n dX5_copy_162 2 rfl ?_
    refine Z.imul dX5_copy_163 ?_
    refine Z.iload_n dX5_copy_164 3 rfl ?_
    refine Z.iadd dX5_copy_165 ?_
    refine Z.aload_n dX5_copy_166 0 rfl ?_
    refine Z.get dX5_copy_167 inX5 (hc := rfl) (by decide) c5 27 (by decide) kw706 rfl rfl ?_
    refine Z.bipush (v := 8) dX5_copy_170 (by decide) ?_
    refine Z.iload_n dX5_copy_172 1 rfl ?_
    refine Z.imul dX5_copy_173 ?_
    refine Z.iload_n dX5_copy_174 3 rfl ?_
    refine Z.iadd dX5_copy_175 ?_
    refine Z.ialdH dX5_copy_176 a5_seenY H (fun v3 H => ?_)
    refine Z.iastH dX5_copy_177 a5_seenY H (fun M4 H => ?_)
    refine Z.aload_n dX5_copy_178 0 rfl ?_
    refine Z.get dX5_copy_179 inX5 (hc := rfl) (by decide) c5 28 (by decide) kw707 rfl rfl ?_
    refine Z.bipush (v := 8) dX5_copy_182 (by decide) ?_
    refine Z.iload_n dX5_copy_184 2 rfl ?_
    refine Z.imul dX5_copy_185 ?_
    refine Z.iload_n dX5_copy_186 3 rfl ?_
    refine Z.iadd dX5_copy_187 ?_
    refine Z.aload_n dX5_copy_188 0 rfl ?_
    refine Z.get dX5_copy_189 inX5 (hc := rfl) (by decide) c5 28 (by decide) kw707 rfl rfl ?_
    refine Z.bipush (v := 8) dX5_copy_192 (by decide) ?_
    refine Z.iload_n dX5_copy_194 1 rfl ?_
    refine Z.imul dX5_copy_195 ?_
    refine Z.iload_n dX5_copy_196 3 rfl ?_
    refine Z.iadd dX5_copy_197 ?_
    refine Z.ialdH dX5_copy_198 a5_seenT H (fun v5 H => ?_)
    refine Z.iastH dX5_copy_199 a5_seenT H (fun M6 H => ?_)
    refine Z.aload_n dX5_copy_200 0 rfl ?_
    refine Z.get dX5_copy_201 inX5 (hc := rfl) (by decide) c5 29 (by decide) kw708 rfl rfl ?_
    refine Z.bipush (v := 8) dX5_copy_204 (by decide) ?_
    refine Z.iload_n dX5_copy_206 2 rfl ?_
    refine Z.imul dX5_copy_207 ?_
    refine Z.iload_n dX5_copy_208 3 rfl ?_
    refine Z.iadd dX5_copy_209 ?_
    refine Z.aload_n dX5_copy_210 0 rfl ?_
    refine Z.get dX5_copy_211 inX5 (hc := rfl) (by decide) c5 29 (by decide) kw708 rfl rfl ?_
    refine Z.bipush (v := 8) dX5_copy_214 (by decide) ?_
    refine Z.iload_n dX5_copy_216 1 rfl ?_
    refine Z.imul dX5_copy_217 ?_
    refine Z.iload_n dX5_copy_218 3 rfl ?_
    refine Z.iadd dX5_copy_219 ?_
    refine Z.ialdH dX5_copy_220 a5_seenMark H (fun v7 H => ?_)
    refine Z.iastH dX5_copy_221 a5_seenMark H (fun M8 H => ?_)
    refine Z.iinc (v := x3 + 1) (lv' := [(3, .int (x3 + 1)), (0, .ref (eA E (42))), (1, .int (x1)), (2, .int (x2))]) dX5_copy_222 3 rfl rfl (by decide) rfl ?_
    refine Z.goto dX5_copy_225 ?_
    refine Z.sub [1, 2, 3, 0] rfl ?_
    exact hk128 (x1) (x2) (x3 + 1) M8  H
theorem tX5_copy_128L {l : Launch} {E : Env5}     {M9 : Mem}  : ∀ (n : Nat) (x1 : Int32) (x2 : Int32) (x3 : Int32) (M : Mem), fX5_copy_128L   n x1 x2 x3 M = some M9 → Z l E RX5 cX5_copy 4 none 0 128 [(0, .ref (eA E (42))), (1, .int (x1)), (2, .int (x2)), (3, .int (x3))] [] M (PR none M9) := by
  intro n
  induction n with
  | zero => intro x1 x2 x3 M H; exact absurd H (by simp [fX5_copy_128L])
  | succ n ih => intro x1 x2 x3 M H; exact tX5_copy_128  x1 x2 x3 M  (fun x1 x2 x3 M H => ih x1 x2 x3 M H) H
set_option maxRecDepth 100000 in
theorem tX5_copy_26 {l : Launch} {E : Env5}   {k26 : Int32 → Int32 → Int32 → Mem → Option Mem} (x1 : Int32) (x2 : Int32) (x3 : Int32) (M : Mem) {M9 : Mem} (hk26 : ∀ (x1 : Int32) (x2 : Int32) (x3 : Int32) (M : Mem), k26 x1 x2 x3 M = some M9 → Z l E RX5 cX5_copy 4 none 0 26 [(0, .ref (eA E (42))), (1, .int (x1)), (2, .int (x2)), (3, .int (x3))] [] M (PR none M9)) (H : fX5_copy_26B k26 x1 x2 x3 M = some M9) : Z l E RX5 cX5_copy 4 none 0 26 [(0, .ref (eA E (42))), (1, .int (x1)), (2, .int (x2)), (3, .int (x3))] [] M (PR none M9) := by
  unfold fX5_copy_26B at H
  refine Z.iload_n dX5_copy_26 3 rfl ?_
  refine Z.bipush (v := 20) dX5_copy_27 (by decide) ?_
  refine Z.icmp_geH dX5_copy_29 H (fun br29 H => ?_) (fun br29 H => ?_)
  · refine Z.iconst (v := 0) dX5_copy_126 (by decide) ?_
    refine Z.istore_n (lv' := [(3, .int (0)), (0, .ref (eA E (42))), (1, .int (x1)), (2, .int (x2))]) dX5_copy_127 (by decide) rfl ?_
    refine Z.sub [1, 2, 3, 0] rfl ?_
    exact tX5_copy_128L   FU (x1) (x2) (0) M H
  · refine Z.aload_n dX5_copy_32 0 rfl ?_
    refine Z.get dX5_copy_33 inX5 (hc := rfl) (by decide) c5 21 (by decide) kw700 rfl rfl ?_
    refine Z.bipush (v := 20) dX5_copy_36 (by decide) ?_
    refine Z.iload_n dX5_copy_38 2 rfl ?_
    refine Z.imul dX5_copy_39 ?_
    refine Z.iload_n dX5_copy_40 3 rfl ?_
    refine Z.iadd dX5_copy_41 ?_
    refine Z.aload_n dX5_copy_42 0 rfl ?_
    refine Z.get dX5_copy_43 inX5 (hc := rfl) (by decide) c5 21 (by decide) kw700 rfl rfl ?_
    refine Z.bipush (v := 20) dX5_copy_46 (by decide) ?_
    refine Z.iload_n dX5_copy_48 1 rfl ?_
    refine Z.imul dX5_copy_49 ?_
    refine Z.iload_n dX5_copy_50 3 rfl ?_
    refine Z.iadd dX5_copy_51 ?_
    refine Z.ialdH dX5_copy_52 a5_factA H (fun v1 H => ?_)
    refine Z.iastH dX5_copy_53 a5_factA H (fun M2 H => ?_)
    refine Z.aload_n dX5_copy_54 0 rfl ?_
    refine Z.get dX5_copy_55 inX5 (hc := rfl) (by decide) c5 22 (by decide) kw701 rfl rfl ?_
    refine Z.bipush (v := 20) dX5_copy_58 (by decide) ?_
    refine Z.iload_n dX5_copy_60 2 rfl ?_
    refine Z.imul dX5_copy_61 ?_
    refine Z.iload_n dX5_copy_62 3 rfl ?_
    refine Z.iadd dX5_copy_63 ?_
    refine Z.aload_n dX5_copy_64 0 rfl ?_
    refine Z.get dX5_copy_65 inX5 (hc := rfl) (by decide) c5 22 (by decide) kw701 rfl rfl ?_
    refine Z.bipush (v := 20) dX5_copy_68 (by decide) ?_
    refine Z.iload_n dX5_copy_70 1 rfl ?_
    refine Z.imul dX5_copy_71 ?_
    refine Z.iload_n dX5_copy_72 3 rfl ?_
    refine Z.iadd dX5_copy_73 ?_
    refine Z.ialdH dX5_copy_74 a5_factU H (fun v3 H => ?_)
    refine Z.iastH dX5_copy_75 a5_factU H (fun M4 H => ?_)
    refine Z.aload_n dX5_copy_76 0 rfl ?_
    refine Z.get dX5_copy_77 inX5 (hc := rfl) (by decide) c5 23 (by decide) kw702 rfl rfl ?_
    refine Z.bipush (v := 20) dX5_copy_80 (by decide) ?_
    refine Z.iload_n dX5_copy_82 2 rfl ?_
    refine Z.imul dX5_copy_83 ?_
    refine Z.iload_n dX5_copy_84 3 rfl ?_
    refine Z.iadd dX5_copy_85 ?_
    refine Z.aload_n dX5_copy_86 0 rfl ?_
    refine Z.get dX5_copy_87 inX5 (hc := rfl) (by decide) c5 23 (by decide) kw702 rfl rfl ?_
    refine Z.bipush (v := 20) dX5_copy_90 (by decide) ?_
    refine Z.iload_n dX5_copy_92 1 rfl ?_
    refine Z.imul dX5_copy_93 ?_
    refine Z.iload_n dX5_copy_94 3 rfl ?_
    refine Z.iadd dX5_copy_95 ?_
    refine Z.ialdH dX5_copy_96 a5_factB H (fun v5 H => ?_)
    refine Z.iastH dX5_copy_97 a5_factB H (fun M6 H => ?_)
    refine Z.aload_n dX5_copy_98 0 rfl ?_
    refine Z.get dX5_copy_99 inX5 (hc := rfl) (by decide) c5 24 (by decide) kw703 rfl rfl ?_
    refine Z.bipush (v := 20) dX5_copy_102 (by decide) ?_
    refine Z.iload_n dX5_copy_104 2 rfl ?_
    refine Z.imul dX5_copy_105 ?_
    refine Z.iload_n dX5_copy_106 3 rfl ?_
    refine Z.iadd dX5_copy_107 ?_
    refine Z.aload_n dX5_copy_108 0 rfl ?_
    refine Z.get dX5_copy_109 inX5 (hc := rfl) (by decide) c5 24 (by decide) kw703 rfl rfl ?_
    refine Z.bipush (v := 20) dX5_copy_112 (by decide) ?_
    refine Z.iload_n dX5_copy_114 1 rfl ?_
    refine Z.imul dX5_copy_115 ?_
    refine Z.iload_n dX5_copy_116 3 rfl ?_
    refine Z.iadd dX5_copy_117 ?_
    refine Z.ialdH dX5_copy_118 a5_factV H (fun v7 H => ?_)
    refine Z.iastH dX5_copy_119 a5_factV H (fun M8 H => ?_)
    refine Z.iinc (v := x3 + 1) (lv' := [(3, .int (x3 + 1)), (0, .ref (eA E (42))), (1, .int (x1)), (2, .int (x2))]) dX5_copy_120 3 rfl rfl (by decide) rfl ?_
    refine Z.goto dX5_copy_123 ?_
    refine Z.sub [1, 2, 3, 0] rfl ?_
    exact hk26 (x1) (x2) (x3 + 1) M8  H
theorem tX5_copy_26L {l : Launch} {E : Env5}     {M9 : Mem}  : ∀ (n : Nat) (x1 : Int32) (x2 : Int32) (x3 : Int32) (M : Mem), fX5_copy_26L   n x1 x2 x3 M = some M9 → Z l E RX5 cX5_copy 4 none 0 26 [(0, .ref (eA E (42))), (1, .int (x1)), (2, .int (x2)), (3, .int (x3))] [] M (PR none M9) := by
  intro n
  induction n with
  | zero => intro x1 x2 x3 M H; exact absurd H (by simp [fX5_copy_26L])
  | succ n ih => intro x1 x2 x3 M H; exact tX5_copy_26  x1 x2 x3 M  (fun x1 x2 x3 M H => ih x1 x2 x3 M H) H
set_option maxRecDepth 100000 in
theorem tX5_copy_0 {l : Launch} {E : Env5}    (x1 : Int32) (x2 : Int32) (M : Mem) {M9 : Mem}  (H : fX5_copy  x1 x2 M = some M9) : Z l E RX5 cX5_copy 4 none 0 0 [(0, .ref (eA E (42))), (1, .int (x1)), (2, .int (x2))] [] M (PR none M9) := by
  unfold fX5_copy at H
  refine Z.aload_n dX5_copy_0 0 rfl ?_
  refine Z.get dX5_copy_1 inX5 (hc := rfl) (by decide) c5 20 (by decide) kw699 rfl rfl ?_
  refine Z.iload_n dX5_copy_4 2 rfl ?_
  refine Z.aload_n dX5_copy_5 0 rfl ?_
  refine Z.get dX5_copy_6 inX5 (hc := rfl) (by decide) c5 20 (by decide) kw699 rfl rfl ?_
  refine Z.iload_n dX5_copy_9 1 rfl ?_
  refine Z.ialdH dX5_copy_10 a5_facts H (fun v1 H => ?_)
  refine Z.iastH dX5_copy_11 a5_facts H (fun M2 H => ?_)
  refine Z.aload_n dX5_copy_12 0 rfl ?_
  refine Z.get dX5_copy_13 inX5 (hc := rfl) (by decide) c5 25 (by decide) kw704 rfl rfl ?_
  refine Z.iload_n dX5_copy_16 2 rfl ?_
  refine Z.aload_n dX5_copy_17 0 rfl ?_
  refine Z.get dX5_copy_18 inX5 (hc := rfl) (by decide) c5 25 (by decide) kw704 rfl rfl ?_
  refine Z.iload_n dX5_copy_21 1 rfl ?_
  refine Z.ialdH dX5_copy_22 a5_seen H (fun v3 H => ?_)
  refine Z.iastH dX5_copy_23 a5_seen H (fun M4 H => ?_)
  refine Z.iconst (v := 0) dX5_copy_24 (by decide) ?_
  refine Z.istore_n (lv' := [(3, .int (0)), (0, .ref (eA E (42))), (1, .int (x1)), (2, .int (x2))]) dX5_copy_25 (by decide) rfl ?_
  refine Z.sub [1, 2, 3, 0] rfl ?_
  exact tX5_copy_26L   FU (x1) (x2) (0) M4 H
theorem kX5_copy {l : Launch} {E : Env5}   (x1 : Int32) (x2 : Int32) (M : Mem) {M9 : Mem} (H : fX5_copy x1 x2 M = some M9) : Cn l E yX5_copy cX5_copy 4 none 0 [.ref (eA E (42)), .int (x1), .int (x2)] M (PR none M9) := Cn.ofZ rfl (Nat.le_of_ble_eq_true rfl) rfl (tX5_copy_0  x1 x2 M H)
theorem hdX5_copy : yX5_copy.cls ≠ "java/lang/invoke/MethodHandle" ∧ yX5_copy.cls ≠ "java/lang/invoke/VarHandle" ∧ (parseMethodDescriptor yX5_copy.desc).map (fun d => d.parameters.length) = some 2 := by decide +kernel

set_option maxRecDepth 100000 in
theorem tX5_keep_0 {l : Launch} {E : Env5}    (x1 : Int32) (M : Mem) {v9 : Int32} {M9 : Mem}  (H : fX5_keep  x1 M = some (v9, M9)) : Z l E RX5 cX5_keep 2 (some .int) 1 0 [(0, .ref (eA E (42))), (1, .int (x1))] [] M (PR (some (.int v9)) M9) := by
  unfold fX5_keep at H
  refine Z.iload_n dX5_keep_0 1 rfl ?_
  refine Z.iconst (v := 0) dX5_keep_1 (by decide) ?_
  refine Z.iconst (v := 1) dX5_keep_2 (by decide) ?_
  refine bindC H (fun v1 hv1 H => ?_)
  refine Z.callS (As := [.int (x1), .int (0), .int (1)]) (rest := []) (st' := [.int (v1)]) dX5_keep_3 (kX5_in  (x1) (0) (1) M hv1) kw798 kw799 kw7 kw800 hdX5_in (by decide) (by decide) rfl rfl (Nat.le_of_ble_eq_true rfl) rfl ?_
  refine Z.if_neH dX5_keep_6 H (fun br6 H => ?_) (fun br6 H => ?_)
  · refine Z.aload_n dX5_keep_11 0 rfl ?_
    refine Z.iconst (v := 0) dX5_keep_12 (by decide) ?_
    refine Z.iconst (v := 1) dX5_keep_13 (by decide) ?_
    refine Z.iload_n dX5_keep_14 1 rfl ?_
    refine Z.iadd dX5_keep_15 ?_
    refine bindC H (fun v2 hv2 H => ?_)
    refine Z.callV (As := [.int (0), .int (1 + x1)]) (rest := []) (st' := []) dX5_keep_16 (kX5_copy  (0) (1 + x1) M hv2) kw1060 kw1062 ks62 kw7 kw1063 hdX5_copy (by decide) c5 (hc := rfl) (by decide) (by decide) rfl rfl (Nat.le_of_ble_eq_true rfl) rfl ?_
    refine Z.aload_n dX5_keep_19 0 rfl ?_
    refine Z.get dX5_keep_20 inX5 (hc := rfl) (by decide) c5 31 (by decide) kw710 rfl rfl ?_
    refine Z.iload_n dX5_keep_23 1 rfl ?_
    refine Z.iconst (v := 1) dX5_keep_24 (by decide) ?_
    refine Z.zastH dX5_keep_25 a5_isKept H (fun M3 H => ?_)
    refine Z.aload_n dX5_keep_26 0 rfl ?_
    refine Z.get dX5_keep_27 inX5 (hc := rfl) (by decide) c5 20 (by decide) kw699 rfl rfl ?_
    refine Z.iconst (v := 0) dX5_keep_30 (by decide) ?_
    refine Z.ialdH dX5_keep_31 a5_facts H (fun v4 H => ?_)
    exact Z.iret rfl dX5_keep_32 (retW H)
  · refine Z.iconst (v := (-1)) dX5_keep_9 (by decide) ?_
    exact Z.iret rfl dX5_keep_10 (retW H)
theorem kX5_keep {l : Launch} {E : Env5}   (x1 : Int32) (M : Mem) {v9 : Int32} {M9 : Mem} (H : fX5_keep x1 M = some (v9, M9)) : Cn l E yX5_keep cX5_keep 2 (some .int) 1 [.ref (eA E (42)), .int (x1)] M (PR (some (.int v9)) M9) := Cn.ofZ rfl (Nat.le_of_ble_eq_true rfl) rfl (tX5_keep_0  x1 M H)
theorem hdX5_keep : yX5_keep.cls ≠ "java/lang/invoke/MethodHandle" ∧ yX5_keep.cls ≠ "java/lang/invoke/VarHandle" ∧ (parseMethodDescriptor yX5_keep.desc).map (fun d => d.parameters.length) = some 1 := by decide +kernel

set_option maxRecDepth 100000 in
theorem tX5_back_0 {l : Launch} {E : Env5}    (x1 : Int32) (M : Mem) {v9 : Int32} {M9 : Mem}  (H : fX5_back  x1 M = some (v9, M9)) : Z l E RX5 cX5_back 2 (some .int) 1 0 [(0, .ref (eA E (42))), (1, .int (x1))] [] M (PR (some (.int v9)) M9) := by
  unfold fX5_back at H
  refine Z.iload_n dX5_back_0 1 rfl ?_
  refine Z.iconst (v := 0) dX5_back_1 (by decide) ?_
  refine Z.iconst (v := 1) dX5_back_2 (by decide) ?_
  refine bindC H (fun v1 hv1 H => ?_)
  refine Z.callS (As := [.int (x1), .int (0), .int (1)]) (rest := []) (st' := [.int (v1)]) dX5_back_3 (kX5_in  (x1) (0) (1) M hv1) kw798 kw799 kw7 kw800 hdX5_in (by decide) (by decide) rfl rfl (Nat.le_of_ble_eq_true rfl) rfl ?_
  refine Z.if_neH dX5_back_6 H (fun br6 H => ?_) (fun br6 H => ?_)
  · refine Z.aload_n dX5_back_11 0 rfl ?_
    refine Z.get dX5_back_12 inX5 (hc := rfl) (by decide) c5 31 (by decide) kw710 rfl rfl ?_
    refine Z.iload_n dX5_back_15 1 rfl ?_
    refine Z.zaldH dX5_back_16 a5_isKept H (fun v2 H => ?_)
    refine Z.if_neH dX5_back_17 H (fun br17 H => ?_) (fun br17 H => ?_)
    · refine Z.aload_n dX5_back_23 0 rfl ?_
      refine Z.iconst (v := 1) dX5_back_24 (by decide) ?_
      refine Z.iload_n dX5_back_25 1 rfl ?_
      refine Z.iadd dX5_back_26 ?_
      refine Z.iconst (v := 0) dX5_back_27 (by decide) ?_
      refine bindC H (fun v3 hv3 H => ?_)
      refine Z.callV (As := [.int (1 + x1), .int (0)]) (rest := []) (st' := []) dX5_back_28 (kX5_copy  (1 + x1) (0) M hv3) kw1060 kw1062 ks62 kw7 kw1063 hdX5_copy (by decide) c5 (hc := rfl) (by decide) (by decide) rfl rfl (Nat.le_of_ble_eq_true rfl) rfl ?_
      refine Z.aload_n dX5_back_31 0 rfl ?_
      refine Z.get dX5_back_32 inX5 (hc := rfl) (by decide) c5 20 (by decide) kw699 rfl rfl ?_
      refine Z.iconst (v := 0) dX5_back_35 (by decide) ?_
      refine Z.ialdH dX5_back_36 a5_facts H (fun v4 H => ?_)
      exact Z.iret rfl dX5_back_37 (retW H)
    · refine Z.bipush (v := (-2)) dX5_back_20 (by decide) ?_
      exact Z.iret rfl dX5_back_22 (retW H)
  · refine Z.iconst (v := (-1)) dX5_back_9 (by decide) ?_
    exact Z.iret rfl dX5_back_10 (retW H)
theorem kX5_back {l : Launch} {E : Env5}   (x1 : Int32) (M : Mem) {v9 : Int32} {M9 : Mem} (H : fX5_back x1 M = some (v9, M9)) : Cn l E yX5_back cX5_back 2 (some .int) 1 [.ref (eA E (42)), .int (x1)] M (PR (some (.int v9)) M9) := Cn.ofZ rfl (Nat.le_of_ble_eq_true rfl) rfl (tX5_back_0  x1 M H)
theorem hdX5_back : yX5_back.cls ≠ "java/lang/invoke/MethodHandle" ∧ yX5_back.cls ≠ "java/lang/invoke/VarHandle" ∧ (parseMethodDescriptor yX5_back.desc).map (fun d => d.parameters.length) = some 1 := by decide +kernel

set_option maxRecDepth 100000 in
theorem tX5_count_26 {l : Launch} {E : Env5}   {k4 : Int32 → Int32 → Int32 → Option Int32} (x1 : Int32) (x3 : Int32) (s0 : Int32) (s1 : Int32) (M : Mem) {v9 : Int32} (hk4 : ∀ (x1 : Int32) (x2 : Int32) (x3 : Int32), k4 x1 x2 x3 = some v9 → Z l E RX5 cX5_count 4 (some .int) 0 4 [(0, .ref (eA E (42))), (1, .int (x1)), (2, .int (x2)), (3, .int (x3))] [] M (PR (some (.int v9)) M)) (H : fX5_count_26 k4 x1 x3 s0 s1 M = some v9) : Z l E RX5 cX5_count 4 (some .int) 0 26 [(0, .ref (eA E (42))), (1, .int (x1)), (3, .int (x3))] [.int (s0), .int (s1)] M (PR (some (.int v9)) M) := by
  unfold fX5_count_26 at H
  refine Z.iadd dX5_count_26 ?_
  refine Z.istore_n (lv' := [(2, .int (s1 + s0)), (0, .ref (eA E (42))), (1, .int (x1)), (3, .int (x3))]) dX5_count_27 (by decide) rfl ?_
  refine Z.iinc (v := x3 + 1) (lv' := [(3, .int (x3 + 1)), (2, .int (s1 + s0)), (0, .ref (eA E (42))), (1, .int (x1))]) dX5_count_28 3 rfl rfl (by decide) rfl ?_
  refine Z.goto dX5_count_31 ?_
  refine Z.sub [2, 3, 1, 0] rfl ?_
  exact hk4 (x1) (s1 + s0) (x3 + 1) H
set_option maxRecDepth 100000 in
theorem tX5_count_4 {l : Launch} {E : Env5}   {k4 : Int32 → Int32 → Int32 → Option Int32} (x1 : Int32) (x2 : Int32) (x3 : Int32) (M : Mem) {v9 : Int32} (hk4 : ∀ (x1 : Int32) (x2 : Int32) (x3 : Int32), k4 x1 x2 x3 = some v9 → Z l E RX5 cX5_count 4 (some .int) 0 4 [(0, .ref (eA E (42))), (1, .int (x1)), (2, .int (x2)), (3, .int (x3))] [] M (PR (some (.int v9)) M)) (H : fX5_count_4B k4 x1 x2 x3 M = some v9) : Z l E RX5 cX5_count 4 (some .int) 0 4 [(0, .ref (eA E (42))), (1, .int (x1)), (2, .int (x2)), (3, .int (x3))] [] M (PR (some (.int v9)) M) := by
  unfold fX5_count_4B at H
  refine Z.iload_n dX5_count_4 3 rfl ?_
  refine Z.sipush (v := 144) dX5_count_5 (by decide) ?_
  refine Z.icmp_geH dX5_count_8 H (fun br8 H => ?_) (fun br8 H => ?_)
  · refine Z.iload_n dX5_count_34 1 rfl ?_
    refine iteE H (fun e0 H => ?_) (fun e0 H => ?_)
    · refine Z.tabC (c := 0) (tgt := 80) e0 dX5_count_35 (by decide) (by decide) rfl rfl ?_
      refine Z.aload_n dX5_count_80 0 rfl ?_
      refine Z.get dX5_count_81 inX5 (hc := rfl) (by decide) c5 6 (by decide) kw685 rfl rfl ?_
      refine Z.iconst (v := 0) dX5_count_84 (by decide) ?_
      refine Z.ialdH dX5_count_85 a5_people H (fun v1 H => ?_)
      exact Z.iret rfl dX5_count_86 (retR H)
    refine iteE H (fun e1 H => ?_) (fun e1 H => ?_)
    · refine Z.tabC (c := 1) (tgt := 87) e1 dX5_count_35 (by decide) (by decide) rfl rfl ?_
      refine Z.aload_n dX5_count_87 0 rfl ?_
      refine Z.get dX5_count_88 inX5 (hc := rfl) (by decide) c5 8 (by decide) kw687 rfl rfl ?_
      refine Z.iconst (v := 0) dX5_count_91 (by decide) ?_
      refine Z.ialdH dX5_count_92 a5_pictures H (fun v2 H => ?_)
      exact Z.iret rfl dX5_count_93 (retR H)
    refine iteE H (fun e2 H => ?_) (fun e2 H => ?_)
    · refine Z.tabC (c := 2) (tgt := 94) e2 dX5_count_35 (by decide) (by decide) rfl rfl ?_
      refine Z.iload_n dX5_count_94 2 rfl ?_
      exact Z.iret rfl dX5_count_95 (retR H)
    refine iteE H (fun e3 H => ?_) (fun e3 H => ?_)
    · refine Z.tabC (c := 3) (tgt := 96) e3 dX5_count_35 (by decide) (by decide) rfl rfl ?_
      refine Z.aload_n dX5_count_96 0 rfl ?_
      refine Z.get dX5_count_97 inX5 (hc := rfl) (by decide) c5 20 (by decide) kw699 rfl rfl ?_
      refine Z.iconst (v := 0) dX5_count_100 (by decide) ?_
      refine Z.ialdH dX5_count_101 a5_facts H (fun v3 H => ?_)
      exact Z.iret rfl dX5_count_102 (retR H)
    refine iteE H (fun e4 H => ?_) (fun e4 H => ?_)
    · refine Z.tabC (c := 4) (tgt := 103) e4 dX5_count_35 (by decide) (by decide) rfl rfl ?_
      refine Z.aload_n dX5_count_103 0 rfl ?_
      refine Z.get dX5_count_104 inX5 (hc := rfl) (by decide) c5 25 (by decide) kw704 rfl rfl ?_
      refine Z.iconst (v := 0) dX5_count_107 (by decide) ?_
      refine Z.ialdH dX5_count_108 a5_seen H (fun v4 H => ?_)
      exact Z.iret rfl dX5_count_109 (retR H)
    refine iteE H (fun e5 H => ?_) (fun e5 H => ?_)
    · refine Z.tabC (c := 5) (tgt := 110) e5 dX5_count_35 (by decide) (by decide) rfl rfl ?_
      refine Z.aload_n dX5_count_110 0 rfl ?_
      refine Z.get dX5_count_111 inX5 (hc := rfl) (by decide) c5 2 (by decide) kw681 rfl rfl ?_
      exact Z.iret rfl dX5_count_114 (retR H)
    refine iteE H (fun e6 H => ?_) (fun e6 H => ?_)
    · refine Z.tabC (c := 6) (tgt := 115) e6 dX5_count_35 (by decide) (by decide) rfl rfl ?_
      refine Z.aload_n dX5_count_115 0 rfl ?_
      refine Z.get dX5_count_116 inX5 (hc := rfl) (by decide) c5 3 (by decide) kw682 rfl rfl ?_
      refine Z.iconst (v := 0) dX5_count_119 (by decide) ?_
      refine Z.ialdH dX5_count_120 a5_wides H (fun v5 H => ?_)
      exact Z.iret rfl dX5_count_121 (retR H)
    refine iteE H (fun e7 H => ?_) (fun e7 H => ?_)
    · refine Z.tabC (c := 7) (tgt := 122) e7 dX5_count_35 (by decide) (by decide) rfl rfl ?_
      refine Z.aload_n dX5_count_122 0 rfl ?_
      refine Z.get dX5_count_123 inX5 (hc := rfl) (by decide) c5 4 (by decide) kw683 rfl rfl ?_
      refine Z.iconst (v := 0) dX5_count_126 (by decide) ?_
      refine Z.ialdH dX5_count_127 a5_highs H (fun v6 H => ?_)
      exact Z.iret rfl dX5_count_128 (retR H)
    refine Z.tabOut (tgt := 129) dX5_count_35 (by have := @Int32.toInt_inj; have z0 := sw_ne (k := 0) rfl e0; have z1 := sw_ne (k := 1) rfl e1; have z2 := sw_ne (k := 2) rfl e2; have z3 := sw_ne (k := 3) rfl e3; have z4 := sw_ne (k := 4) rfl e4; have z5 := sw_ne (k := 5) rfl e5; have z6 := sw_ne (k := 6) rfl e6; have z7 := sw_ne (k := 7) rfl e7; omega) rfl ?_
    refine Z.iconst (v := (-1)) dX5_count_129 (by decide) ?_
    exact Z.iret rfl dX5_count_130 (retR H)
  · refine Z.iload_n dX5_count_11 2 rfl ?_
    refine Z.aload_n dX5_count_12 0 rfl ?_
    refine Z.get dX5_count_13 inX5 (hc := rfl) (by decide) c5 5 (by decide) kw684 rfl rfl ?_
    refine Z.iload_n dX5_count_16 3 rfl ?_
    refine Z.zaldH dX5_count_17 a5_walls H (fun v7 H => ?_)
    refine Z.if_eqH dX5_count_18 H (fun br18 H => ?_) (fun br18 H => ?_)
    · refine Z.iconst (v := 0) dX5_count_25 (by decide) ?_
      refine Z.sub [0, 1, 3] rfl ?_
      exact tX5_count_26  (x1) (x3) (0) (x2) M hk4 H
    · refine Z.iconst (v := 1) dX5_count_21 (by decide) ?_
      refine Z.goto dX5_count_22 ?_
      refine Z.sub [0, 1, 3] rfl ?_
      exact tX5_count_26  (x1) (x3) (1) (x2) M hk4 H
theorem tX5_count_4L {l : Launch} {E : Env5}    (M : Mem) {v9 : Int32}  : ∀ (n : Nat) (x1 : Int32) (x2 : Int32) (x3 : Int32), fX5_count_4L   M n x1 x2 x3 = some v9 → Z l E RX5 cX5_count 4 (some .int) 0 4 [(0, .ref (eA E (42))), (1, .int (x1)), (2, .int (x2)), (3, .int (x3))] [] M (PR (some (.int v9)) M) := by
  intro n
  induction n with
  | zero => intro x1 x2 x3 H; exact absurd H (by simp [fX5_count_4L])
  | succ n ih => intro x1 x2 x3 H; exact tX5_count_4  x1 x2 x3 M  (fun x1 x2 x3 H => ih x1 x2 x3 H) H
set_option maxRecDepth 100000 in
theorem tX5_count_0 {l : Launch} {E : Env5}    (x1 : Int32) (M : Mem) {v9 : Int32}  (H : fX5_count  x1 M = some v9) : Z l E RX5 cX5_count 4 (some .int) 0 0 [(0, .ref (eA E (42))), (1, .int (x1))] [] M (PR (some (.int v9)) M) := by
  unfold fX5_count at H
  refine Z.iconst (v := 0) dX5_count_0 (by decide) ?_
  refine Z.istore_n (lv' := [(2, .int (0)), (0, .ref (eA E (42))), (1, .int (x1))]) dX5_count_1 (by decide) rfl ?_
  refine Z.iconst (v := 0) dX5_count_2 (by decide) ?_
  refine Z.istore_n (lv' := [(3, .int (0)), (2, .int (0)), (0, .ref (eA E (42))), (1, .int (x1))]) dX5_count_3 (by decide) rfl ?_
  refine Z.sub [2, 3, 1, 0] rfl ?_
  exact tX5_count_4L  M  FU (x1) (0) (0) H
theorem kX5_count {l : Launch} {E : Env5}   (x1 : Int32) (M : Mem) {v9 : Int32} (H : fX5_count x1 M = some v9) : Cn l E yX5_count cX5_count 4 (some .int) 0 [.ref (eA E (42)), .int (x1)] M (PR (some (.int v9)) M) := Cn.ofZ rfl (Nat.le_of_ble_eq_true rfl) rfl (tX5_count_0  x1 M H)
theorem hdX5_count : yX5_count.cls ≠ "java/lang/invoke/MethodHandle" ∧ yX5_count.cls ≠ "java/lang/invoke/VarHandle" ∧ (parseMethodDescriptor yX5_count.desc).map (fun d => d.parameters.length) = some 1 := by decide +kernel

set_option maxRecDepth 100000 in
theorem tX5_trace_0 {l : Launch} {E : Env5}     (M : Mem) {v9 : Int64}  (H : fX5_trace   M = some v9) : Z l E RX5 cX5_trace 1 (some .long) 0 0 [(0, .ref (eA E (42)))] [] M (PR (some (.long v9)) M) := by
  unfold fX5_trace at H
  refine Z.aload_n dX5_trace_0 0 rfl ?_
  refine Z.get dX5_trace_1 inX5 (hc := rfl) (by decide) c5 0 (by decide) kw679 rfl rfl ?_
  exact Z.lret rfl dX5_trace_4 (retRL H)
theorem kX5_trace {l : Launch} {E : Env5}    (M : Mem) {v9 : Int64} (H : fX5_trace  M = some v9) : Cn l E yX5_trace cX5_trace 1 (some .long) 0 [.ref (eA E (42))] M (PR (some (.long v9)) M) := Cn.ofZ rfl (Nat.le_of_ble_eq_true rfl) rfl (tX5_trace_0   M H)
theorem hdX5_trace : yX5_trace.cls ≠ "java/lang/invoke/MethodHandle" ∧ yX5_trace.cls ≠ "java/lang/invoke/VarHandle" ∧ (parseMethodDescriptor yX5_trace.desc).map (fun d => d.parameters.length) = some 0 := by decide +kernel

set_option maxRecDepth 100000 in
theorem tX2_peopleNear_38 {l : Launch} {E : Env5} {b : Nat} (hb : isSc b) {k12 : Int32 → Int32 → Int32 → Int32 → Int32 → Int32 → Mem → Option (Int32 × Mem)} {k38 : Int32 → Int32 → Int32 → Int32 → Int32 → Int32 → Int32 → Mem → Option (Int32 × Mem)} (x1 : Int32) (x2 : Int32) (x3 : Int32) (x4 : Int32) (x5 : Int32) (x6 : Int32) (x7 : Int32) (M : Mem) {v9 : Int32} {M9 : Mem} (hk12 : ∀ (x1 : Int32) (x2 : Int32) (x3 : Int32) (x4 : Int32) (x5 : Int32) (x6 : Int32) (M : Mem), k12 x1 x2 x3 x4 x5 x6 M = some (v9, M9) → Z l E RX2 cX2_peopleNear 8 (some .int) 4 12 [(0, .ref (eA E (b))), (1, .int (x1)), (2, .int (x2)), (3, .int (x3)), (4, .int (x4)), (5, .int (x5)), (6, .int (x6))] [] M (PR (some (.int v9)) M9)) (hk38 : ∀ (x1 : Int32) (x2 : Int32) (x3 : Int32) (x4 : Int32) (x5 : Int32) (x6 : Int32) (x7 : Int32) (M : Mem), k38 x1 x2 x3 x4 x5 x6 x7 M = some (v9, M9) → Z l E RX2 cX2_peopleNear 8 (some .int) 4 38 [(0, .ref (eA E (b))), (1, .int (x1)), (2, .int (x2)), (3, .int (x3)), (4, .int (x4)), (5, .int (x5)), (6, .int (x6)), (7, .int (x7))] [] M (PR (some (.int v9)) M9)) (H : fX2_peopleNear_38B k12 k38 b x1 x2 x3 x4 x5 x6 x7 M = some (v9, M9)) : Z l E RX2 cX2_peopleNear 8 (some .int) 4 38 [(0, .ref (eA E (b))), (1, .int (x1)), (2, .int (x2)), (3, .int (x3)), (4, .int (x4)), (5, .int (x5)), (6, .int (x6)), (7, .int (x7))] [] M (PR (some (.int v9)) M9) := by
  unfold fX2_peopleNear_38B at H
  refine Z.iload dX2_peopleNear_38 7 rfl ?_
  refine Z.aload_n dX2_peopleNear_40 0 rfl ?_
  refine Z.get dX2_peopleNear_41 inX2 (hc := rfl) (cS hb) (c2 hb) 3 (by decide) kw118 rfl rfl ?_
  refine Z.iconst (v := 1) dX2_peopleNear_44 (by decide) ?_
  refine Z.isub dX2_peopleNear_45 ?_
  refine Z.iload_n dX2_peopleNear_46 1 rfl ?_
  refine Z.iload_n dX2_peopleNear_47 3 rfl ?_
  refine Z.iadd dX2_peopleNear_48 ?_
  refine Z.mmin dX2_peopleNear_49 kw281 kw229 kw8 km_min (by decide) (Nat.le_of_ble_eq_true rfl) ?_
  refine Z.icmp_gtH dX2_peopleNear_52 H (fun br52 H => ?_) (fun br52 H => ?_)
  · refine Z.iinc (v := x6 + 1) (lv' := [(6, .int (x6 + 1)), (0, .ref (eA E (b))), (1, .int (x1)), (2, .int (x2)), (3, .int (x3)), (4, .int (x4)), (5, .int (x5)), (7, .int (x7))]) dX2_peopleNear_76 6 rfl rfl (by decide) rfl ?_
    refine Z.goto dX2_peopleNear_79 ?_
    refine Z.sub [1, 2, 3, 4, 5, 6, 0] rfl ?_
    exact hk12 (x1) (x2) (x3) (x4) (x5) (x6 + 1) M  H
  · refine Z.iload dX2_peopleNear_55 5 rfl ?_
    refine Z.aload_n dX2_peopleNear_57 0 rfl ?_
    refine Z.iload dX2_peopleNear_58 7 rfl ?_
    refine Z.iload dX2_peopleNear_60 6 rfl ?_
    refine Z.iload dX2_peopleNear_62 4 rfl ?_
    refine bindC H (fun v1 hv1 H => ?_)
    refine Z.callV (As := [.int (x7), .int (x6), .int (x4)]) (rest := [.int (x5)]) (st' := [.int (v1.1), .int (x5)]) dX2_peopleNear_64 (kX2_peopleOn hb (x7) (x6) (x4) M hv1) kw529 kw362 kw363 kw6 kw364 hdX2_peopleOn (cS hb) (c2 hb) (hc := rfl) (by decide) (by decide) rfl rfl (Nat.le_of_ble_eq_true rfl) rfl ?_
    refine Z.ior dX2_peopleNear_67 ?_
    refine Z.istore (lv' := [(5, .int (x5 ||| v1.1)), (0, .ref (eA E (b))), (1, .int (x1)), (2, .int (x2)), (3, .int (x3)), (4, .int (x4)), (6, .int (x6)), (7, .int (x7))]) dX2_peopleNear_68 (by decide) rfl ?_
    refine Z.iinc (v := x7 + 1) (lv' := [(7, .int (x7 + 1)), (5, .int (x5 ||| v1.1)), (0, .ref (eA E (b))), (1, .int (x1)), (2, .int (x2)), (3, .int (x3)), (4, .int (x4)), (6, .int (x6))]) dX2_peopleNear_70 7 rfl rfl (by decide) rfl ?_
    refine Z.goto dX2_peopleNear_73 ?_
    refine Z.sub [2, 3, 4, 5, 6, 1, 7, 0] rfl ?_
    exact hk38 (x1) (x2) (x3) (x4) (x5 ||| v1.1) (x6) (x7 + 1) v1.2  H
theorem tX2_peopleNear_38L {l : Launch} {E : Env5} {b : Nat} (hb : isSc b) {k12 : Int32 → Int32 → Int32 → Int32 → Int32 → Int32 → Mem → Option (Int32 × Mem)}  {v9 : Int32} {M9 : Mem} (hk12 : ∀ (x1 : Int32) (x2 : Int32) (x3 : Int32) (x4 : Int32) (x5 : Int32) (x6 : Int32) (M : Mem), k12 x1 x2 x3 x4 x5 x6 M = some (v9, M9) → Z l E RX2 cX2_peopleNear 8 (some .int) 4 12 [(0, .ref (eA E (b))), (1, .int (x1)), (2, .int (x2)), (3, .int (x3)), (4, .int (x4)), (5, .int (x5)), (6, .int (x6))] [] M (PR (some (.int v9)) M9)) : ∀ (n : Nat) (x1 : Int32) (x2 : Int32) (x3 : Int32) (x4 : Int32) (x5 : Int32) (x6 : Int32) (x7 : Int32) (M : Mem), fX2_peopleNear_38L k12 b n x1 x2 x3 x4 x5 x6 x7 M = some (v9, M9) → Z l E RX2 cX2_peopleNear 8 (some .int) 4 38 [(0, .ref (eA E (b))), (1, .int (x1)), (2, .int (x2)), (3, .int (x3)), (4, .int (x4)), (5, .int (x5)), (6, .int (x6)), (7, .int (x7))] [] M (PR (some (.int v9)) M9) := by
  intro n
  induction n with
  | zero => intro x1 x2 x3 x4 x5 x6 x7 M H; exact absurd H (by simp [fX2_peopleNear_38L])
  | succ n ih => intro x1 x2 x3 x4 x5 x6 x7 M H; exact tX2_peopleNear_38 hb x1 x2 x3 x4 x5 x6 x7 M hk12 (fun x1 x2 x3 x4 x5 x6 x7 M H => ih x1 x2 x3 x4 x5 x6 x7 M H) H
set_option maxRecDepth 100000 in
theorem tX2_peopleNear_12 {l : Launch} {E : Env5} {b : Nat} (hb : isSc b) {k12 : Int32 → Int32 → Int32 → Int32 → Int32 → Int32 → Mem → Option (Int32 × Mem)} (x1 : Int32) (x2 : Int32) (x3 : Int32) (x4 : Int32) (x5 : Int32) (x6 : Int32) (M : Mem) {v9 : Int32} {M9 : Mem} (hk12 : ∀ (x1 : Int32) (x2 : Int32) (x3 : Int32) (x4 : Int32) (x5 : Int32) (x6 : Int32) (M : Mem), k12 x1 x2 x3 x4 x5 x6 M = some (v9, M9) → Z l E RX2 cX2_peopleNear 8 (some .int) 4 12 [(0, .ref (eA E (b))), (1, .int (x1)), (2, .int (x2)), (3, .int (x3)), (4, .int (x4)), (5, .int (x5)), (6, .int (x6))] [] M (PR (some (.int v9)) M9)) (H : fX2_peopleNear_12B k12 b x1 x2 x3 x4 x5 x6 M = some (v9, M9)) : Z l E RX2 cX2_peopleNear 8 (some .int) 4 12 [(0, .ref (eA E (b))), (1, .int (x1)), (2, .int (x2)), (3, .int (x3)), (4, .int (x4)), (5, .int (x5)), (6, .int (x6))] [] M (PR (some (.int v9)) M9) := by
  unfold fX2_peopleNear_12B at H
  refine Z.iload dX2_peopleNear_12 6 rfl ?_
  refine Z.aload_n dX2_peopleNear_14 0 rfl ?_
  refine Z.get dX2_peopleNear_15 inX2 (hc := rfl) (cS hb) (c2 hb) 4 (by decide) kw121 rfl rfl ?_
  refine Z.iconst (v := 1) dX2_peopleNear_18 (by decide) ?_
  refine Z.isub dX2_peopleNear_19 ?_
  refine Z.iload_n dX2_peopleNear_20 2 rfl ?_
  refine Z.iload_n dX2_peopleNear_21 3 rfl ?_
  refine Z.iadd dX2_peopleNear_22 ?_
  refine Z.mmin dX2_peopleNear_23 kw281 kw229 kw8 km_min (by decide) (Nat.le_of_ble_eq_true rfl) ?_
  refine Z.icmp_gtH dX2_peopleNear_26 H (fun br26 H => ?_) (fun br26 H => ?_)
  · refine Z.iload dX2_peopleNear_82 5 rfl ?_
    exact Z.iret rfl dX2_peopleNear_84 (retW H)
  · refine Z.iconst (v := 0) dX2_peopleNear_29 (by decide) ?_
    refine Z.iload_n dX2_peopleNear_30 1 rfl ?_
    refine Z.iload_n dX2_peopleNear_31 3 rfl ?_
    refine Z.isub dX2_peopleNear_32 ?_
    refine Z.mmax dX2_peopleNear_33 kw528 kw433 kw8 km_max (by decide) (Nat.le_of_ble_eq_true rfl) ?_
    refine Z.istore (lv' := [(7, .int (imax 0 (x1 - x3))), (0, .ref (eA E (b))), (1, .int (x1)), (2, .int (x2)), (3, .int (x3)), (4, .int (x4)), (5, .int (x5)), (6, .int (x6))]) dX2_peopleNear_36 (by decide) rfl ?_
    refine Z.sub [1, 2, 3, 4, 5, 6, 7, 0] rfl ?_
    exact tX2_peopleNear_38L hb hk12 FU (x1) (x2) (x3) (x4) (x5) (x6) (imax 0 (x1 - x3)) M H
theorem tX2_peopleNear_12L {l : Launch} {E : Env5} {b : Nat} (hb : isSc b)   {v9 : Int32} {M9 : Mem}  : ∀ (n : Nat) (x1 : Int32) (x2 : Int32) (x3 : Int32) (x4 : Int32) (x5 : Int32) (x6 : Int32) (M : Mem), fX2_peopleNear_12L  b n x1 x2 x3 x4 x5 x6 M = some (v9, M9) → Z l E RX2 cX2_peopleNear 8 (some .int) 4 12 [(0, .ref (eA E (b))), (1, .int (x1)), (2, .int (x2)), (3, .int (x3)), (4, .int (x4)), (5, .int (x5)), (6, .int (x6))] [] M (PR (some (.int v9)) M9) := by
  intro n
  induction n with
  | zero => intro x1 x2 x3 x4 x5 x6 M H; exact absurd H (by simp [fX2_peopleNear_12L])
  | succ n ih => intro x1 x2 x3 x4 x5 x6 M H; exact tX2_peopleNear_12 hb x1 x2 x3 x4 x5 x6 M  (fun x1 x2 x3 x4 x5 x6 M H => ih x1 x2 x3 x4 x5 x6 M H) H
set_option maxRecDepth 100000 in
theorem tX2_peopleNear_0 {l : Launch} {E : Env5} {b : Nat} (hb : isSc b)  (x1 : Int32) (x2 : Int32) (x3 : Int32) (x4 : Int32) (M : Mem) {v9 : Int32} {M9 : Mem}  (H : fX2_peopleNear  b x1 x2 x3 x4 M = some (v9, M9)) : Z l E RX2 cX2_peopleNear 8 (some .int) 4 0 [(0, .ref (eA E (b))), (1, .int (x1)), (2, .int (x2)), (3, .int (x3)), (4, .int (x4))] [] M (PR (some (.int v9)) M9) := by
  unfold fX2_peopleNear at H
  refine Z.iconst (v := 0) dX2_peopleNear_0 (by decide) ?_
  refine Z.istore (lv' := [(5, .int (0)), (0, .ref (eA E (b))), (1, .int (x1)), (2, .int (x2)), (3, .int (x3)), (4, .int (x4))]) dX2_peopleNear_1 (by decide) rfl ?_
  refine Z.iconst (v := 0) dX2_peopleNear_3 (by decide) ?_
  refine Z.iload_n dX2_peopleNear_4 3 rfl ?_
  refine Z.iload_n dX2_peopleNear_5 4 rfl ?_
  refine Z.isub dX2_peopleNear_6 ?_
  refine Z.mmax dX2_peopleNear_7 kw528 kw433 kw8 km_max (by decide) (Nat.le_of_ble_eq_true rfl) ?_
  refine Z.istore (lv' := [(6, .int (imax 0 (x2 - x3))), (5, .int (0)), (0, .ref (eA E (b))), (1, .int (x1)), (2, .int (x2)), (3, .int (x3)), (4, .int (x4))]) dX2_peopleNear_10 (by decide) rfl ?_
  refine Z.sub [2, 3, 4, 5, 6, 1, 0] rfl ?_
  exact tX2_peopleNear_12L hb  FU (x1) (x2) (x3) (x4) (0) (imax 0 (x2 - x3)) M H
theorem kX2_peopleNear {l : Launch} {E : Env5} {b : Nat} (hb : isSc b) (x1 : Int32) (x2 : Int32) (x3 : Int32) (x4 : Int32) (M : Mem) {v9 : Int32} {M9 : Mem} (H : fX2_peopleNear b x1 x2 x3 x4 M = some (v9, M9)) : Cn l E yX2_peopleNear cX2_peopleNear 8 (some .int) 4 [.ref (eA E (b)), .int (x1), .int (x2), .int (x3), .int (x4)] M (PR (some (.int v9)) M9) := Cn.ofZ rfl (Nat.le_of_ble_eq_true rfl) rfl (tX2_peopleNear_0 hb x1 x2 x3 x4 M H)
theorem hdX2_peopleNear : yX2_peopleNear.cls ≠ "java/lang/invoke/MethodHandle" ∧ yX2_peopleNear.cls ≠ "java/lang/invoke/VarHandle" ∧ (parseMethodDescriptor yX2_peopleNear.desc).map (fun d => d.parameters.length) = some 4 := by decide +kernel

set_option maxRecDepth 100000 in
theorem tX2_goneX_0 {l : Launch} {E : Env5}    (x0 : Int32) (x1 : Int32) (x2 : Int32) (M : Mem) {v9 : Int32}  (H : fX2_goneX  x0 x1 x2 M = some v9) : Z l E RX2 cX2_goneX 3 (some .int) 0 0 [(0, .int (x0)), (1, .int (x1)), (2, .int (x2))] [] M (PR (some (.int v9)) M) := by
  unfold fX2_goneX at H
  refine Z.iload_n dX2_goneX_0 1 rfl ?_
  refine Z.getsN dX2_goneX_1 (fun _ _ q => q.1) kn300 ?_
  refine Z.iload_n dX2_goneX_4 0 rfl ?_
  refine Z.taldH dX2_goneX_5 (fun _ _ q => q.1) H (fun v1 H => ?_)
  refine Z.imul dX2_goneX_6 ?_
  refine Z.iload_n dX2_goneX_7 2 rfl ?_
  refine Z.getsN dX2_goneX_8 (fun _ _ q => q.1) kn300 ?_
  refine Z.iload_n dX2_goneX_11 0 rfl ?_
  refine Z.iconst (v := 1) dX2_goneX_12 (by decide) ?_
  refine Z.iadd dX2_goneX_13 ?_
  refine Z.iconst (v := 4) dX2_goneX_14 (by decide) ?_
  refine Z.irem dX2_goneX_15 (by decide) ?_
  refine Z.taldH dX2_goneX_16 (fun _ _ q => q.1) H (fun v2 H => ?_)
  refine Z.imul dX2_goneX_17 ?_
  refine Z.iadd dX2_goneX_18 ?_
  exact Z.iret rfl dX2_goneX_19 (retR H)
theorem kX2_goneX {l : Launch} {E : Env5}   (x0 : Int32) (x1 : Int32) (x2 : Int32) (M : Mem) {v9 : Int32} (H : fX2_goneX x0 x1 x2 M = some v9) : Cn l E yX2_goneX cX2_goneX 3 (some .int) 0 [.int (x0), .int (x1), .int (x2)] M (PR (some (.int v9)) M) := Cn.ofZ rfl (Nat.le_of_ble_eq_true rfl) rfl (tX2_goneX_0  x0 x1 x2 M H)
theorem hdX2_goneX : yX2_goneX.cls ≠ "java/lang/invoke/MethodHandle" ∧ yX2_goneX.cls ≠ "java/lang/invoke/VarHandle" ∧ (parseMethodDescriptor yX2_goneX.desc).map (fun d => d.parameters.length) = some 3 := by decide +kernel

set_option maxRecDepth 100000 in
theorem tX2_goneY_0 {l : Launch} {E : Env5}    (x0 : Int32) (x1 : Int32) (x2 : Int32) (M : Mem) {v9 : Int32}  (H : fX2_goneY  x0 x1 x2 M = some v9) : Z l E RX2 cX2_goneY 3 (some .int) 0 0 [(0, .int (x0)), (1, .int (x1)), (2, .int (x2))] [] M (PR (some (.int v9)) M) := by
  unfold fX2_goneY at H
  refine Z.iload_n dX2_goneY_0 1 rfl ?_
  refine Z.getsN dX2_goneY_1 (fun _ _ q => q.2.1) kn302 ?_
  refine Z.iload_n dX2_goneY_4 0 rfl ?_
  refine Z.taldH dX2_goneY_5 (fun _ _ q => q.2.1) H (fun v1 H => ?_)
  refine Z.imul dX2_goneY_6 ?_
  refine Z.iload_n dX2_goneY_7 2 rfl ?_
  refine Z.getsN dX2_goneY_8 (fun _ _ q => q.2.1) kn302 ?_
  refine Z.iload_n dX2_goneY_11 0 rfl ?_
  refine Z.iconst (v := 1) dX2_goneY_12 (by decide) ?_
  refine Z.iadd dX2_goneY_13 ?_
  refine Z.iconst (v := 4) dX2_goneY_14 (by decide) ?_
  refine Z.irem dX2_goneY_15 (by decide) ?_
  refine Z.taldH dX2_goneY_16 (fun _ _ q => q.2.1) H (fun v2 H => ?_)
  refine Z.imul dX2_goneY_17 ?_
  refine Z.iadd dX2_goneY_18 ?_
  exact Z.iret rfl dX2_goneY_19 (retR H)
theorem kX2_goneY {l : Launch} {E : Env5}   (x0 : Int32) (x1 : Int32) (x2 : Int32) (M : Mem) {v9 : Int32} (H : fX2_goneY x0 x1 x2 M = some v9) : Cn l E yX2_goneY cX2_goneY 3 (some .int) 0 [.int (x0), .int (x1), .int (x2)] M (PR (some (.int v9)) M) := Cn.ofZ rfl (Nat.le_of_ble_eq_true rfl) rfl (tX2_goneY_0  x0 x1 x2 M H)
theorem hdX2_goneY : yX2_goneY.cls ≠ "java/lang/invoke/MethodHandle" ∧ yX2_goneY.cls ≠ "java/lang/invoke/VarHandle" ∧ (parseMethodDescriptor yX2_goneY.desc).map (fun d => d.parameters.length) = some 3 := by decide +kernel

set_option maxRecDepth 100000 in
theorem tX2_stateOfCell_102 {l : Launch} {E : Env5} {b : Nat} (hb : isSc b) {k11 : Int32 → Int32 → Int32 → Int32 → Int32 → Int32 → Option Int32} (x1 : Int32) (x2 : Int32) (x3 : Int32) (x4 : Int32) (x5 : Int32) (x6 : Int32) (M : Mem) {v9 : Int32} (hk11 : ∀ (x1 : Int32) (x2 : Int32) (x3 : Int32) (x4 : Int32) (x5 : Int32) (x6 : Int32), k11 x1 x2 x3 x4 x5 x6 = some v9 → Z l E RX2 cX2_stateOfCell 11 (some .int) 1 11 [(0, .ref (eA E (b))), (1, .int (x1)), (2, .int (x2)), (3, .int (x3)), (4, .int (x4)), (5, .int (x5)), (6, .int (x6))] [] M (PR (some (.int v9)) M)) (H : fX2_stateOfCell_102 k11 b x1 x2 x3 x4 x5 x6 M = some v9) : Z l E RX2 cX2_stateOfCell 11 (some .int) 1 102 [(0, .ref (eA E (b))), (1, .int (x1)), (2, .int (x2)), (3, .int (x3)), (4, .int (x4)), (5, .int (x5)), (6, .int (x6))] [] M (PR (some (.int v9)) M) := by
  unfold fX2_stateOfCell_102 at H
  refine Z.iinc (v := x6 + 1) (lv' := [(6, .int (x6 + 1)), (0, .ref (eA E (b))), (1, .int (x1)), (2, .int (x2)), (3, .int (x3)), (4, .int (x4)), (5, .int (x5))]) dX2_stateOfCell_102 6 rfl rfl (by decide) rfl ?_
  refine Z.goto dX2_stateOfCell_105 ?_
  refine Z.sub [1, 2, 3, 4, 5, 6, 0] rfl ?_
  exact hk11 (x1) (x2) (x3) (x4) (x5) (x6 + 1) H
set_option maxRecDepth 100000 in
theorem tX2_stateOfCell_11 {l : Launch} {E : Env5} {b : Nat} (hb : isSc b) {k11 : Int32 → Int32 → Int32 → Int32 → Int32 → Int32 → Option Int32} (x1 : Int32) (x2 : Int32) (x3 : Int32) (x4 : Int32) (x5 : Int32) (x6 : Int32) (M : Mem) {v9 : Int32} (hk11 : ∀ (x1 : Int32) (x2 : Int32) (x3 : Int32) (x4 : Int32) (x5 : Int32) (x6 : Int32), k11 x1 x2 x3 x4 x5 x6 = some v9 → Z l E RX2 cX2_stateOfCell 11 (some .int) 1 11 [(0, .ref (eA E (b))), (1, .int (x1)), (2, .int (x2)), (3, .int (x3)), (4, .int (x4)), (5, .int (x5)), (6, .int (x6))] [] M (PR (some (.int v9)) M)) (H : fX2_stateOfCell_11B k11 b x1 x2 x3 x4 x5 x6 M = some v9) : Z l E RX2 cX2_stateOfCell 11 (some .int) 1 11 [(0, .ref (eA E (b))), (1, .int (x1)), (2, .int (x2)), (3, .int (x3)), (4, .int (x4)), (5, .int (x5)), (6, .int (x6))] [] M (PR (some (.int v9)) M) := by
  unfold fX2_stateOfCell_11B at H
  refine Z.iload dX2_stateOfCell_11 6 rfl ?_
  refine Z.iload dX2_stateOfCell_13 4 rfl ?_
  refine Z.icmp_geH dX2_stateOfCell_15 H (fun br15 H => ?_) (fun br15 H => ?_)
  · refine Z.iconst (v := 1) dX2_stateOfCell_108 (by decide) ?_
    exact Z.iret rfl dX2_stateOfCell_109 (retR H)
  · refine Z.iload dX2_stateOfCell_18 5 rfl ?_
    refine Z.iload dX2_stateOfCell_20 6 rfl ?_
    refine Z.imul dX2_stateOfCell_22 ?_
    refine Z.iload dX2_stateOfCell_23 4 rfl ?_
    refine Z.idivH dX2_stateOfCell_25 H (fun v1 H => ?_)
    refine Z.istore (lv' := [(7, .int (v1)), (0, .ref (eA E (b))), (1, .int (x1)), (2, .int (x2)), (3, .int (x3)), (4, .int (x4)), (5, .int (x5)), (6, .int (x6))]) dX2_stateOfCell_26 (by decide) rfl ?_
    refine Z.iload_n dX2_stateOfCell_28 2 rfl ?_
    refine Z.iload_n dX2_stateOfCell_29 4 rfl ?_
    refine Z.iload dX2_stateOfCell_30 7 rfl ?_
    refine Z.iload dX2_stateOfCell_32 0 rfl ?_
    refine bindC H (fun v2 hv2 H => ?_)
    refine Z.callS (As := [.int (x3), .int (x6), .int (v1)]) (rest := [.int (x1)]) (st' := [.int (v2), .int (x1)]) dX2_stateOfCell_34 (kX2_goneX  (x3) (x6) (v1) M hv2) kw315 kw316 kw6 kw317 hdX2_goneX (by decide) (by decide) rfl rfl (Nat.le_of_ble_eq_true rfl) rfl ?_
    refine Z.iadd dX2_stateOfCell_37 ?_
    refine Z.istore (lv' := [(8, .int (x1 + v2)), (7, .int (v1)), (0, .ref (eA E (b))), (1, .int (x1)), (2, .int (x2)), (3, .int (x3)), (4, .int (x4)), (5, .int (x5)), (6, .int (x6))]) dX2_stateOfCell_38 (by decide) rfl ?_
    refine Z.iload_n dX2_stateOfCell_40 4 rfl ?_
    refine Z.iload_n dX2_stateOfCell_41 5 rfl ?_
    refine Z.iload dX2_stateOfCell_42 8 rfl ?_
    refine Z.iload dX2_stateOfCell_44 1 rfl ?_
    refine bindC H (fun v3 hv3 H => ?_)
    refine Z.callS (As := [.int (x3), .int (x6), .int (v1)]) (rest := [.int (x2)]) (st' := [.int (v3), .int (x2)]) dX2_stateOfCell_46 (kX2_goneY  (x3) (x6) (v1) M hv3) kw318 kw319 kw6 kw320 hdX2_goneY (by decide) (by decide) rfl rfl (Nat.le_of_ble_eq_true rfl) rfl ?_
    refine Z.iadd dX2_stateOfCell_49 ?_
    refine Z.istore (lv' := [(9, .int (x2 + v3)), (8, .int (x1 + v2)), (7, .int (v1)), (0, .ref (eA E (b))), (1, .int (x1)), (2, .int (x2)), (3, .int (x3)), (4, .int (x4)), (5, .int (x5)), (6, .int (x6))]) dX2_stateOfCell_50 (by decide) rfl ?_
    refine Z.aload_n dX2_stateOfCell_52 3 rfl ?_
    refine Z.iload dX2_stateOfCell_53 1 rfl ?_
    refine Z.iload dX2_stateOfCell_55 0 rfl ?_
    refine bindC H (fun v4 hv4 H => ?_)
    refine Z.callV (As := [.int (x1 + v2), .int (x2 + v3)]) (rest := []) (st' := [.int (v4)]) dX2_stateOfCell_57 (kX2_isCell hb (x1 + v2) (x2 + v3) M hv4) kw266 kw267 kw268 kw6 kw269 hdX2_isCell (cS hb) (c2 hb) (hc := rfl) (by decide) (by decide) rfl rfl (Nat.le_of_ble_eq_true rfl) rfl ?_
    refine Z.if_neH dX2_stateOfCell_60 H (fun br60 H => ?_) (fun br60 H => ?_)
    · refine Z.aload_n dX2_stateOfCell_66 3 rfl ?_
      refine Z.get dX2_stateOfCell_67 inX2 (hc := rfl) (cS hb) (c2 hb) 3 (by decide) kw118 rfl rfl ?_
      refine Z.iload dX2_stateOfCell_70 0 rfl ?_
      refine Z.imul dX2_stateOfCell_72 ?_
      refine Z.iload dX2_stateOfCell_73 1 rfl ?_
      refine Z.iadd dX2_stateOfCell_75 ?_
      refine Z.istore (lv' := [(10, .int (((M.1 b 3) * (x2 + v3)) + (x1 + v2))), (9, .int (x2 + v3)), (8, .int (x1 + v2)), (7, .int (v1)), (0, .ref (eA E (b))), (1, .int (x1)), (2, .int (x2)), (3, .int (x3)), (4, .int (x4)), (5, .int (x5)), (6, .int (x6))]) dX2_stateOfCell_76 (by decide) rfl ?_
      refine Z.aload_n dX2_stateOfCell_78 4 rfl ?_
      refine Z.get dX2_stateOfCell_79 inX2 (hc := rfl) (cS hb) (c2 hb) 0 (by decide) kw115 rfl rfl ?_
      refine Z.iload dX2_stateOfCell_82 0 rfl ?_
      refine Z.zaldH dX2_stateOfCell_84 (a2_walls hb) H (fun v5 H => ?_)
      refine Z.if_eqH dX2_stateOfCell_85 H (fun br85 H => ?_) (fun br85 H => ?_)
      · refine Z.aload_n dX2_stateOfCell_90 4 rfl ?_
        refine Z.get dX2_stateOfCell_91 inX2 (hc := rfl) (cS hb) (c2 hb) 9 (by decide) kw131 rfl rfl ?_
        refine Z.iload dX2_stateOfCell_94 0 rfl ?_
        refine Z.ialdH dX2_stateOfCell_96 (a2_crowd hb) H (fun v6 H => ?_)
        refine Z.if_eqH dX2_stateOfCell_97 H (fun br97 H => ?_) (fun br97 H => ?_)
        · refine Z.sub [4, 5, 6, 7, 8, 9, 10] rfl ?_
          exact tX2_stateOfCell_102 hb (x1) (x2) (x3) (x4) (x5) (x6) M hk11 H
        · refine Z.iconst (v := 3) dX2_stateOfCell_100 (by decide) ?_
          exact Z.iret rfl dX2_stateOfCell_101 (retR H)
      · refine Z.iconst (v := 2) dX2_stateOfCell_88 (by decide) ?_
        exact Z.iret rfl dX2_stateOfCell_89 (retR H)
    · refine Z.goto dX2_stateOfCell_63 ?_
      refine Z.sub [3, 4, 5, 6, 7, 8, 9] rfl ?_
      exact tX2_stateOfCell_102 hb (x1) (x2) (x3) (x4) (x5) (x6) M hk11 H
theorem tX2_stateOfCell_11L {l : Launch} {E : Env5} {b : Nat} (hb : isSc b)  (M : Mem) {v9 : Int32}  : ∀ (n : Nat) (x1 : Int32) (x2 : Int32) (x3 : Int32) (x4 : Int32) (x5 : Int32) (x6 : Int32), fX2_stateOfCell_11L  b M n x1 x2 x3 x4 x5 x6 = some v9 → Z l E RX2 cX2_stateOfCell 11 (some .int) 1 11 [(0, .ref (eA E (b))), (1, .int (x1)), (2, .int (x2)), (3, .int (x3)), (4, .int (x4)), (5, .int (x5)), (6, .int (x6))] [] M (PR (some (.int v9)) M) := by
  intro n
  induction n with
  | zero => intro x1 x2 x3 x4 x5 x6 H; exact absurd H (by simp [fX2_stateOfCell_11L])
  | succ n ih => intro x1 x2 x3 x4 x5 x6 H; exact tX2_stateOfCell_11 hb x1 x2 x3 x4 x5 x6 M  (fun x1 x2 x3 x4 x5 x6 H => ih x1 x2 x3 x4 x5 x6 H) H
set_option maxRecDepth 100000 in
theorem tX2_stateOfCell_0 {l : Launch} {E : Env5} {b : Nat} (hb : isSc b)  (x1 : Int32) (x2 : Int32) (x3 : Int32) (x4 : Int32) (x5 : Int32) (M : Mem) {v9 : Int32}  (H : fX2_stateOfCell  b x1 x2 x3 x4 x5 M = some v9) : Z l E RX2 cX2_stateOfCell 11 (some .int) 1 0 [(0, .ref (eA E (b))), (1, .int (x1)), (2, .int (x2)), (3, .int (x3)), (4, .int (x4)), (5, .int (x5))] [] M (PR (some (.int v9)) M) := by
  unfold fX2_stateOfCell at H
  refine Z.iload dX2_stateOfCell_0 4 rfl ?_
  refine Z.iconst (v := 1) dX2_stateOfCell_2 (by decide) ?_
  refine Z.icmp_geH dX2_stateOfCell_3 H (fun br3 H => ?_) (fun br3 H => ?_)
  · refine Z.iconst (v := 1) dX2_stateOfCell_8 (by decide) ?_
    refine Z.istore (lv' := [(6, .int (1)), (0, .ref (eA E (b))), (1, .int (x1)), (2, .int (x2)), (3, .int (x3)), (4, .int (x4)), (5, .int (x5))]) dX2_stateOfCell_9 (by decide) rfl ?_
    refine Z.sub [1, 2, 3, 4, 5, 6, 0] rfl ?_
    exact tX2_stateOfCell_11L hb M  FU (x1) (x2) (x3) (x4) (x5) (1) H
  · refine Z.iconst (v := 0) dX2_stateOfCell_6 (by decide) ?_
    exact Z.iret rfl dX2_stateOfCell_7 (retR H)
theorem kX2_stateOfCell {l : Launch} {E : Env5} {b : Nat} (hb : isSc b) (x1 : Int32) (x2 : Int32) (x3 : Int32) (x4 : Int32) (x5 : Int32) (M : Mem) {v9 : Int32} (H : fX2_stateOfCell b x1 x2 x3 x4 x5 M = some v9) : Cn l E yX2_stateOfCell cX2_stateOfCell 11 (some .int) 1 [.ref (eA E (b)), .int (x1), .int (x2), .int (x3), .int (x4), .int (x5)] M (PR (some (.int v9)) M) := Cn.ofZ rfl (Nat.le_of_ble_eq_true rfl) rfl (tX2_stateOfCell_0 hb x1 x2 x3 x4 x5 M H)
theorem hdX2_stateOfCell : yX2_stateOfCell.cls ≠ "java/lang/invoke/MethodHandle" ∧ yX2_stateOfCell.cls ≠ "java/lang/invoke/VarHandle" ∧ (parseMethodDescriptor yX2_stateOfCell.desc).map (fun d => d.parameters.length) = some 5 := by decide +kernel

set_option maxRecDepth 100000 in
theorem tX2_stateOf_0 {l : Launch} {E : Env5} {b : Nat} (hb : isSc b)  (x1 : Int32) (x2 : Int32) (x3 : Int32) (x4 : Int32) (x5 : Int32) (M : Mem) {v9 : Int32}  (H : fX2_stateOf  b x1 x2 x3 x4 x5 M = some v9) : Z l E RX2 cX2_stateOf 12 (some .int) 2 0 [(0, .ref (eA E (b))), (1, .int (x1)), (2, .int (x2)), (3, .int (x3)), (4, .int (x4)), (5, .int (x5))] [] M (PR (some (.int v9)) M) := by
  unfold fX2_stateOf at H
  refine Z.aload_n dX2_stateOf_0 0 rfl ?_
  refine Z.get dX2_stateOf_1 inX2 (hc := rfl) (cS hb) (c2 hb) 8 (by decide) kw130 rfl rfl ?_
  refine Z.iload_n dX2_stateOf_4 1 rfl ?_
  refine Z.ialdH dX2_stateOf_5 (a2_cells hb) H (fun v1 H => ?_)
  refine Z.istore (lv' := [(6, .int (v1)), (0, .ref (eA E (b))), (1, .int (x1)), (2, .int (x2)), (3, .int (x3)), (4, .int (x4)), (5, .int (x5))]) dX2_stateOf_6 (by decide) rfl ?_
  refine Z.iload dX2_stateOf_8 0 rfl ?_
  refine Z.if_ltH dX2_stateOf_10 H (fun br10 H => ?_) (fun br10 H => ?_)
  · refine Z.iconst (v := 0) dX2_stateOf_21 (by decide) ?_
    exact Z.iret rfl dX2_stateOf_22 (retR H)
  · refine Z.aload_n dX2_stateOf_13 1 rfl ?_
    refine Z.get dX2_stateOf_14 inX2 (hc := rfl) (cS hb) (c2 hb) 3 (by decide) kw118 rfl rfl ?_
    refine Z.iconst (v := 1) dX2_stateOf_17 (by decide) ?_
    refine Z.icmp_geH dX2_stateOf_18 H (fun br18 H => ?_) (fun br18 H => ?_)
    · refine Z.iload dX2_stateOf_23 0 rfl ?_
      refine Z.aload_n dX2_stateOf_25 1 rfl ?_
      refine Z.get dX2_stateOf_26 inX2 (hc := rfl) (cS hb) (c2 hb) 3 (by decide) kw118 rfl rfl ?_
      refine Z.iremH dX2_stateOf_29 H (fun v2 H => ?_)
      refine Z.iload_n dX2_stateOf_30 3 rfl ?_
      refine Z.isub dX2_stateOf_31 ?_
      refine Z.istore (lv' := [(7, .int (v2 - x2)), (6, .int (v1)), (0, .ref (eA E (b))), (1, .int (x1)), (2, .int (x2)), (3, .int (x3)), (4, .int (x4)), (5, .int (x5))]) dX2_stateOf_32 (by decide) rfl ?_
      refine Z.iload dX2_stateOf_34 1 rfl ?_
      refine Z.aload_n dX2_stateOf_36 2 rfl ?_
      refine Z.get dX2_stateOf_37 inX2 (hc := rfl) (cS hb) (c2 hb) 3 (by decide) kw118 rfl rfl ?_
      refine Z.idivH dX2_stateOf_40 H (fun v3 H => ?_)
      refine Z.iload_n dX2_stateOf_41 5 rfl ?_
      refine Z.isub dX2_stateOf_42 ?_
      refine Z.istore (lv' := [(8, .int (v3 - x3)), (7, .int (v2 - x2)), (6, .int (v1)), (0, .ref (eA E (b))), (1, .int (x1)), (2, .int (x2)), (3, .int (x3)), (4, .int (x4)), (5, .int (x5))]) dX2_stateOf_43 (by decide) rfl ?_
      refine Z.iload dX2_stateOf_45 1 rfl ?_
      refine Z.getsN dX2_stateOf_47 (fun _ _ q => q.1) kn300 ?_
      refine Z.iload dX2_stateOf_50 7 rfl ?_
      refine Z.taldH dX2_stateOf_52 (fun _ _ q => q.1) H (fun v4 H => ?_)
      refine Z.imul dX2_stateOf_53 ?_
      refine Z.iload dX2_stateOf_54 0 rfl ?_
      refine Z.getsN dX2_stateOf_56 (fun _ _ q => q.2.1) kn302 ?_
      refine Z.iload dX2_stateOf_59 7 rfl ?_
      refine Z.taldH dX2_stateOf_61 (fun _ _ q => q.2.1) H (fun v5 H => ?_)
      refine Z.imul dX2_stateOf_62 ?_
      refine Z.iadd dX2_stateOf_63 ?_
      refine Z.istore (lv' := [(9, .int (((v2 - x2) * v4) + ((v3 - x3) * v5))), (8, .int (v3 - x3)), (7, .int (v2 - x2)), (6, .int (v1)), (0, .ref (eA E (b))), (1, .int (x1)), (2, .int (x2)), (3, .int (x3)), (4, .int (x4)), (5, .int (x5))]) dX2_stateOf_64 (by decide) rfl ?_
      refine Z.iload dX2_stateOf_66 8 rfl ?_
      refine Z.iconst (v := 1) dX2_stateOf_68 (by decide) ?_
      refine Z.iadd dX2_stateOf_69 ?_
      refine Z.iconst (v := 4) dX2_stateOf_70 (by decide) ?_
      refine Z.irem dX2_stateOf_71 (by decide) ?_
      refine Z.istore (lv' := [(10, .int ((x4 + 1) - (x4 + 1) / 4 * 4)), (9, .int (((v2 - x2) * v4) + ((v3 - x3) * v5))), (8, .int (v3 - x3)), (7, .int (v2 - x2)), (6, .int (v1)), (0, .ref (eA E (b))), (1, .int (x1)), (2, .int (x2)), (3, .int (x3)), (4, .int (x4)), (5, .int (x5))]) dX2_stateOf_72 (by decide) rfl ?_
      refine Z.iload dX2_stateOf_74 3 rfl ?_
      refine Z.getsN dX2_stateOf_76 (fun _ _ q => q.1) kn300 ?_
      refine Z.iload dX2_stateOf_79 0 rfl ?_
      refine Z.taldH dX2_stateOf_81 (fun _ _ q => q.1) H (fun v6 H => ?_)
      refine Z.imul dX2_stateOf_82 ?_
      refine Z.iload dX2_stateOf_83 2 rfl ?_
      refine Z.getsN dX2_stateOf_85 (fun _ _ q => q.2.1) kn302 ?_
      refine Z.iload dX2_stateOf_88 0 rfl ?_
      refine Z.taldH dX2_stateOf_90 (fun _ _ q => q.2.1) H (fun v7 H => ?_)
      refine Z.imul dX2_stateOf_91 ?_
      refine Z.iadd dX2_stateOf_92 ?_
      refine Z.istore (lv' := [(11, .int (((v2 - x2) * v6) + ((v3 - x3) * v7))), (10, .int ((x4 + 1) - (x4 + 1) / 4 * 4)), (9, .int (((v2 - x2) * v4) + ((v3 - x3) * v5))), (8, .int (v3 - x3)), (7, .int (v2 - x2)), (6, .int (v1)), (0, .ref (eA E (b))), (1, .int (x1)), (2, .int (x2)), (3, .int (x3)), (4, .int (x4)), (5, .int (x5))]) dX2_stateOf_93 (by decide) rfl ?_
      refine Z.iload dX2_stateOf_95 2 rfl ?_
      refine Z.iconst (v := 1) dX2_stateOf_97 (by decide) ?_
      refine Z.icmp_ltH dX2_stateOf_98 H (fun br98 H => ?_) (fun br98 H => ?_)
      · refine Z.iconst (v := 0) dX2_stateOf_120 (by decide) ?_
        exact Z.iret rfl dX2_stateOf_121 (retR H)
      · refine Z.iload dX2_stateOf_101 2 rfl ?_
        refine Z.iload dX2_stateOf_103 11 rfl ?_
        refine Z.icmp_gtH dX2_stateOf_105 H (fun br105 H => ?_) (fun br105 H => ?_)
        · refine Z.iconst (v := 0) dX2_stateOf_120 (by decide) ?_
          exact Z.iret rfl dX2_stateOf_121 (retR H)
        · refine Z.iload dX2_stateOf_108 0 rfl ?_
          refine Z.mabs dX2_stateOf_110 kw308 kw309 kw8 km_abs (by decide) (Nat.le_of_ble_eq_true rfl) ?_
          refine Z.iload dX2_stateOf_113 2 rfl ?_
          refine Z.iconst (v := 2) dX2_stateOf_115 (by decide) ?_
          refine Z.idiv dX2_stateOf_116 (by decide) ?_
          refine Z.icmp_leH dX2_stateOf_117 H (fun br117 H => ?_) (fun br117 H => ?_)
          · refine Z.aload_n dX2_stateOf_122 6 rfl ?_
            refine Z.iload_n dX2_stateOf_123 8 rfl ?_
            refine Z.iload_n dX2_stateOf_124 9 rfl ?_
            refine Z.iload dX2_stateOf_125 10 rfl ?_
            refine Z.iload dX2_stateOf_127 2 rfl ?_
            refine Z.iload dX2_stateOf_129 0 rfl ?_
            refine bindC H (fun v8 hv8 H => ?_)
            refine Z.callV (As := [.int (x2), .int (x3), .int (x4), .int (((v2 - x2) * v4) + ((v3 - x3) * v5)), .int (((v2 - x2) * v6) + ((v3 - x3) * v7))]) (rest := []) (st' := [.int (v8)]) dX2_stateOf_131 (kX2_stateOfCell hb (x2) (x3) (x4) (((v2 - x2) * v4) + ((v3 - x3) * v5)) (((v2 - x2) * v6) + ((v3 - x3) * v7)) M hv8) kw311 kw313 ks8 kw6 kw314 hdX2_stateOfCell (cS hb) (c2 hb) (hc := rfl) (by decide) (by decide) rfl rfl (Nat.le_of_ble_eq_true rfl) rfl ?_
            exact Z.iret rfl dX2_stateOf_134 (retR H)
          · refine Z.iconst (v := 0) dX2_stateOf_120 (by decide) ?_
            exact Z.iret rfl dX2_stateOf_121 (retR H)
    · refine Z.iconst (v := 0) dX2_stateOf_21 (by decide) ?_
      exact Z.iret rfl dX2_stateOf_22 (retR H)
theorem kX2_stateOf {l : Launch} {E : Env5} {b : Nat} (hb : isSc b) (x1 : Int32) (x2 : Int32) (x3 : Int32) (x4 : Int32) (x5 : Int32) (M : Mem) {v9 : Int32} (H : fX2_stateOf b x1 x2 x3 x4 x5 M = some v9) : Cn l E yX2_stateOf cX2_stateOf 12 (some .int) 2 [.ref (eA E (b)), .int (x1), .int (x2), .int (x3), .int (x4), .int (x5)] M (PR (some (.int v9)) M) := Cn.ofZ rfl (Nat.le_of_ble_eq_true rfl) rfl (tX2_stateOf_0 hb x1 x2 x3 x4 x5 M H)
theorem hdX2_stateOf : yX2_stateOf.cls ≠ "java/lang/invoke/MethodHandle" ∧ yX2_stateOf.cls ≠ "java/lang/invoke/VarHandle" ∧ (parseMethodDescriptor yX2_stateOf.desc).map (fun d => d.parameters.length) = some 5 := by decide +kernel

set_option maxRecDepth 100000 in
theorem tX2_shownFrom_45 {l : Launch} {E : Env5} {b : Nat} (hb : isSc b) {k12 : Int32 → Int32 → Int32 → Int32 → Int32 → Int32 → Mem → Option (Int32 × Mem)} (x1 : Int32) (x2 : Int32) (x3 : Int32) (x4 : Int32) (x6 : Int32) (x7 : Int32) (M : Mem) {v9 : Int32} {M9 : Mem} (hk12 : ∀ (x1 : Int32) (x2 : Int32) (x3 : Int32) (x4 : Int32) (x6 : Int32) (x7 : Int32) (M : Mem), k12 x1 x2 x3 x4 x6 x7 M = some (v9, M9) → Z l E RX2 cX2_shownFrom 8 (some .int) 3 12 [(0, .ref (eA E (b))), (1, .int (x1)), (2, .int (x2)), (3, .int (x3)), (4, .int (x4)), (6, .int (x6)), (7, .int (x7))] [] M (PR (some (.int v9)) M9)) (H : fX2_shownFrom_45 k12 b x1 x2 x3 x4 x6 x7 M = some (v9, M9)) : Z l E RX2 cX2_shownFrom 8 (some .int) 3 45 [(0, .ref (eA E (b))), (1, .int (x1)), (2, .int (x2)), (3, .int (x3)), (4, .int (x4)), (6, .int (x6)), (7, .int (x7))] [] M (PR (some (.int v9)) M9) := by
  unfold fX2_shownFrom_45 at H
  refine Z.iinc (v := x7 + 1) (lv' := [(7, .int (x7 + 1)), (0, .ref (eA E (b))), (1, .int (x1)), (2, .int (x2)), (3, .int (x3)), (4, .int (x4)), (6, .int (x6))]) dX2_shownFrom_45 6 rfl rfl (by decide) rfl ?_
  refine Z.goto dX2_shownFrom_48 ?_
  refine Z.sub [1, 2, 3, 4, 5, 6, 0] rfl ?_
  exact hk12 (x1) (x2) (x3) (x4) (x6) (x7 + 1) M  H
set_option maxRecDepth 100000 in
theorem tX2_shownFrom_12 {l : Launch} {E : Env5} {b : Nat} (hb : isSc b) {k12 : Int32 → Int32 → Int32 → Int32 → Int32 → Int32 → Mem → Option (Int32 × Mem)} (x1 : Int32) (x2 : Int32) (x3 : Int32) (x4 : Int32) (x6 : Int32) (x7 : Int32) (M : Mem) {v9 : Int32} {M9 : Mem} (hk12 : ∀ (x1 : Int32) (x2 : Int32) (x3 : Int32) (x4 : Int32) (x6 : Int32) (x7 : Int32) (M : Mem), k12 x1 x2 x3 x4 x6 x7 M = some (v9, M9) → Z l E RX2 cX2_shownFrom 8 (some .int) 3 12 [(0, .ref (eA E (b))), (1, .int (x1)), (2, .int (x2)), (3, .int (x3)), (4, .int (x4)), (6, .int (x6)), (7, .int (x7))] [] M (PR (some (.int v9)) M9)) (H : fX2_shownFrom_12B k12 b x1 x2 x3 x4 x6 x7 M = some (v9, M9)) : Z l E RX2 cX2_shownFrom 8 (some .int) 3 12 [(0, .ref (eA E (b))), (1, .int (x1)), (2, .int (x2)), (3, .int (x3)), (4, .int (x4)), (6, .int (x6)), (7, .int (x7))] [] M (PR (some (.int v9)) M9) := by
  unfold fX2_shownFrom_12B at H
  refine Z.iload dX2_shownFrom_12 6 rfl ?_
  refine Z.aload_n dX2_shownFrom_14 0 rfl ?_
  refine Z.get dX2_shownFrom_15 inX2 (hc := rfl) (cS hb) (c2 hb) 6 (by decide) kw126 rfl rfl ?_
  refine Z.icmp_geH dX2_shownFrom_18 H (fun br18 H => ?_) (fun br18 H => ?_)
  · refine Z.iload dX2_shownFrom_51 5 rfl ?_
    exact Z.iret rfl dX2_shownFrom_53 (retW H)
  · refine Z.aload_n dX2_shownFrom_21 0 rfl ?_
    refine Z.iload dX2_shownFrom_22 6 rfl ?_
    refine Z.iload_n dX2_shownFrom_24 1 rfl ?_
    refine Z.iload_n dX2_shownFrom_25 2 rfl ?_
    refine Z.iload_n dX2_shownFrom_26 3 rfl ?_
    refine Z.iload dX2_shownFrom_27 4 rfl ?_
    refine bindC H (fun v1 hv1 H => ?_)
    refine Z.callV (As := [.int (x7), .int (x1), .int (x2), .int (x3), .int (x4)]) (rest := []) (st' := [.int (v1)]) dX2_shownFrom_29 (kX2_stateOf hb (x7) (x1) (x2) (x3) (x4) M hv1) kw304 kw306 ks7 kw6 kw307 hdX2_stateOf (cS hb) (c2 hb) (hc := rfl) (by decide) (by decide) rfl rfl (Nat.le_of_ble_eq_true rfl) rfl ?_
    refine Z.iconst (v := 1) dX2_shownFrom_32 (by decide) ?_
    refine Z.icmp_neH dX2_shownFrom_33 H (fun br33 H => ?_) (fun br33 H => ?_)
    · refine Z.sub [0, 1, 2, 3, 4, 5, 6] rfl ?_
      exact tX2_shownFrom_45 hb (x1) (x2) (x3) (x4) (x6) (x7) M hk12 H
    · refine Z.iload dX2_shownFrom_36 5 rfl ?_
      refine Z.iconst (v := 1) dX2_shownFrom_38 (by decide) ?_
      refine Z.iload dX2_shownFrom_39 6 rfl ?_
      refine Z.ishl dX2_shownFrom_41 ?_
      refine Z.ior dX2_shownFrom_42 ?_
      refine Z.istore (lv' := [(6, .int (x6 ||| (1 <<< (x7 &&& 31)))), (0, .ref (eA E (b))), (1, .int (x1)), (2, .int (x2)), (3, .int (x3)), (4, .int (x4)), (7, .int (x7))]) dX2_shownFrom_43 (by decide) rfl ?_
      refine Z.sub [1, 2, 3, 4, 5, 0, 6] rfl ?_
      exact tX2_shownFrom_45 hb (x1) (x2) (x3) (x4) (x6 ||| (1 <<< (x7 &&& 31))) (x7) M hk12 H
theorem tX2_shownFrom_12L {l : Launch} {E : Env5} {b : Nat} (hb : isSc b)   {v9 : Int32} {M9 : Mem}  : ∀ (n : Nat) (x1 : Int32) (x2 : Int32) (x3 : Int32) (x4 : Int32) (x6 : Int32) (x7 : Int32) (M : Mem), fX2_shownFrom_12L  b n x1 x2 x3 x4 x6 x7 M = some (v9, M9) → Z l E RX2 cX2_shownFrom 8 (some .int) 3 12 [(0, .ref (eA E (b))), (1, .int (x1)), (2, .int (x2)), (3, .int (x3)), (4, .int (x4)), (6, .int (x6)), (7, .int (x7))] [] M (PR (some (.int v9)) M9) := by
  intro n
  induction n with
  | zero => intro x1 x2 x3 x4 x6 x7 M H; exact absurd H (by simp [fX2_shownFrom_12L])
  | succ n ih => intro x1 x2 x3 x4 x6 x7 M H; exact tX2_shownFrom_12 hb x1 x2 x3 x4 x6 x7 M  (fun x1 x2 x3 x4 x6 x7 M H => ih x1 x2 x3 x4 x6 x7 M H) H
set_option maxRecDepth 100000 in
theorem tX2_shownFrom_0 {l : Launch} {E : Env5} {b : Nat} (hb : isSc b)  (x1 : Int32) (x2 : Int32) (x3 : Int32) (x4 : Int32) (x5 : Int32) (M : Mem) {v9 : Int32} {M9 : Mem}  (H : fX2_shownFrom  b x1 x2 x3 x4 x5 M = some (v9, M9)) : Z l E RX2 cX2_shownFrom 8 (some .int) 3 0 [(0, .ref (eA E (b))), (1, .int (x1)), (2, .int (x2)), (3, .int (x3)), (4, .int (x4)), (5, .int (x5))] [] M (PR (some (.int v9)) M9) := by
  unfold fX2_shownFrom at H
  refine Z.aload_n dX2_shownFrom_0 0 rfl ?_
  refine Z.iload dX2_shownFrom_1 5 rfl ?_
  refine bindC H (fun v1 hv1 H => ?_)
  refine Z.callV (As := [.int (x5)]) (rest := []) (st' := []) dX2_shownFrom_3 (kX2_standAt hb (x5) M hv1) kw286 kw288 ks6 kw6 kw289 hdX2_standAt (cS hb) (c2 hb) (hc := rfl) (by decide) (by decide) rfl rfl (Nat.le_of_ble_eq_true rfl) rfl ?_
  refine Z.iconst (v := 0) dX2_shownFrom_6 (by decide) ?_
  refine Z.istore (lv' := [(6, .int (0)), (0, .ref (eA E (b))), (1, .int (x1)), (2, .int (x2)), (3, .int (x3)), (4, .int (x4)), (5, .int (x5))]) dX2_shownFrom_7 (by decide) rfl ?_
  refine Z.iconst (v := 0) dX2_shownFrom_9 (by decide) ?_
  refine Z.istore (lv' := [(7, .int (0)), (6, .int (0)), (0, .ref (eA E (b))), (1, .int (x1)), (2, .int (x2)), (3, .int (x3)), (4, .int (x4)), (5, .int (x5))]) dX2_shownFrom_10 (by decide) rfl ?_
  refine Z.sub [2, 3, 4, 5, 6, 1, 0] rfl ?_
  exact tX2_shownFrom_12L hb  FU (x1) (x2) (x3) (x4) (0) (0) v1 H
theorem kX2_shownFrom {l : Launch} {E : Env5} {b : Nat} (hb : isSc b) (x1 : Int32) (x2 : Int32) (x3 : Int32) (x4 : Int32) (x5 : Int32) (M : Mem) {v9 : Int32} {M9 : Mem} (H : fX2_shownFrom b x1 x2 x3 x4 x5 M = some (v9, M9)) : Cn l E yX2_shownFrom cX2_shownFrom 8 (some .int) 3 [.ref (eA E (b)), .int (x1), .int (x2), .int (x3), .int (x4), .int (x5)] M (PR (some (.int v9)) M9) := Cn.ofZ rfl (Nat.le_of_ble_eq_true rfl) rfl (tX2_shownFrom_0 hb x1 x2 x3 x4 x5 M H)
theorem hdX2_shownFrom : yX2_shownFrom.cls ≠ "java/lang/invoke/MethodHandle" ∧ yX2_shownFrom.cls ≠ "java/lang/invoke/VarHandle" ∧ (parseMethodDescriptor yX2_shownFrom.desc).map (fun d => d.parameters.length) = some 5 := by decide +kernel

set_option maxRecDepth 100000 in
theorem tX2_showAll_2 {l : Launch} {E : Env5} {b : Nat} {a2 : Nat} {n2 : Nat} (hb : isSc b) (ha2 : iA a2 n2) {k2 : Int32 → Int32 → Mem → Option Mem} (x1 : Int32) (x3 : Int32) (M : Mem) {M9 : Mem} (hk2 : ∀ (x1 : Int32) (x3 : Int32) (M : Mem), k2 x1 x3 M = some M9 → Z l E RX2 cX2_showAll 5 none 4 2 [(0, .ref (eA E (b))), (1, .int (x1)), (2, .ref (eA E (a2))), (3, .int (x3))] [] M (PR none M9)) (H : fX2_showAll_2B k2 b a2 n2 x1 x3 M = some M9) : Z l E RX2 cX2_showAll 5 none 4 2 [(0, .ref (eA E (b))), (1, .int (x1)), (2, .ref (eA E (a2))), (3, .int (x3))] [] M (PR none M9) := by
  unfold fX2_showAll_2B at H
  refine Z.iload_n dX2_showAll_2 3 rfl ?_
  refine Z.aload_n dX2_showAll_3 0 rfl ?_
  refine Z.get dX2_showAll_4 inX2 (hc := rfl) (cS hb) (c2 hb) 7 (by decide) kw128 rfl rfl ?_
  refine Z.icmp_geH dX2_showAll_7 H (fun br7 H => ?_) (fun br7 H => ?_)
  · exact Z.vret rfl dX2_showAll_61 (retV H)
  · refine Z.iload_n dX2_showAll_10 1 rfl ?_
    refine Z.aload_n dX2_showAll_11 0 rfl ?_
    refine Z.iload_n dX2_showAll_12 3 rfl ?_
    refine Z.iconst (v := 3) dX2_showAll_13 (by decide) ?_
    refine bindC H (fun v1 hv1 H => ?_)
    refine Z.callV (As := [.int (x3), .int (3)]) (rest := [.int (x1)]) (st' := [.int (v1), .int (x1)]) dX2_showAll_14 (kX2_ofPicture hb (x3) (3) M hv1) kw277 kw278 kw279 kw6 kw280 hdX2_ofPicture (cS hb) (c2 hb) (hc := rfl) (by decide) (by decide) rfl rfl (Nat.le_of_ble_eq_true rfl) rfl ?_
    refine Z.mmin dX2_showAll_17 kw281 kw229 kw8 km_min (by decide) (Nat.le_of_ble_eq_true rfl) ?_
    refine Z.istore (lv' := [(4, .int (imin x1 v1)), (0, .ref (eA E (b))), (1, .int (x1)), (2, .ref (eA E (a2))), (3, .int (x3))]) dX2_showAll_20 (by decide) rfl ?_
    refine Z.aload_n dX2_showAll_22 3 rfl ?_
    refine Z.iload_n dX2_showAll_23 4 rfl ?_
    refine Z.aload_n dX2_showAll_24 1 rfl ?_
    refine Z.aload_n dX2_showAll_25 1 rfl ?_
    refine Z.iload_n dX2_showAll_26 4 rfl ?_
    refine Z.iconst (v := 0) dX2_showAll_27 (by decide) ?_
    refine bindC H (fun v2 hv2 H => ?_)
    refine Z.callV (As := [.int (x3), .int (0)]) (rest := [.ref (eA E (b)), .int (x3), .ref (eA E (a2))]) (st' := [.int (v2), .ref (eA E (b)), .int (x3), .ref (eA E (a2))]) dX2_showAll_28 (kX2_ofPicture hb (x3) (0) M hv2) kw277 kw278 kw279 kw6 kw280 hdX2_ofPicture (cS hb) (c2 hb) (hc := rfl) (by decide) (by decide) rfl rfl (Nat.le_of_ble_eq_true rfl) rfl ?_
    refine Z.aload_n dX2_showAll_31 1 rfl ?_
    refine Z.iload_n dX2_showAll_32 4 rfl ?_
    refine Z.iconst (v := 1) dX2_showAll_33 (by decide) ?_
    refine bindC H (fun v3 hv3 H => ?_)
    refine Z.callV (As := [.int (x3), .int (1)]) (rest := [.int (v2), .ref (eA E (b)), .int (x3), .ref (eA E (a2))]) (st' := [.int (v3), .int (v2), .ref (eA E (b)), .int (x3), .ref (eA E (a2))]) dX2_showAll_34 (kX2_ofPicture hb (x3) (1) M hv3) kw277 kw278 kw279 kw6 kw280 hdX2_ofPicture (cS hb) (c2 hb) (hc := rfl) (by decide) (by decide) rfl rfl (Nat.le_of_ble_eq_true rfl) rfl ?_
    refine Z.aload_n dX2_showAll_37 1 rfl ?_
    refine Z.iload_n dX2_showAll_38 4 rfl ?_
    refine Z.iconst (v := 2) dX2_showAll_39 (by decide) ?_
    refine bindC H (fun v4 hv4 H => ?_)
    refine Z.callV (As := [.int (x3), .int (2)]) (rest := [.int (v3), .int (v2), .ref (eA E (b)), .int (x3), .ref (eA E (a2))]) (st' := [.int (v4), .int (v3), .int (v2), .ref (eA E (b)), .int (x3), .ref (eA E (a2))]) dX2_showAll_40 (kX2_ofPicture hb (x3) (2) M hv4) kw277 kw278 kw279 kw6 kw280 hdX2_ofPicture (cS hb) (c2 hb) (hc := rfl) (by decide) (by decide) rfl rfl (Nat.le_of_ble_eq_true rfl) rfl ?_
    refine Z.iload dX2_showAll_43 0 rfl ?_
    refine Z.aload_n dX2_showAll_45 1 rfl ?_
    refine Z.iload_n dX2_showAll_46 4 rfl ?_
    refine Z.iconst (v := 4) dX2_showAll_47 (by decide) ?_
    refine bindC H (fun v5 hv5 H => ?_)
    refine Z.callV (As := [.int (x3), .int (4)]) (rest := [.int (imin x1 v1), .int (v4), .int (v3), .int (v2), .ref (eA E (b)), .int (x3), .ref (eA E (a2))]) (st' := [.int (v5), .int (imin x1 v1), .int (v4), .int (v3), .int (v2), .ref (eA E (b)), .int (x3), .ref (eA E (a2))]) dX2_showAll_48 (kX2_ofPicture hb (x3) (4) M hv5) kw277 kw278 kw279 kw6 kw280 hdX2_ofPicture (cS hb) (c2 hb) (hc := rfl) (by decide) (by decide) rfl rfl (Nat.le_of_ble_eq_true rfl) rfl ?_
    refine bindC H (fun v6 hv6 H => ?_)
    refine Z.callV (As := [.int (v2), .int (v3), .int (v4), .int (imin x1 v1), .int (v5)]) (rest := [.int (x3), .ref (eA E (a2))]) (st' := [.int (v6.1), .int (x3), .ref (eA E (a2))]) dX2_showAll_51 (kX2_shownFrom hb (v2) (v3) (v4) (imin x1 v1) (v5) M hv6) kw282 kw283 kw284 kw6 kw285 hdX2_shownFrom (cS hb) (c2 hb) (hc := rfl) (by decide) (by decide) rfl rfl (Nat.le_of_ble_eq_true rfl) rfl ?_
    refine Z.iastH dX2_showAll_54 ha2 H (fun M7 H => ?_)
    refine Z.iinc (v := x3 + 1) (lv' := [(3, .int (x3 + 1)), (4, .int (imin x1 v1)), (0, .ref (eA E (b))), (1, .int (x1)), (2, .ref (eA E (a2)))]) dX2_showAll_55 4 rfl rfl (by decide) rfl ?_
    refine Z.goto dX2_showAll_58 ?_
    refine Z.sub [2, 3, 4, 0] rfl ?_
    exact hk2 (x1) (x3 + 1) M7  H
theorem tX2_showAll_2L {l : Launch} {E : Env5} {b : Nat} {a2 : Nat} {n2 : Nat} (hb : isSc b) (ha2 : iA a2 n2)   {M9 : Mem}  : ∀ (n : Nat) (x1 : Int32) (x3 : Int32) (M : Mem), fX2_showAll_2L  b a2 n2 n x1 x3 M = some M9 → Z l E RX2 cX2_showAll 5 none 4 2 [(0, .ref (eA E (b))), (1, .int (x1)), (2, .ref (eA E (a2))), (3, .int (x3))] [] M (PR none M9) := by
  intro n
  induction n with
  | zero => intro x1 x3 M H; exact absurd H (by simp [fX2_showAll_2L])
  | succ n ih => intro x1 x3 M H; exact tX2_showAll_2 hb ha2 x1 x3 M  (fun x1 x3 M H => ih x1 x3 M H) H
set_option maxRecDepth 100000 in
theorem tX2_showAll_0 {l : Launch} {E : Env5} {b : Nat} {a2 : Nat} {n2 : Nat} (hb : isSc b) (ha2 : iA a2 n2)  (x1 : Int32) (M : Mem) {M9 : Mem}  (H : fX2_showAll  b a2 n2 x1 M = some M9) : Z l E RX2 cX2_showAll 5 none 4 0 [(0, .ref (eA E (b))), (1, .int (x1)), (2, .ref (eA E (a2)))] [] M (PR none M9) := by
  unfold fX2_showAll at H
  refine Z.iconst (v := 0) dX2_showAll_0 (by decide) ?_
  refine Z.istore_n (lv' := [(3, .int (0)), (0, .ref (eA E (b))), (1, .int (x1)), (2, .ref (eA E (a2)))]) dX2_showAll_1 (by decide) rfl ?_
  refine Z.sub [1, 2, 3, 0] rfl ?_
  exact tX2_showAll_2L hb ha2  FU (x1) (0) M H
theorem kX2_showAll {l : Launch} {E : Env5} {b : Nat} {a2 : Nat} {n2 : Nat} (hb : isSc b) (ha2 : iA a2 n2) (x1 : Int32) (M : Mem) {M9 : Mem} (H : fX2_showAll b a2 n2 x1 M = some M9) : Cn l E yX2_showAll cX2_showAll 5 none 4 [.ref (eA E (b)), .int (x1), .ref (eA E (a2))] M (PR none M9) := Cn.ofZ rfl (Nat.le_of_ble_eq_true rfl) rfl (tX2_showAll_0 hb ha2 x1 M H)
theorem hdX2_showAll : yX2_showAll.cls ≠ "java/lang/invoke/MethodHandle" ∧ yX2_showAll.cls ≠ "java/lang/invoke/VarHandle" ∧ (parseMethodDescriptor yX2_showAll.desc).map (fun d => d.parameters.length) = some 2 := by decide +kernel

set_option maxRecDepth 100000 in
theorem tX2_stateInPicture_0 {l : Launch} {E : Env5} {b : Nat} (hb : isSc b)  (x1 : Int32) (x2 : Int32) (M : Mem) {v9 : Int32} {M9 : Mem}  (H : fX2_stateInPicture  b x1 x2 M = some (v9, M9)) : Z l E RX2 cX2_stateInPicture 3 (some .int) 3 0 [(0, .ref (eA E (b))), (1, .int (x1)), (2, .int (x2))] [] M (PR (some (.int v9)) M9) := by
  unfold fX2_stateInPicture at H
  refine Z.aload_n dX2_stateInPicture_0 0 rfl ?_
  refine Z.aload_n dX2_stateInPicture_1 0 rfl ?_
  refine Z.iload_n dX2_stateInPicture_2 1 rfl ?_
  refine Z.iconst (v := 4) dX2_stateInPicture_3 (by decide) ?_
  refine bindC H (fun v1 hv1 H => ?_)
  refine Z.callV (As := [.int (x1), .int (4)]) (rest := [.ref (eA E (b))]) (st' := [.int (v1), .ref (eA E (b))]) dX2_stateInPicture_4 (kX2_ofPicture hb (x1) (4) M hv1) kw277 kw278 kw279 kw6 kw280 hdX2_ofPicture (cS hb) (c2 hb) (hc := rfl) (by decide) (by decide) rfl rfl (Nat.le_of_ble_eq_true rfl) rfl ?_
  refine bindC H (fun v2 hv2 H => ?_)
  refine Z.callV (As := [.int (v1)]) (rest := []) (st' := []) dX2_stateInPicture_7 (kX2_standAt hb (v1) M hv2) kw286 kw288 ks6 kw6 kw289 hdX2_standAt (cS hb) (c2 hb) (hc := rfl) (by decide) (by decide) rfl rfl (Nat.le_of_ble_eq_true rfl) rfl ?_
  refine Z.aload_n dX2_stateInPicture_10 0 rfl ?_
  refine Z.iload_n dX2_stateInPicture_11 2 rfl ?_
  refine Z.aload_n dX2_stateInPicture_12 0 rfl ?_
  refine Z.iload_n dX2_stateInPicture_13 1 rfl ?_
  refine Z.iconst (v := 0) dX2_stateInPicture_14 (by decide) ?_
  refine bindC H (fun v3 hv3 H => ?_)
  refine Z.callV (As := [.int (x1), .int (0)]) (rest := [.int (x2), .ref (eA E (b))]) (st' := [.int (v3), .int (x2), .ref (eA E (b))]) dX2_stateInPicture_15 (kX2_ofPicture hb (x1) (0) v2 hv3) kw277 kw278 kw279 kw6 kw280 hdX2_ofPicture (cS hb) (c2 hb) (hc := rfl) (by decide) (by decide) rfl rfl (Nat.le_of_ble_eq_true rfl) rfl ?_
  refine Z.aload_n dX2_stateInPicture_18 0 rfl ?_
  refine Z.iload_n dX2_stateInPicture_19 1 rfl ?_
  refine Z.iconst (v := 1) dX2_stateInPicture_20 (by decide) ?_
  refine bindC H (fun v4 hv4 H => ?_)
  refine Z.callV (As := [.int (x1), .int (1)]) (rest := [.int (v3), .int (x2), .ref (eA E (b))]) (st' := [.int (v4), .int (v3), .int (x2), .ref (eA E (b))]) dX2_stateInPicture_21 (kX2_ofPicture hb (x1) (1) v2 hv4) kw277 kw278 kw279 kw6 kw280 hdX2_ofPicture (cS hb) (c2 hb) (hc := rfl) (by decide) (by decide) rfl rfl (Nat.le_of_ble_eq_true rfl) rfl ?_
  refine Z.aload_n dX2_stateInPicture_24 0 rfl ?_
  refine Z.iload_n dX2_stateInPicture_25 1 rfl ?_
  refine Z.iconst (v := 2) dX2_stateInPicture_26 (by decide) ?_
  refine bindC H (fun v5 hv5 H => ?_)
  refine Z.callV (As := [.int (x1), .int (2)]) (rest := [.int (v4), .int (v3), .int (x2), .ref (eA E (b))]) (st' := [.int (v5), .int (v4), .int (v3), .int (x2), .ref (eA E (b))]) dX2_stateInPicture_27 (kX2_ofPicture hb (x1) (2) v2 hv5) kw277 kw278 kw279 kw6 kw280 hdX2_ofPicture (cS hb) (c2 hb) (hc := rfl) (by decide) (by decide) rfl rfl (Nat.le_of_ble_eq_true rfl) rfl ?_
  refine Z.aload_n dX2_stateInPicture_30 0 rfl ?_
  refine Z.iload_n dX2_stateInPicture_31 1 rfl ?_
  refine Z.iconst (v := 3) dX2_stateInPicture_32 (by decide) ?_
  refine bindC H (fun v6 hv6 H => ?_)
  refine Z.callV (As := [.int (x1), .int (3)]) (rest := [.int (v5), .int (v4), .int (v3), .int (x2), .ref (eA E (b))]) (st' := [.int (v6), .int (v5), .int (v4), .int (v3), .int (x2), .ref (eA E (b))]) dX2_stateInPicture_33 (kX2_ofPicture hb (x1) (3) v2 hv6) kw277 kw278 kw279 kw6 kw280 hdX2_ofPicture (cS hb) (c2 hb) (hc := rfl) (by decide) (by decide) rfl rfl (Nat.le_of_ble_eq_true rfl) rfl ?_
  refine bindC H (fun v7 hv7 H => ?_)
  refine Z.callV (As := [.int (x2), .int (v3), .int (v4), .int (v5), .int (v6)]) (rest := []) (st' := [.int (v7)]) dX2_stateInPicture_36 (kX2_stateOf hb (x2) (v3) (v4) (v5) (v6) v2 hv7) kw304 kw306 ks7 kw6 kw307 hdX2_stateOf (cS hb) (c2 hb) (hc := rfl) (by decide) (by decide) rfl rfl (Nat.le_of_ble_eq_true rfl) rfl ?_
  exact Z.iret rfl dX2_stateInPicture_39 (retW H)
theorem kX2_stateInPicture {l : Launch} {E : Env5} {b : Nat} (hb : isSc b) (x1 : Int32) (x2 : Int32) (M : Mem) {v9 : Int32} {M9 : Mem} (H : fX2_stateInPicture b x1 x2 M = some (v9, M9)) : Cn l E yX2_stateInPicture cX2_stateInPicture 3 (some .int) 3 [.ref (eA E (b)), .int (x1), .int (x2)] M (PR (some (.int v9)) M9) := Cn.ofZ rfl (Nat.le_of_ble_eq_true rfl) rfl (tX2_stateInPicture_0 hb x1 x2 M H)
theorem hdX2_stateInPicture : yX2_stateInPicture.cls ≠ "java/lang/invoke/MethodHandle" ∧ yX2_stateInPicture.cls ≠ "java/lang/invoke/VarHandle" ∧ (parseMethodDescriptor yX2_stateInPicture.desc).map (fun d => d.parameters.length) = some 2 := by decide +kernel

set_option maxRecDepth 100000 in
theorem tX2_isPlaceOf_0 {l : Launch} {E : Env5} {b : Nat} (hb : isSc b)  (x1 : Int32) (x2 : Int32) (x3 : Int32) (x4 : Int32) (M : Mem) {v9 : Int32} {M9 : Mem}  (H : fX2_isPlaceOf  b x1 x2 x3 x4 M = some (v9, M9)) : Z l E RX2 cX2_isPlaceOf 6 (some .boolean) 4 0 [(0, .ref (eA E (b))), (1, .int (x1)), (2, .int (x2)), (3, .int (x3)), (4, .int (x4))] [] M (PR (some (.int v9)) M9) := by
  unfold fX2_isPlaceOf at H
  refine Z.iload_n dX2_isPlaceOf_0 1 rfl ?_
  refine Z.iconst (v := 4) dX2_isPlaceOf_1 (by decide) ?_
  refine Z.idiv dX2_isPlaceOf_2 (by decide) ?_
  refine Z.istore (lv' := [(5, .int (x1 / 4)), (0, .ref (eA E (b))), (1, .int (x1)), (2, .int (x2)), (3, .int (x3)), (4, .int (x4))]) dX2_isPlaceOf_3 (by decide) rfl ?_
  refine Z.aload_n dX2_isPlaceOf_5 1 rfl ?_
  refine Z.get dX2_isPlaceOf_6 inX2 (hc := rfl) (cS hb) (c2 hb) 3 (by decide) kw118 rfl rfl ?_
  refine Z.iconst (v := 1) dX2_isPlaceOf_9 (by decide) ?_
  refine Z.icmp_ltH dX2_isPlaceOf_10 H (fun br10 H => ?_) (fun br10 H => ?_)
  · refine Z.iconst (v := 0) dX2_isPlaceOf_23 (by decide) ?_
    exact Z.zret rfl rfl dX2_isPlaceOf_24 (retW H)
  · refine Z.aload_n dX2_isPlaceOf_13 1 rfl ?_
    refine Z.get dX2_isPlaceOf_14 inX2 (hc := rfl) (cS hb) (c2 hb) 0 (by decide) kw115 rfl rfl ?_
    refine Z.iload dX2_isPlaceOf_17 0 rfl ?_
    refine Z.zaldH dX2_isPlaceOf_19 (a2_walls hb) H (fun v1 H => ?_)
    refine Z.if_eqH dX2_isPlaceOf_20 H (fun br20 H => ?_) (fun br20 H => ?_)
    · refine Z.aload_n dX2_isPlaceOf_25 1 rfl ?_
      refine Z.iload dX2_isPlaceOf_26 0 rfl ?_
      refine Z.aload_n dX2_isPlaceOf_28 1 rfl ?_
      refine Z.get dX2_isPlaceOf_29 inX2 (hc := rfl) (cS hb) (c2 hb) 3 (by decide) kw118 rfl rfl ?_
      refine Z.iremH dX2_isPlaceOf_32 H (fun v2 H => ?_)
      refine Z.iload dX2_isPlaceOf_33 0 rfl ?_
      refine Z.aload_n dX2_isPlaceOf_35 1 rfl ?_
      refine Z.get dX2_isPlaceOf_36 inX2 (hc := rfl) (cS hb) (c2 hb) 3 (by decide) kw118 rfl rfl ?_
      refine Z.idivH dX2_isPlaceOf_39 H (fun v3 H => ?_)
      refine Z.iload_n dX2_isPlaceOf_40 2 rfl ?_
      refine Z.iconst (v := 4) dX2_isPlaceOf_41 (by decide) ?_
      refine Z.irem dX2_isPlaceOf_42 (by decide) ?_
      refine Z.iload_n dX2_isPlaceOf_43 4 rfl ?_
      refine Z.iload dX2_isPlaceOf_44 5 rfl ?_
      refine bindC H (fun v4 hv4 H => ?_)
      refine Z.callV (As := [.int (v2), .int (v3), .int (x1 - x1 / 4 * 4), .int (x3), .int (x4)]) (rest := []) (st' := [.int (v4.1)]) dX2_isPlaceOf_46 (kX2_shownFrom hb (v2) (v3) (x1 - x1 / 4 * 4) (x3) (x4) M hv4) kw282 kw283 kw284 kw6 kw285 hdX2_shownFrom (cS hb) (c2 hb) (hc := rfl) (by decide) (by decide) rfl rfl (Nat.le_of_ble_eq_true rfl) rfl ?_
      refine Z.iload_n dX2_isPlaceOf_49 3 rfl ?_
      refine Z.icmp_neH dX2_isPlaceOf_50 H (fun br50 H => ?_) (fun br50 H => ?_)
      · refine Z.iconst (v := 0) dX2_isPlaceOf_57 (by decide) ?_
        exact Z.zret rfl rfl dX2_isPlaceOf_58 (retW H)
      · refine Z.iconst (v := 1) dX2_isPlaceOf_53 (by decide) ?_
        refine Z.goto dX2_isPlaceOf_54 ?_
        exact Z.zret rfl rfl dX2_isPlaceOf_58 (retW H)
    · refine Z.iconst (v := 0) dX2_isPlaceOf_23 (by decide) ?_
      exact Z.zret rfl rfl dX2_isPlaceOf_24 (retW H)
theorem kX2_isPlaceOf {l : Launch} {E : Env5} {b : Nat} (hb : isSc b) (x1 : Int32) (x2 : Int32) (x3 : Int32) (x4 : Int32) (M : Mem) {v9 : Int32} {M9 : Mem} (H : fX2_isPlaceOf b x1 x2 x3 x4 M = some (v9, M9)) : Cn l E yX2_isPlaceOf cX2_isPlaceOf 6 (some .boolean) 4 [.ref (eA E (b)), .int (x1), .int (x2), .int (x3), .int (x4)] M (PR (some (.int v9)) M9) := Cn.ofZ rfl (Nat.le_of_ble_eq_true rfl) rfl (tX2_isPlaceOf_0 hb x1 x2 x3 x4 M H)
theorem hdX2_isPlaceOf : yX2_isPlaceOf.cls ≠ "java/lang/invoke/MethodHandle" ∧ yX2_isPlaceOf.cls ≠ "java/lang/invoke/VarHandle" ∧ (parseMethodDescriptor yX2_isPlaceOf.desc).map (fun d => d.parameters.length) = some 4 := by decide +kernel

set_option maxRecDepth 100000 in
theorem tX2_countPlacesOf_37 {l : Launch} {E : Env5} {b : Nat} (hb : isSc b) {k6 : Int32 → Int32 → Int32 → Int32 → Int32 → Mem → Option (Int32 × Mem)} (x1 : Int32) (x2 : Int32) (x3 : Int32) (x4 : Int32) (x5 : Int32) (M : Mem) {v9 : Int32} {M9 : Mem} (hk6 : ∀ (x1 : Int32) (x2 : Int32) (x3 : Int32) (x4 : Int32) (x5 : Int32) (M : Mem), k6 x1 x2 x3 x4 x5 M = some (v9, M9) → Z l E RX2 cX2_countPlacesOf 6 (some .int) 5 6 [(0, .ref (eA E (b))), (1, .int (x1)), (2, .int (x2)), (3, .int (x3)), (4, .int (x4)), (5, .int (x5))] [] M (PR (some (.int v9)) M9)) (H : fX2_countPlacesOf_37 k6 b x1 x2 x3 x4 x5 M = some (v9, M9)) : Z l E RX2 cX2_countPlacesOf 6 (some .int) 5 37 [(0, .ref (eA E (b))), (1, .int (x1)), (2, .int (x2)), (3, .int (x3)), (4, .int (x4)), (5, .int (x5))] [] M (PR (some (.int v9)) M9) := by
  unfold fX2_countPlacesOf_37 at H
  refine Z.iinc (v := x5 + 1) (lv' := [(5, .int (x5 + 1)), (0, .ref (eA E (b))), (1, .int (x1)), (2, .int (x2)), (3, .int (x3)), (4, .int (x4))]) dX2_countPlacesOf_37 5 rfl rfl (by decide) rfl ?_
  refine Z.goto dX2_countPlacesOf_40 ?_
  refine Z.sub [1, 2, 3, 4, 5, 0] rfl ?_
  exact hk6 (x1) (x2) (x3) (x4) (x5 + 1) M  H
set_option maxRecDepth 100000 in
theorem tX2_countPlacesOf_6 {l : Launch} {E : Env5} {b : Nat} (hb : isSc b) {k6 : Int32 → Int32 → Int32 → Int32 → Int32 → Mem → Option (Int32 × Mem)} (x1 : Int32) (x2 : Int32) (x3 : Int32) (x4 : Int32) (x5 : Int32) (M : Mem) {v9 : Int32} {M9 : Mem} (hk6 : ∀ (x1 : Int32) (x2 : Int32) (x3 : Int32) (x4 : Int32) (x5 : Int32) (M : Mem), k6 x1 x2 x3 x4 x5 M = some (v9, M9) → Z l E RX2 cX2_countPlacesOf 6 (some .int) 5 6 [(0, .ref (eA E (b))), (1, .int (x1)), (2, .int (x2)), (3, .int (x3)), (4, .int (x4)), (5, .int (x5))] [] M (PR (some (.int v9)) M9)) (H : fX2_countPlacesOf_6B k6 b x1 x2 x3 x4 x5 M = some (v9, M9)) : Z l E RX2 cX2_countPlacesOf 6 (some .int) 5 6 [(0, .ref (eA E (b))), (1, .int (x1)), (2, .int (x2)), (3, .int (x3)), (4, .int (x4)), (5, .int (x5))] [] M (PR (some (.int v9)) M9) := by
  unfold fX2_countPlacesOf_6B at H
  refine Z.iload dX2_countPlacesOf_6 5 rfl ?_
  refine Z.iconst (v := 4) dX2_countPlacesOf_8 (by decide) ?_
  refine Z.aload_n dX2_countPlacesOf_9 0 rfl ?_
  refine Z.get dX2_countPlacesOf_10 inX2 (hc := rfl) (cS hb) (c2 hb) 3 (by decide) kw118 rfl rfl ?_
  refine Z.imul dX2_countPlacesOf_13 ?_
  refine Z.aload_n dX2_countPlacesOf_14 0 rfl ?_
  refine Z.get dX2_countPlacesOf_15 inX2 (hc := rfl) (cS hb) (c2 hb) 4 (by decide) kw121 rfl rfl ?_
  refine Z.imul dX2_countPlacesOf_18 ?_
  refine Z.icmp_geH dX2_countPlacesOf_19 H (fun br19 H => ?_) (fun br19 H => ?_)
  · refine Z.iload dX2_countPlacesOf_43 4 rfl ?_
    exact Z.iret rfl dX2_countPlacesOf_45 (retW H)
  · refine Z.aload_n dX2_countPlacesOf_22 0 rfl ?_
    refine Z.iload dX2_countPlacesOf_23 5 rfl ?_
    refine Z.iload_n dX2_countPlacesOf_25 1 rfl ?_
    refine Z.iload_n dX2_countPlacesOf_26 2 rfl ?_
    refine Z.iload_n dX2_countPlacesOf_27 3 rfl ?_
    refine bindC H (fun v1 hv1 H => ?_)
    refine Z.callV (As := [.int (x5), .int (x1), .int (x2), .int (x3)]) (rest := []) (st' := [.int (v1.1)]) dX2_countPlacesOf_28 (kX2_isPlaceOf hb (x5) (x1) (x2) (x3) M hv1) kw394 kw396 ks9 kw6 kw397 hdX2_isPlaceOf (cS hb) (c2 hb) (hc := rfl) (by decide) (by decide) rfl rfl (Nat.le_of_ble_eq_true rfl) rfl ?_
    refine Z.if_eqH dX2_countPlacesOf_31 H (fun br31 H => ?_) (fun br31 H => ?_)
    · refine Z.sub [0, 1, 2, 3, 4, 5] rfl ?_
      exact tX2_countPlacesOf_37 hb (x1) (x2) (x3) (x4) (x5) v1.2 hk6 H
    · refine Z.iinc (v := x4 + 1) (lv' := [(4, .int (x4 + 1)), (0, .ref (eA E (b))), (1, .int (x1)), (2, .int (x2)), (3, .int (x3)), (5, .int (x5))]) dX2_countPlacesOf_34 4 rfl rfl (by decide) rfl ?_
      refine Z.sub [1, 2, 3, 4, 0, 5] rfl ?_
      exact tX2_countPlacesOf_37 hb (x1) (x2) (x3) (x4 + 1) (x5) v1.2 hk6 H
theorem tX2_countPlacesOf_6L {l : Launch} {E : Env5} {b : Nat} (hb : isSc b)   {v9 : Int32} {M9 : Mem}  : ∀ (n : Nat) (x1 : Int32) (x2 : Int32) (x3 : Int32) (x4 : Int32) (x5 : Int32) (M : Mem), fX2_countPlacesOf_6L  b n x1 x2 x3 x4 x5 M = some (v9, M9) → Z l E RX2 cX2_countPlacesOf 6 (some .int) 5 6 [(0, .ref (eA E (b))), (1, .int (x1)), (2, .int (x2)), (3, .int (x3)), (4, .int (x4)), (5, .int (x5))] [] M (PR (some (.int v9)) M9) := by
  intro n
  induction n with
  | zero => intro x1 x2 x3 x4 x5 M H; exact absurd H (by simp [fX2_countPlacesOf_6L])
  | succ n ih => intro x1 x2 x3 x4 x5 M H; exact tX2_countPlacesOf_6 hb x1 x2 x3 x4 x5 M  (fun x1 x2 x3 x4 x5 M H => ih x1 x2 x3 x4 x5 M H) H
set_option maxRecDepth 100000 in
theorem tX2_countPlacesOf_0 {l : Launch} {E : Env5} {b : Nat} (hb : isSc b)  (x1 : Int32) (x2 : Int32) (x3 : Int32) (M : Mem) {v9 : Int32} {M9 : Mem}  (H : fX2_countPlacesOf  b x1 x2 x3 M = some (v9, M9)) : Z l E RX2 cX2_countPlacesOf 6 (some .int) 5 0 [(0, .ref (eA E (b))), (1, .int (x1)), (2, .int (x2)), (3, .int (x3))] [] M (PR (some (.int v9)) M9) := by
  unfold fX2_countPlacesOf at H
  refine Z.iconst (v := 0) dX2_countPlacesOf_0 (by decide) ?_
  refine Z.istore (lv' := [(4, .int (0)), (0, .ref (eA E (b))), (1, .int (x1)), (2, .int (x2)), (3, .int (x3))]) dX2_countPlacesOf_1 (by decide) rfl ?_
  refine Z.iconst (v := 0) dX2_countPlacesOf_3 (by decide) ?_
  refine Z.istore (lv' := [(5, .int (0)), (4, .int (0)), (0, .ref (eA E (b))), (1, .int (x1)), (2, .int (x2)), (3, .int (x3))]) dX2_countPlacesOf_4 (by decide) rfl ?_
  refine Z.sub [2, 3, 4, 5, 1, 0] rfl ?_
  exact tX2_countPlacesOf_6L hb  FU (x1) (x2) (x3) (0) (0) M H
theorem kX2_countPlacesOf {l : Launch} {E : Env5} {b : Nat} (hb : isSc b) (x1 : Int32) (x2 : Int32) (x3 : Int32) (M : Mem) {v9 : Int32} {M9 : Mem} (H : fX2_countPlacesOf b x1 x2 x3 M = some (v9, M9)) : Cn l E yX2_countPlacesOf cX2_countPlacesOf 6 (some .int) 5 [.ref (eA E (b)), .int (x1), .int (x2), .int (x3)] M (PR (some (.int v9)) M9) := Cn.ofZ rfl (Nat.le_of_ble_eq_true rfl) rfl (tX2_countPlacesOf_0 hb x1 x2 x3 M H)
theorem hdX2_countPlacesOf : yX2_countPlacesOf.cls ≠ "java/lang/invoke/MethodHandle" ∧ yX2_countPlacesOf.cls ≠ "java/lang/invoke/VarHandle" ∧ (parseMethodDescriptor yX2_countPlacesOf.desc).map (fun d => d.parameters.length) = some 3 := by decide +kernel

set_option maxRecDepth 100000 in
theorem tX2_firstPlaceOf_3 {l : Launch} {E : Env5} {b : Nat} (hb : isSc b) {k3 : Int32 → Int32 → Int32 → Int32 → Mem → Option (Int32 × Mem)} (x1 : Int32) (x2 : Int32) (x3 : Int32) (x4 : Int32) (M : Mem) {v9 : Int32} {M9 : Mem} (hk3 : ∀ (x1 : Int32) (x2 : Int32) (x3 : Int32) (x4 : Int32) (M : Mem), k3 x1 x2 x3 x4 M = some (v9, M9) → Z l E RX2 cX2_firstPlaceOf 5 (some .int) 5 3 [(0, .ref (eA E (b))), (1, .int (x1)), (2, .int (x2)), (3, .int (x3)), (4, .int (x4))] [] M (PR (some (.int v9)) M9)) (H : fX2_firstPlaceOf_3B k3 b x1 x2 x3 x4 M = some (v9, M9)) : Z l E RX2 cX2_firstPlaceOf 5 (some .int) 5 3 [(0, .ref (eA E (b))), (1, .int (x1)), (2, .int (x2)), (3, .int (x3)), (4, .int (x4))] [] M (PR (some (.int v9)) M9) := by
  unfold fX2_firstPlaceOf_3B at H
  refine Z.iload dX2_firstPlaceOf_3 4 rfl ?_
  refine Z.iconst (v := 4) dX2_firstPlaceOf_5 (by decide) ?_
  refine Z.aload_n dX2_firstPlaceOf_6 0 rfl ?_
  refine Z.get dX2_firstPlaceOf_7 inX2 (hc := rfl) (cS hb) (c2 hb) 3 (by decide) kw118 rfl rfl ?_
  refine Z.imul dX2_firstPlaceOf_10 ?_
  refine Z.aload_n dX2_firstPlaceOf_11 0 rfl ?_
  refine Z.get dX2_firstPlaceOf_12 inX2 (hc := rfl) (cS hb) (c2 hb) 4 (by decide) kw121 rfl rfl ?_
  refine Z.imul dX2_firstPlaceOf_15 ?_
  refine Z.icmp_geH dX2_firstPlaceOf_16 H (fun br16 H => ?_) (fun br16 H => ?_)
  · refine Z.bipush (v := (-9)) dX2_firstPlaceOf_40 (by decide) ?_
    exact Z.iret rfl dX2_firstPlaceOf_42 (retW H)
  · refine Z.aload_n dX2_firstPlaceOf_19 0 rfl ?_
    refine Z.iload dX2_firstPlaceOf_20 4 rfl ?_
    refine Z.iload_n dX2_firstPlaceOf_22 1 rfl ?_
    refine Z.iload_n dX2_firstPlaceOf_23 2 rfl ?_
    refine Z.iload_n dX2_firstPlaceOf_24 3 rfl ?_
    refine bindC H (fun v1 hv1 H => ?_)
    refine Z.callV (As := [.int (x4), .int (x1), .int (x2), .int (x3)]) (rest := []) (st' := [.int (v1.1)]) dX2_firstPlaceOf_25 (kX2_isPlaceOf hb (x4) (x1) (x2) (x3) M hv1) kw394 kw396 ks9 kw6 kw397 hdX2_isPlaceOf (cS hb) (c2 hb) (hc := rfl) (by decide) (by decide) rfl rfl (Nat.le_of_ble_eq_true rfl) rfl ?_
    refine Z.if_eqH dX2_firstPlaceOf_28 H (fun br28 H => ?_) (fun br28 H => ?_)
    · refine Z.iinc (v := x4 + 1) (lv' := [(4, .int (x4 + 1)), (0, .ref (eA E (b))), (1, .int (x1)), (2, .int (x2)), (3, .int (x3))]) dX2_firstPlaceOf_34 4 rfl rfl (by decide) rfl ?_
      refine Z.goto dX2_firstPlaceOf_37 ?_
      refine Z.sub [1, 2, 3, 4, 0] rfl ?_
      exact hk3 (x1) (x2) (x3) (x4 + 1) v1.2  H
    · refine Z.iload dX2_firstPlaceOf_31 4 rfl ?_
      exact Z.iret rfl dX2_firstPlaceOf_33 (retW H)
theorem tX2_firstPlaceOf_3L {l : Launch} {E : Env5} {b : Nat} (hb : isSc b)   {v9 : Int32} {M9 : Mem}  : ∀ (n : Nat) (x1 : Int32) (x2 : Int32) (x3 : Int32) (x4 : Int32) (M : Mem), fX2_firstPlaceOf_3L  b n x1 x2 x3 x4 M = some (v9, M9) → Z l E RX2 cX2_firstPlaceOf 5 (some .int) 5 3 [(0, .ref (eA E (b))), (1, .int (x1)), (2, .int (x2)), (3, .int (x3)), (4, .int (x4))] [] M (PR (some (.int v9)) M9) := by
  intro n
  induction n with
  | zero => intro x1 x2 x3 x4 M H; exact absurd H (by simp [fX2_firstPlaceOf_3L])
  | succ n ih => intro x1 x2 x3 x4 M H; exact tX2_firstPlaceOf_3 hb x1 x2 x3 x4 M  (fun x1 x2 x3 x4 M H => ih x1 x2 x3 x4 M H) H
set_option maxRecDepth 100000 in
theorem tX2_firstPlaceOf_0 {l : Launch} {E : Env5} {b : Nat} (hb : isSc b)  (x1 : Int32) (x2 : Int32) (x3 : Int32) (M : Mem) {v9 : Int32} {M9 : Mem}  (H : fX2_firstPlaceOf  b x1 x2 x3 M = some (v9, M9)) : Z l E RX2 cX2_firstPlaceOf 5 (some .int) 5 0 [(0, .ref (eA E (b))), (1, .int (x1)), (2, .int (x2)), (3, .int (x3))] [] M (PR (some (.int v9)) M9) := by
  unfold fX2_firstPlaceOf at H
  refine Z.iconst (v := 0) dX2_firstPlaceOf_0 (by decide) ?_
  refine Z.istore (lv' := [(4, .int (0)), (0, .ref (eA E (b))), (1, .int (x1)), (2, .int (x2)), (3, .int (x3))]) dX2_firstPlaceOf_1 (by decide) rfl ?_
  refine Z.sub [1, 2, 3, 4, 0] rfl ?_
  exact tX2_firstPlaceOf_3L hb  FU (x1) (x2) (x3) (0) M H
theorem kX2_firstPlaceOf {l : Launch} {E : Env5} {b : Nat} (hb : isSc b) (x1 : Int32) (x2 : Int32) (x3 : Int32) (M : Mem) {v9 : Int32} {M9 : Mem} (H : fX2_firstPlaceOf b x1 x2 x3 M = some (v9, M9)) : Cn l E yX2_firstPlaceOf cX2_firstPlaceOf 5 (some .int) 5 [.ref (eA E (b)), .int (x1), .int (x2), .int (x3)] M (PR (some (.int v9)) M9) := Cn.ofZ rfl (Nat.le_of_ble_eq_true rfl) rfl (tX2_firstPlaceOf_0 hb x1 x2 x3 M H)
theorem hdX2_firstPlaceOf : yX2_firstPlaceOf.cls ≠ "java/lang/invoke/MethodHandle" ∧ yX2_firstPlaceOf.cls ≠ "java/lang/invoke/VarHandle" ∧ (parseMethodDescriptor yX2_firstPlaceOf.desc).map (fun d => d.parameters.length) = some 3 := by decide +kernel

set_option maxRecDepth 100000 in
theorem tX2_isEmptyGround_0 {l : Launch} {E : Env5} {b : Nat} (hb : isSc b)  (x1 : Int32) (x2 : Int32) (M : Mem) {v9 : Int32}  (H : fX2_isEmptyGround  b x1 x2 M = some v9) : Z l E RX2 cX2_isEmptyGround 3 (some .boolean) 2 0 [(0, .ref (eA E (b))), (1, .int (x1)), (2, .int (x2))] [] M (PR (some (.int v9)) M) := by
  unfold fX2_isEmptyGround at H
  refine Z.aload_n dX2_isEmptyGround_0 0 rfl ?_
  refine Z.iload_n dX2_isEmptyGround_1 1 rfl ?_
  refine Z.iload_n dX2_isEmptyGround_2 2 rfl ?_
  refine bindC H (fun v1 hv1 H => ?_)
  refine Z.callV (As := [.int (x1), .int (x2)]) (rest := []) (st' := [.int (v1)]) dX2_isEmptyGround_3 (kX2_isGround hb (x1) (x2) M hv1) kw554 kw556 ks24 kw6 kw557 hdX2_isGround (cS hb) (c2 hb) (hc := rfl) (by decide) (by decide) rfl rfl (Nat.le_of_ble_eq_true rfl) rfl ?_
  refine Z.if_eqH dX2_isEmptyGround_6 H (fun br6 H => ?_) (fun br6 H => ?_)
  · refine Z.iconst (v := 0) dX2_isEmptyGround_29 (by decide) ?_
    exact Z.zret rfl rfl dX2_isEmptyGround_30 (retR H)
  · refine Z.aload_n dX2_isEmptyGround_9 0 rfl ?_
    refine Z.get dX2_isEmptyGround_10 inX2 (hc := rfl) (cS hb) (c2 hb) 9 (by decide) kw131 rfl rfl ?_
    refine Z.aload_n dX2_isEmptyGround_13 0 rfl ?_
    refine Z.get dX2_isEmptyGround_14 inX2 (hc := rfl) (cS hb) (c2 hb) 3 (by decide) kw118 rfl rfl ?_
    refine Z.iload_n dX2_isEmptyGround_17 2 rfl ?_
    refine Z.imul dX2_isEmptyGround_18 ?_
    refine Z.iload_n dX2_isEmptyGround_19 1 rfl ?_
    refine Z.iadd dX2_isEmptyGround_20 ?_
    refine Z.ialdH dX2_isEmptyGround_21 (a2_crowd hb) H (fun v2 H => ?_)
    refine Z.if_neH dX2_isEmptyGround_22 H (fun br22 H => ?_) (fun br22 H => ?_)
    · refine Z.iconst (v := 0) dX2_isEmptyGround_29 (by decide) ?_
      exact Z.zret rfl rfl dX2_isEmptyGround_30 (retR H)
    · refine Z.iconst (v := 1) dX2_isEmptyGround_25 (by decide) ?_
      refine Z.goto dX2_isEmptyGround_26 ?_
      exact Z.zret rfl rfl dX2_isEmptyGround_30 (retR H)
theorem kX2_isEmptyGround {l : Launch} {E : Env5} {b : Nat} (hb : isSc b) (x1 : Int32) (x2 : Int32) (M : Mem) {v9 : Int32} (H : fX2_isEmptyGround b x1 x2 M = some v9) : Cn l E yX2_isEmptyGround cX2_isEmptyGround 3 (some .boolean) 2 [.ref (eA E (b)), .int (x1), .int (x2)] M (PR (some (.int v9)) M) := Cn.ofZ rfl (Nat.le_of_ble_eq_true rfl) rfl (tX2_isEmptyGround_0 hb x1 x2 M H)
theorem hdX2_isEmptyGround : yX2_isEmptyGround.cls ≠ "java/lang/invoke/MethodHandle" ∧ yX2_isEmptyGround.cls ≠ "java/lang/invoke/VarHandle" ∧ (parseMethodDescriptor yX2_isEmptyGround.desc).map (fun d => d.parameters.length) = some 2 := by decide +kernel

set_option maxRecDepth 100000 in
theorem tX2_groundOf_163 {l : Launch} {E : Env5} {b : Nat} (hb : isSc b) {k42 : Int32 → Int32 → Int32 → Int32 → Int32 → Int64 → Int32 → Int32 → Mem → Option (Int64 × Mem)} {k60 : Int32 → Int32 → Int32 → Int32 → Int32 → Int64 → Int32 → Int32 → Int32 → Mem → Option (Int64 × Mem)} (x1 : Int32) (x2 : Int32) (x3 : Int32) (x4 : Int32) (x5 : Int32) (x6 : Int64) (x8 : Int32) (x9 : Int32) (x10 : Int32) (M : Mem) {v9 : Int64} {M9 : Mem} (hk42 : ∀ (x1 : Int32) (x2 : Int32) (x3 : Int32) (x4 : Int32) (x5 : Int32) (x6 : Int64) (x8 : Int32) (x9 : Int32) (M : Mem), k42 x1 x2 x3 x4 x5 x6 x8 x9 M = some (v9, M9) → Z l E RX2 cX2_groundOf 14 (some .long) 3 42 [(0, .ref (eA E (b))), (1, .int (x1)), (2, .int (x2)), (3, .int (x3)), (4, .int (x4)), (5, .int (x5)), (6, .long (x6)), (8, .int (x8)), (9, .int (x9))] [] M (PR (some (.long v9)) M9)) (hk60 : ∀ (x1 : Int32) (x2 : Int32) (x3 : Int32) (x4 : Int32) (x5 : Int32) (x6 : Int64) (x8 : Int32) (x9 : Int32) (x10 : Int32) (M : Mem), k60 x1 x2 x3 x4 x5 x6 x8 x9 x10 M = some (v9, M9) → Z l E RX2 cX2_groundOf 14 (some .long) 3 60 [(0, .ref (eA E (b))), (1, .int (x1)), (2, .int (x2)), (3, .int (x3)), (4, .int (x4)), (5, .int (x5)), (6, .long (x6)), (8, .int (x8)), (9, .int (x9)), (10, .int (x10))] [] M (PR (some (.long v9)) M9)) (H : fX2_groundOf_163 k42 k60 b x1 x2 x3 x4 x5 x6 x8 x9 x10 M = some (v9, M9)) : Z l E RX2 cX2_groundOf 14 (some .long) 3 163 [(0, .ref (eA E (b))), (1, .int (x1)), (2, .int (x2)), (3, .int (x3)), (4, .int (x4)), (5, .int (x5)), (6, .long (x6)), (8, .int (x8)), (9, .int (x9)), (10, .int (x10))] [] M (PR (some (.long v9)) M9) := by
  unfold fX2_groundOf_163 at H
  refine Z.iinc (v := x8 + 1) (lv' := [(8, .int (x8 + 1)), (0, .ref (eA E (b))), (1, .int (x1)), (2, .int (x2)), (3, .int (x3)), (4, .int (x4)), (5, .int (x5)), (6, .long (x6)), (9, .int (x9)), (10, .int (x10))]) dX2_groundOf_163 7 rfl rfl (by decide) rfl ?_
  refine Z.iinc (v := x10 + 1) (lv' := [(10, .int (x10 + 1)), (8, .int (x8 + 1)), (0, .ref (eA E (b))), (1, .int (x1)), (2, .int (x2)), (3, .int (x3)), (4, .int (x4)), (5, .int (x5)), (6, .long (x6)), (9, .int (x9))]) dX2_groundOf_166 9 rfl rfl (by decide) rfl ?_
  refine Z.goto dX2_groundOf_169 ?_
  refine Z.sub [2, 3, 4, 5, 6, 7, 8, 1, 9, 0] rfl ?_
  exact hk60 (x1) (x2) (x3) (x4) (x5) (x6) (x8 + 1) (x9) (x10 + 1) M  H
set_option maxRecDepth 100000 in
theorem tX2_groundOf_154 {l : Launch} {E : Env5} {b : Nat} (hb : isSc b) {k42 : Int32 → Int32 → Int32 → Int32 → Int32 → Int64 → Int32 → Int32 → Mem → Option (Int64 × Mem)} {k60 : Int32 → Int32 → Int32 → Int32 → Int32 → Int64 → Int32 → Int32 → Int32 → Mem → Option (Int64 × Mem)} (x1 : Int32) (x2 : Int32) (x3 : Int32) (x4 : Int32) (x5 : Int32) (x6 : Int64) (x8 : Int32) (x9 : Int32) (x10 : Int32) (M : Mem) {v9 : Int64} {M9 : Mem} (hk42 : ∀ (x1 : Int32) (x2 : Int32) (x3 : Int32) (x4 : Int32) (x5 : Int32) (x6 : Int64) (x8 : Int32) (x9 : Int32) (M : Mem), k42 x1 x2 x3 x4 x5 x6 x8 x9 M = some (v9, M9) → Z l E RX2 cX2_groundOf 14 (some .long) 3 42 [(0, .ref (eA E (b))), (1, .int (x1)), (2, .int (x2)), (3, .int (x3)), (4, .int (x4)), (5, .int (x5)), (6, .long (x6)), (8, .int (x8)), (9, .int (x9))] [] M (PR (some (.long v9)) M9)) (hk60 : ∀ (x1 : Int32) (x2 : Int32) (x3 : Int32) (x4 : Int32) (x5 : Int32) (x6 : Int64) (x8 : Int32) (x9 : Int32) (x10 : Int32) (M : Mem), k60 x1 x2 x3 x4 x5 x6 x8 x9 x10 M = some (v9, M9) → Z l E RX2 cX2_groundOf 14 (some .long) 3 60 [(0, .ref (eA E (b))), (1, .int (x1)), (2, .int (x2)), (3, .int (x3)), (4, .int (x4)), (5, .int (x5)), (6, .long (x6)), (8, .int (x8)), (9, .int (x9)), (10, .int (x10))] [] M (PR (some (.long v9)) M9)) (H : fX2_groundOf_154 k42 k60 b x1 x2 x3 x4 x5 x6 x8 x9 x10 M = some (v9, M9)) : Z l E RX2 cX2_groundOf 14 (some .long) 3 154 [(0, .ref (eA E (b))), (1, .int (x1)), (2, .int (x2)), (3, .int (x3)), (4, .int (x4)), (5, .int (x5)), (6, .long (x6)), (8, .int (x8)), (9, .int (x9)), (10, .int (x10))] [] M (PR (some (.long v9)) M9) := by
  unfold fX2_groundOf_154 at H
  refine Z.lload dX2_groundOf_154 6 rfl ?_
  refine Z.lconst (v := 1) dX2_groundOf_156 (by decide) ?_
  refine Z.iload dX2_groundOf_157 7 rfl ?_
  refine Z.lshl dX2_groundOf_159 ?_
  refine Z.lor dX2_groundOf_160 ?_
  refine Z.lstore (lv' := [(6, .long (x6 ||| (1 <<< (x8.toInt64 &&& 63)))), (0, .ref (eA E (b))), (1, .int (x1)), (2, .int (x2)), (3, .int (x3)), (4, .int (x4)), (5, .int (x5)), (8, .int (x8)), (9, .int (x9)), (10, .int (x10))]) dX2_groundOf_161 (by decide) rfl ?_
  refine Z.sub [1, 2, 3, 4, 5, 6, 0, 7, 8, 9] rfl ?_
  exact tX2_groundOf_163 hb (x1) (x2) (x3) (x4) (x5) (x6 ||| (1 <<< (x8.toInt64 &&& 63))) (x8) (x9) (x10) M hk42 hk60 H
set_option maxRecDepth 100000 in
theorem tX2_groundOf_129 {l : Launch} {E : Env5} {b : Nat} (hb : isSc b) {k42 : Int32 → Int32 → Int32 → Int32 → Int32 → Int64 → Int32 → Int32 → Mem → Option (Int64 × Mem)} {k60 : Int32 → Int32 → Int32 → Int32 → Int32 → Int64 → Int32 → Int32 → Int32 → Mem → Option (Int64 × Mem)} (x1 : Int32) (x2 : Int32) (x3 : Int32) (x4 : Int32) (x5 : Int32) (x6 : Int64) (x8 : Int32) (x9 : Int32) (x10 : Int32) (x11 : Int32) (x12 : Int32) (s0 : Int32) (M : Mem) {v9 : Int64} {M9 : Mem} (hk42 : ∀ (x1 : Int32) (x2 : Int32) (x3 : Int32) (x4 : Int32) (x5 : Int32) (x6 : Int64) (x8 : Int32) (x9 : Int32) (M : Mem), k42 x1 x2 x3 x4 x5 x6 x8 x9 M = some (v9, M9) → Z l E RX2 cX2_groundOf 14 (some .long) 3 42 [(0, .ref (eA E (b))), (1, .int (x1)), (2, .int (x2)), (3, .int (x3)), (4, .int (x4)), (5, .int (x5)), (6, .long (x6)), (8, .int (x8)), (9, .int (x9))] [] M (PR (some (.long v9)) M9)) (hk60 : ∀ (x1 : Int32) (x2 : Int32) (x3 : Int32) (x4 : Int32) (x5 : Int32) (x6 : Int64) (x8 : Int32) (x9 : Int32) (x10 : Int32) (M : Mem), k60 x1 x2 x3 x4 x5 x6 x8 x9 x10 M = some (v9, M9) → Z l E RX2 cX2_groundOf 14 (some .long) 3 60 [(0, .ref (eA E (b))), (1, .int (x1)), (2, .int (x2)), (3, .int (x3)), (4, .int (x4)), (5, .int (x5)), (6, .long (x6)), (8, .int (x8)), (9, .int (x9)), (10, .int (x10))] [] M (PR (some (.long v9)) M9)) (H : fX2_groundOf_129 k42 k60 b x1 x2 x3 x4 x5 x6 x8 x9 x10 x11 x12 s0 M = some (v9, M9)) : Z l E RX2 cX2_groundOf 14 (some .long) 3 129 [(0, .ref (eA E (b))), (1, .int (x1)), (2, .int (x2)), (3, .int (x3)), (4, .int (x4)), (5, .int (x5)), (6, .long (x6)), (8, .int (x8)), (9, .int (x9)), (10, .int (x10)), (11, .int (x11)), (12, .int (x12))] [.int (s0)] M (PR (some (.long v9)) M9) := by
  unfold fX2_groundOf_129 at H
  refine Z.istore (lv' := [(13, .int (s0)), (0, .ref (eA E (b))), (1, .int (x1)), (2, .int (x2)), (3, .int (x3)), (4, .int (x4)), (5, .int (x5)), (6, .long (x6)), (8, .int (x8)), (9, .int (x9)), (10, .int (x10)), (11, .int (x11)), (12, .int (x12))]) dX2_groundOf_129 (by decide) rfl ?_
  refine Z.iload_n dX2_groundOf_131 3 rfl ?_
  refine Z.if_eqH dX2_groundOf_132 H (fun br132 H => ?_) (fun br132 H => ?_)
  · refine Z.aload_n dX2_groundOf_143 1 rfl ?_
    refine Z.iload dX2_groundOf_144 11 rfl ?_
    refine Z.iload dX2_groundOf_146 12 rfl ?_
    refine bindC H (fun v1 hv1 H => ?_)
    refine Z.callV (As := [.int (x11), .int (x12)]) (rest := []) (st' := [.int (v1)]) dX2_groundOf_148 (kX2_isGround hb (x11) (x12) M hv1) kw554 kw556 ks24 kw6 kw557 hdX2_isGround (cS hb) (c2 hb) (hc := rfl) (by decide) (by decide) rfl rfl (Nat.le_of_ble_eq_true rfl) rfl ?_
    refine Z.if_eqH dX2_groundOf_151 H (fun br151 H => ?_) (fun br151 H => ?_)
    · refine Z.sub [1, 2, 3, 4, 5, 6, 7, 8, 9, 10] rfl ?_
      exact tX2_groundOf_163 hb (x1) (x2) (x3) (x4) (x5) (x6) (x8) (x9) (x10) M hk42 hk60 H
    · refine Z.sub [1, 2, 3, 4, 5, 6, 7, 8, 9, 10] rfl ?_
      exact tX2_groundOf_154 hb (x1) (x2) (x3) (x4) (x5) (x6) (x8) (x9) (x10) M hk42 hk60 H
  · refine Z.iload dX2_groundOf_135 0 rfl ?_
    refine Z.if_eqH dX2_groundOf_137 H (fun br137 H => ?_) (fun br137 H => ?_)
    · refine Z.sub [1, 2, 3, 4, 5, 6, 7, 8, 9, 10] rfl ?_
      exact tX2_groundOf_163 hb (x1) (x2) (x3) (x4) (x5) (x6) (x8) (x9) (x10) M hk42 hk60 H
    · refine Z.goto dX2_groundOf_140 ?_
      refine Z.sub [1, 2, 3, 4, 5, 6, 7, 8, 9, 10] rfl ?_
      exact tX2_groundOf_154 hb (x1) (x2) (x3) (x4) (x5) (x6) (x8) (x9) (x10) M hk42 hk60 H
set_option maxRecDepth 100000 in
theorem tX2_groundOf_128 {l : Launch} {E : Env5} {b : Nat} (hb : isSc b) {k42 : Int32 → Int32 → Int32 → Int32 → Int32 → Int64 → Int32 → Int32 → Mem → Option (Int64 × Mem)} {k60 : Int32 → Int32 → Int32 → Int32 → Int32 → Int64 → Int32 → Int32 → Int32 → Mem → Option (Int64 × Mem)} (x1 : Int32) (x2 : Int32) (x3 : Int32) (x4 : Int32) (x5 : Int32) (x6 : Int64) (x8 : Int32) (x9 : Int32) (x10 : Int32) (x11 : Int32) (x12 : Int32) (M : Mem) {v9 : Int64} {M9 : Mem} (hk42 : ∀ (x1 : Int32) (x2 : Int32) (x3 : Int32) (x4 : Int32) (x5 : Int32) (x6 : Int64) (x8 : Int32) (x9 : Int32) (M : Mem), k42 x1 x2 x3 x4 x5 x6 x8 x9 M = some (v9, M9) → Z l E RX2 cX2_groundOf 14 (some .long) 3 42 [(0, .ref (eA E (b))), (1, .int (x1)), (2, .int (x2)), (3, .int (x3)), (4, .int (x4)), (5, .int (x5)), (6, .long (x6)), (8, .int (x8)), (9, .int (x9))] [] M (PR (some (.long v9)) M9)) (hk60 : ∀ (x1 : Int32) (x2 : Int32) (x3 : Int32) (x4 : Int32) (x5 : Int32) (x6 : Int64) (x8 : Int32) (x9 : Int32) (x10 : Int32) (M : Mem), k60 x1 x2 x3 x4 x5 x6 x8 x9 x10 M = some (v9, M9) → Z l E RX2 cX2_groundOf 14 (some .long) 3 60 [(0, .ref (eA E (b))), (1, .int (x1)), (2, .int (x2)), (3, .int (x3)), (4, .int (x4)), (5, .int (x5)), (6, .long (x6)), (8, .int (x8)), (9, .int (x9)), (10, .int (x10))] [] M (PR (some (.long v9)) M9)) (H : fX2_groundOf_128 k42 k60 b x1 x2 x3 x4 x5 x6 x8 x9 x10 x11 x12 M = some (v9, M9)) : Z l E RX2 cX2_groundOf 14 (some .long) 3 128 [(0, .ref (eA E (b))), (1, .int (x1)), (2, .int (x2)), (3, .int (x3)), (4, .int (x4)), (5, .int (x5)), (6, .long (x6)), (8, .int (x8)), (9, .int (x9)), (10, .int (x10)), (11, .int (x11)), (12, .int (x12))] [] M (PR (some (.long v9)) M9) := by
  unfold fX2_groundOf_128 at H
  refine Z.iconst (v := 0) dX2_groundOf_128 (by decide) ?_
  refine Z.sub [0, 1, 2, 3, 4, 5, 6, 7, 8, 9, 10, 11] rfl ?_
  exact tX2_groundOf_129 hb (x1) (x2) (x3) (x4) (x5) (x6) (x8) (x9) (x10) (x11) (x12) (0) M hk42 hk60 H
set_option maxRecDepth 100000 in
theorem tX2_groundOf_60 {l : Launch} {E : Env5} {b : Nat} (hb : isSc b) {k42 : Int32 → Int32 → Int32 → Int32 → Int32 → Int64 → Int32 → Int32 → Mem → Option (Int64 × Mem)} {k60 : Int32 → Int32 → Int32 → Int32 → Int32 → Int64 → Int32 → Int32 → Int32 → Mem → Option (Int64 × Mem)} (x1 : Int32) (x2 : Int32) (x3 : Int32) (x4 : Int32) (x5 : Int32) (x6 : Int64) (x8 : Int32) (x9 : Int32) (x10 : Int32) (M : Mem) {v9 : Int64} {M9 : Mem} (hk42 : ∀ (x1 : Int32) (x2 : Int32) (x3 : Int32) (x4 : Int32) (x5 : Int32) (x6 : Int64) (x8 : Int32) (x9 : Int32) (M : Mem), k42 x1 x2 x3 x4 x5 x6 x8 x9 M = some (v9, M9) → Z l E RX2 cX2_groundOf 14 (some .long) 3 42 [(0, .ref (eA E (b))), (1, .int (x1)), (2, .int (x2)), (3, .int (x3)), (4, .int (x4)), (5, .int (x5)), (6, .long (x6)), (8, .int (x8)), (9, .int (x9))] [] M (PR (some (.long v9)) M9)) (hk60 : ∀ (x1 : Int32) (x2 : Int32) (x3 : Int32) (x4 : Int32) (x5 : Int32) (x6 : Int64) (x8 : Int32) (x9 : Int32) (x10 : Int32) (M : Mem), k60 x1 x2 x3 x4 x5 x6 x8 x9 x10 M = some (v9, M9) → Z l E RX2 cX2_groundOf 14 (some .long) 3 60 [(0, .ref (eA E (b))), (1, .int (x1)), (2, .int (x2)), (3, .int (x3)), (4, .int (x4)), (5, .int (x5)), (6, .long (x6)), (8, .int (x8)), (9, .int (x9)), (10, .int (x10))] [] M (PR (some (.long v9)) M9)) (H : fX2_groundOf_60B k42 k60 b x1 x2 x3 x4 x5 x6 x8 x9 x10 M = some (v9, M9)) : Z l E RX2 cX2_groundOf 14 (some .long) 3 60 [(0, .ref (eA E (b))), (1, .int (x1)), (2, .int (x2)), (3, .int (x3)), (4, .int (x4)), (5, .int (x5)), (6, .long (x6)), (8, .int (x8)), (9, .int (x9)), (10, .int (x10))] [] M (PR (some (.long v9)) M9) := by
  unfold fX2_groundOf_60B at H
  refine Z.iload dX2_groundOf_60 9 rfl ?_
  refine Z.iload dX2_groundOf_62 8 rfl ?_
  refine Z.iconst (v := 2) dX2_groundOf_64 (by decide) ?_
  refine Z.idiv dX2_groundOf_65 (by decide) ?_
  refine Z.icmp_gtH dX2_groundOf_66 H (fun br66 H => ?_) (fun br66 H => ?_)
  · refine Z.iinc (v := x9 + 1) (lv' := [(9, .int (x9 + 1)), (0, .ref (eA E (b))), (1, .int (x1)), (2, .int (x2)), (3, .int (x3)), (4, .int (x4)), (5, .int (x5)), (6, .long (x6)), (8, .int (x8)), (10, .int (x10))]) dX2_groundOf_172 8 rfl rfl (by decide) rfl ?_
    refine Z.goto dX2_groundOf_175 ?_
    refine Z.sub [1, 2, 3, 4, 5, 6, 7, 8, 0] rfl ?_
    exact hk42 (x1) (x2) (x3) (x4) (x5) (x6) (x8) (x9 + 1) M  H
  · refine Z.iload_n dX2_groundOf_69 3 rfl ?_
    refine Z.iload dX2_groundOf_70 5 rfl ?_
    refine Z.iload dX2_groundOf_72 8 rfl ?_
    refine Z.iload dX2_groundOf_74 9 rfl ?_
    refine bindC H (fun v1 hv1 H => ?_)
    refine Z.callS (As := [.int (x5), .int (x9), .int (x10)]) (rest := [.int (x3)]) (st' := [.int (v1), .int (x3)]) dX2_groundOf_76 (kX2_goneX  (x5) (x9) (x10) M hv1) kw315 kw316 kw6 kw317 hdX2_goneX (by decide) (by decide) rfl rfl (Nat.le_of_ble_eq_true rfl) rfl ?_
    refine Z.iadd dX2_groundOf_79 ?_
    refine Z.istore (lv' := [(11, .int (x3 + v1)), (0, .ref (eA E (b))), (1, .int (x1)), (2, .int (x2)), (3, .int (x3)), (4, .int (x4)), (5, .int (x5)), (6, .long (x6)), (8, .int (x8)), (9, .int (x9)), (10, .int (x10))]) dX2_groundOf_80 (by decide) rfl ?_
    refine Z.iload dX2_groundOf_82 5 rfl ?_
    refine Z.iload dX2_groundOf_84 6 rfl ?_
    refine Z.iload dX2_groundOf_86 9 rfl ?_
    refine Z.iload dX2_groundOf_88 10 rfl ?_
    refine bindC H (fun v2 hv2 H => ?_)
    refine Z.callS (As := [.int (x5), .int (x9), .int (x10)]) (rest := [.int (x4)]) (st' := [.int (v2), .int (x4)]) dX2_groundOf_90 (kX2_goneY  (x5) (x9) (x10) M hv2) kw318 kw319 kw6 kw320 hdX2_goneY (by decide) (by decide) rfl rfl (Nat.le_of_ble_eq_true rfl) rfl ?_
    refine Z.iadd dX2_groundOf_93 ?_
    refine Z.istore (lv' := [(12, .int (x4 + v2)), (11, .int (x3 + v1)), (0, .ref (eA E (b))), (1, .int (x1)), (2, .int (x2)), (3, .int (x3)), (4, .int (x4)), (5, .int (x5)), (6, .long (x6)), (8, .int (x8)), (9, .int (x9)), (10, .int (x10))]) dX2_groundOf_94 (by decide) rfl ?_
    refine Z.aload_n dX2_groundOf_96 2 rfl ?_
    refine Z.iload dX2_groundOf_97 1 rfl ?_
    refine Z.iload dX2_groundOf_99 0 rfl ?_
    refine bindC H (fun v3 hv3 H => ?_)
    refine Z.callV (As := [.int (x3 + v1), .int (x4 + v2)]) (rest := []) (st' := [.int (v3)]) dX2_groundOf_101 (kX2_isEmptyGround hb (x3 + v1) (x4 + v2) M hv3) kw550 kw552 ks23 kw6 kw553 hdX2_isEmptyGround (cS hb) (c2 hb) (hc := rfl) (by decide) (by decide) rfl rfl (Nat.le_of_ble_eq_true rfl) rfl ?_
    refine Z.if_eqH dX2_groundOf_104 H (fun br104 H => ?_) (fun br104 H => ?_)
    · refine Z.sub [2, 3, 4, 5, 6, 7, 8, 9, 10, 11, 1, 0] rfl ?_
      exact tX2_groundOf_128 hb (x1) (x2) (x3) (x4) (x5) (x6) (x8) (x9) (x10) (x3 + v1) (x4 + v2) M hk42 hk60 H
    · refine Z.aload_n dX2_groundOf_107 2 rfl ?_
      refine Z.iload_n dX2_groundOf_108 5 rfl ?_
      refine Z.iload dX2_groundOf_109 6 rfl ?_
      refine Z.iload dX2_groundOf_111 7 rfl ?_
      refine Z.iload dX2_groundOf_113 10 rfl ?_
      refine Z.iload dX2_groundOf_115 11 rfl ?_
      refine bindC H (fun v4 hv4 H => ?_)
      refine Z.callV (As := [.int (x3), .int (x4), .int (x5), .int (x9), .int (x10)]) (rest := []) (st' := [.int (v4)]) dX2_groundOf_117 (kX2_stateOfCell hb (x3) (x4) (x5) (x9) (x10) M hv4) kw311 kw313 ks8 kw6 kw314 hdX2_stateOfCell (cS hb) (c2 hb) (hc := rfl) (by decide) (by decide) rfl rfl (Nat.le_of_ble_eq_true rfl) rfl ?_
      refine Z.iconst (v := 1) dX2_groundOf_120 (by decide) ?_
      refine Z.icmp_neH dX2_groundOf_121 H (fun br121 H => ?_) (fun br121 H => ?_)
      · refine Z.sub [2, 3, 4, 5, 6, 7, 8, 9, 10, 11, 1, 0] rfl ?_
        exact tX2_groundOf_128 hb (x1) (x2) (x3) (x4) (x5) (x6) (x8) (x9) (x10) (x3 + v1) (x4 + v2) M hk42 hk60 H
      · refine Z.iconst (v := 1) dX2_groundOf_124 (by decide) ?_
        refine Z.goto dX2_groundOf_125 ?_
        refine Z.sub [2, 3, 4, 5, 6, 7, 8, 9, 10, 11, 1, 0] rfl ?_
        exact tX2_groundOf_129 hb (x1) (x2) (x3) (x4) (x5) (x6) (x8) (x9) (x10) (x3 + v1) (x4 + v2) (1) M hk42 hk60 H
theorem tX2_groundOf_60L {l : Launch} {E : Env5} {b : Nat} (hb : isSc b) {k42 : Int32 → Int32 → Int32 → Int32 → Int32 → Int64 → Int32 → Int32 → Mem → Option (Int64 × Mem)}  {v9 : Int64} {M9 : Mem} (hk42 : ∀ (x1 : Int32) (x2 : Int32) (x3 : Int32) (x4 : Int32) (x5 : Int32) (x6 : Int64) (x8 : Int32) (x9 : Int32) (M : Mem), k42 x1 x2 x3 x4 x5 x6 x8 x9 M = some (v9, M9) → Z l E RX2 cX2_groundOf 14 (some .long) 3 42 [(0, .ref (eA E (b))), (1, .int (x1)), (2, .int (x2)), (3, .int (x3)), (4, .int (x4)), (5, .int (x5)), (6, .long (x6)), (8, .int (x8)), (9, .int (x9))] [] M (PR (some (.long v9)) M9)) : ∀ (n : Nat) (x1 : Int32) (x2 : Int32) (x3 : Int32) (x4 : Int32) (x5 : Int32) (x6 : Int64) (x8 : Int32) (x9 : Int32) (x10 : Int32) (M : Mem), fX2_groundOf_60L k42 b n x1 x2 x3 x4 x5 x6 x8 x9 x10 M = some (v9, M9) → Z l E RX2 cX2_groundOf 14 (some .long) 3 60 [(0, .ref (eA E (b))), (1, .int (x1)), (2, .int (x2)), (3, .int (x3)), (4, .int (x4)), (5, .int (x5)), (6, .long (x6)), (8, .int (x8)), (9, .int (x9)), (10, .int (x10))] [] M (PR (some (.long v9)) M9) := by
  intro n
  induction n with
  | zero => intro x1 x2 x3 x4 x5 x6 x8 x9 x10 M H; exact absurd H (by simp [fX2_groundOf_60L])
  | succ n ih => intro x1 x2 x3 x4 x5 x6 x8 x9 x10 M H; exact tX2_groundOf_60 hb x1 x2 x3 x4 x5 x6 x8 x9 x10 M hk42 (fun x1 x2 x3 x4 x5 x6 x8 x9 x10 M H => ih x1 x2 x3 x4 x5 x6 x8 x9 x10 M H) H
set_option maxRecDepth 100000 in
theorem tX2_groundOf_42 {l : Launch} {E : Env5} {b : Nat} (hb : isSc b) {k42 : Int32 → Int32 → Int32 → Int32 → Int32 → Int64 → Int32 → Int32 → Mem → Option (Int64 × Mem)} (x1 : Int32) (x2 : Int32) (x3 : Int32) (x4 : Int32) (x5 : Int32) (x6 : Int64) (x8 : Int32) (x9 : Int32) (M : Mem) {v9 : Int64} {M9 : Mem} (hk42 : ∀ (x1 : Int32) (x2 : Int32) (x3 : Int32) (x4 : Int32) (x5 : Int32) (x6 : Int64) (x8 : Int32) (x9 : Int32) (M : Mem), k42 x1 x2 x3 x4 x5 x6 x8 x9 M = some (v9, M9) → Z l E RX2 cX2_groundOf 14 (some .long) 3 42 [(0, .ref (eA E (b))), (1, .int (x1)), (2, .int (x2)), (3, .int (x3)), (4, .int (x4)), (5, .int (x5)), (6, .long (x6)), (8, .int (x8)), (9, .int (x9))] [] M (PR (some (.long v9)) M9)) (H : fX2_groundOf_42B k42 b x1 x2 x3 x4 x5 x6 x8 x9 M = some (v9, M9)) : Z l E RX2 cX2_groundOf 14 (some .long) 3 42 [(0, .ref (eA E (b))), (1, .int (x1)), (2, .int (x2)), (3, .int (x3)), (4, .int (x4)), (5, .int (x5)), (6, .long (x6)), (8, .int (x8)), (9, .int (x9))] [] M (PR (some (.long v9)) M9) := by
  unfold fX2_groundOf_42B at H
  refine Z.iload dX2_groundOf_42 8 rfl ?_
  refine Z.aload_n dX2_groundOf_44 0 rfl ?_
  refine Z.iload_n dX2_groundOf_45 1 rfl ?_
  refine Z.iconst (v := 3) dX2_groundOf_46 (by decide) ?_
  refine bindC H (fun v1 hv1 H => ?_)
  refine Z.callV (As := [.int (x1), .int (3)]) (rest := [.int (x9)]) (st' := [.int (v1), .int (x9)]) dX2_groundOf_47 (kX2_ofPicture hb (x1) (3) M hv1) kw277 kw278 kw279 kw6 kw280 hdX2_ofPicture (cS hb) (c2 hb) (hc := rfl) (by decide) (by decide) rfl rfl (Nat.le_of_ble_eq_true rfl) rfl ?_
  refine Z.icmp_gtH dX2_groundOf_50 H (fun br50 H => ?_) (fun br50 H => ?_)
  · refine Z.lload dX2_groundOf_178 6 rfl ?_
    exact Z.lret rfl dX2_groundOf_180 (retWL H)
  · refine Z.iload dX2_groundOf_53 8 rfl ?_
    refine Z.iconst (v := 2) dX2_groundOf_55 (by decide) ?_
    refine Z.idiv dX2_groundOf_56 (by decide) ?_
    refine Z.ineg dX2_groundOf_57 ?_
    refine Z.istore (lv' := [(10, .int (-(x9 / 2))), (0, .ref (eA E (b))), (1, .int (x1)), (2, .int (x2)), (3, .int (x3)), (4, .int (x4)), (5, .int (x5)), (6, .long (x6)), (8, .int (x8)), (9, .int (x9))]) dX2_groundOf_58 (by decide) rfl ?_
    refine Z.sub [1, 2, 3, 4, 5, 6, 7, 8, 9, 0] rfl ?_
    exact tX2_groundOf_60L hb hk42 FU (x1) (x2) (x3) (x4) (x5) (x6) (x8) (x9) (-(x9 / 2)) M H
theorem tX2_groundOf_42L {l : Launch} {E : Env5} {b : Nat} (hb : isSc b)   {v9 : Int64} {M9 : Mem}  : ∀ (n : Nat) (x1 : Int32) (x2 : Int32) (x3 : Int32) (x4 : Int32) (x5 : Int32) (x6 : Int64) (x8 : Int32) (x9 : Int32) (M : Mem), fX2_groundOf_42L  b n x1 x2 x3 x4 x5 x6 x8 x9 M = some (v9, M9) → Z l E RX2 cX2_groundOf 14 (some .long) 3 42 [(0, .ref (eA E (b))), (1, .int (x1)), (2, .int (x2)), (3, .int (x3)), (4, .int (x4)), (5, .int (x5)), (6, .long (x6)), (8, .int (x8)), (9, .int (x9))] [] M (PR (some (.long v9)) M9) := by
  intro n
  induction n with
  | zero => intro x1 x2 x3 x4 x5 x6 x8 x9 M H; exact absurd H (by simp [fX2_groundOf_42L])
  | succ n ih => intro x1 x2 x3 x4 x5 x6 x8 x9 M H; exact tX2_groundOf_42 hb x1 x2 x3 x4 x5 x6 x8 x9 M  (fun x1 x2 x3 x4 x5 x6 x8 x9 M H => ih x1 x2 x3 x4 x5 x6 x8 x9 M H) H
set_option maxRecDepth 100000 in
theorem tX2_groundOf_0 {l : Launch} {E : Env5} {b : Nat} (hb : isSc b)  (x1 : Int32) (x2 : Int32) (M : Mem) {v9 : Int64} {M9 : Mem}  (H : fX2_groundOf  b x1 x2 M = some (v9, M9)) : Z l E RX2 cX2_groundOf 14 (some .long) 3 0 [(0, .ref (eA E (b))), (1, .int (x1)), (2, .int (x2))] [] M (PR (some (.long v9)) M9) := by
  unfold fX2_groundOf at H
  refine Z.aload_n dX2_groundOf_0 0 rfl ?_
  refine Z.iload_n dX2_groundOf_1 1 rfl ?_
  refine Z.iconst (v := 0) dX2_groundOf_2 (by decide) ?_
  refine bindC H (fun v1 hv1 H => ?_)
  refine Z.callV (As := [.int (x1), .int (0)]) (rest := []) (st' := [.int (v1)]) dX2_groundOf_3 (kX2_ofPicture hb (x1) (0) M hv1) kw277 kw278 kw279 kw6 kw280 hdX2_ofPicture (cS hb) (c2 hb) (hc := rfl) (by decide) (by decide) rfl rfl (Nat.le_of_ble_eq_true rfl) rfl ?_
  refine Z.istore_n (lv' := [(3, .int (v1)), (0, .ref (eA E (b))), (1, .int (x1)), (2, .int (x2))]) dX2_groundOf_6 (by decide) rfl ?_
  refine Z.aload_n dX2_groundOf_7 1 rfl ?_
  refine Z.iload_n dX2_groundOf_8 2 rfl ?_
  refine Z.iconst (v := 1) dX2_groundOf_9 (by decide) ?_
  refine bindC H (fun v2 hv2 H => ?_)
  refine Z.callV (As := [.int (x1), .int (1)]) (rest := []) (st' := [.int (v2)]) dX2_groundOf_10 (kX2_ofPicture hb (x1) (1) M hv2) kw277 kw278 kw279 kw6 kw280 hdX2_ofPicture (cS hb) (c2 hb) (hc := rfl) (by decide) (by decide) rfl rfl (Nat.le_of_ble_eq_true rfl) rfl ?_
  refine Z.istore (lv' := [(4, .int (v2)), (3, .int (v1)), (0, .ref (eA E (b))), (1, .int (x1)), (2, .int (x2))]) dX2_groundOf_13 (by decide) rfl ?_
  refine Z.aload_n dX2_groundOf_15 2 rfl ?_
  refine Z.iload_n dX2_groundOf_16 3 rfl ?_
  refine Z.iconst (v := 2) dX2_groundOf_17 (by decide) ?_
  refine bindC H (fun v3 hv3 H => ?_)
  refine Z.callV (As := [.int (x1), .int (2)]) (rest := []) (st' := [.int (v3)]) dX2_groundOf_18 (kX2_ofPicture hb (x1) (2) M hv3) kw277 kw278 kw279 kw6 kw280 hdX2_ofPicture (cS hb) (c2 hb) (hc := rfl) (by decide) (by decide) rfl rfl (Nat.le_of_ble_eq_true rfl) rfl ?_
  refine Z.istore (lv' := [(5, .int (v3)), (4, .int (v2)), (3, .int (v1)), (0, .ref (eA E (b))), (1, .int (x1)), (2, .int (x2))]) dX2_groundOf_21 (by decide) rfl ?_
  refine Z.lconst (v := 0) dX2_groundOf_23 (by decide) ?_
  refine Z.lstore (lv' := [(6, .long (0)), (5, .int (v3)), (4, .int (v2)), (3, .int (v1)), (0, .ref (eA E (b))), (1, .int (x1)), (2, .int (x2))]) dX2_groundOf_24 (by decide) rfl ?_
  refine Z.iconst (v := 0) dX2_groundOf_26 (by decide) ?_
  refine Z.istore (lv' := [(8, .int (0)), (6, .long (0)), (5, .int (v3)), (4, .int (v2)), (3, .int (v1)), (0, .ref (eA E (b))), (1, .int (x1)), (2, .int (x2))]) dX2_groundOf_27 (by decide) rfl ?_
  refine Z.aload_n dX2_groundOf_29 5 rfl ?_
  refine Z.aload_n dX2_groundOf_30 5 rfl ?_
  refine Z.iload_n dX2_groundOf_31 6 rfl ?_
  refine Z.iconst (v := 4) dX2_groundOf_32 (by decide) ?_
  refine bindC H (fun v4 hv4 H => ?_)
  refine Z.callV (As := [.int (x1), .int (4)]) (rest := [.ref (eA E (b))]) (st' := [.int (v4), .ref (eA E (b))]) dX2_groundOf_33 (kX2_ofPicture hb (x1) (4) M hv4) kw277 kw278 kw279 kw6 kw280 hdX2_ofPicture (cS hb) (c2 hb) (hc := rfl) (by decide) (by decide) rfl rfl (Nat.le_of_ble_eq_true rfl) rfl ?_
  refine bindC H (fun v5 hv5 H => ?_)
  refine Z.callV (As := [.int (v4)]) (rest := []) (st' := []) dX2_groundOf_36 (kX2_standAt hb (v4) M hv5) kw286 kw288 ks6 kw6 kw289 hdX2_standAt (cS hb) (c2 hb) (hc := rfl) (by decide) (by decide) rfl rfl (Nat.le_of_ble_eq_true rfl) rfl ?_
  refine Z.iconst (v := 1) dX2_groundOf_39 (by decide) ?_
  refine Z.istore (lv' := [(9, .int (1)), (8, .int (0)), (6, .long (0)), (5, .int (v3)), (4, .int (v2)), (3, .int (v1)), (0, .ref (eA E (b))), (1, .int (x1)), (2, .int (x2))]) dX2_groundOf_40 (by decide) rfl ?_
  refine Z.sub [6, 7, 8, 5, 4, 3, 2, 1, 0] rfl ?_
  exact tX2_groundOf_42L hb  FU (x1) (x2) (v1) (v2) (v3) (0) (0) (1) v5 H
theorem kX2_groundOf {l : Launch} {E : Env5} {b : Nat} (hb : isSc b) (x1 : Int32) (x2 : Int32) (M : Mem) {v9 : Int64} {M9 : Mem} (H : fX2_groundOf b x1 x2 M = some (v9, M9)) : Cn l E yX2_groundOf cX2_groundOf 14 (some .long) 3 [.ref (eA E (b)), .int (x1), .int (x2)] M (PR (some (.long v9)) M9) := Cn.ofZ rfl (Nat.le_of_ble_eq_true rfl) rfl (tX2_groundOf_0 hb x1 x2 M H)
theorem hdX2_groundOf : yX2_groundOf.cls ≠ "java/lang/invoke/MethodHandle" ∧ yX2_groundOf.cls ≠ "java/lang/invoke/VarHandle" ∧ (parseMethodDescriptor yX2_groundOf.desc).map (fun d => d.parameters.length) = some 2 := by decide +kernel

set_option maxRecDepth 100000 in
theorem tX2_haveOneView_2 {l : Launch} {E : Env5} {b : Nat} (hb : isSc b) {k2 : Int32 → Int32 → Int32 → Option Int32} (x1 : Int32) (x2 : Int32) (x3 : Int32) (M : Mem) {v9 : Int32} (hk2 : ∀ (x1 : Int32) (x2 : Int32) (x3 : Int32), k2 x1 x2 x3 = some v9 → Z l E RX2 cX2_haveOneView 4 (some .boolean) 1 2 [(0, .ref (eA E (b))), (1, .int (x1)), (2, .int (x2)), (3, .int (x3))] [] M (PR (some (.int v9)) M)) (H : fX2_haveOneView_2B k2 b x1 x2 x3 M = some v9) : Z l E RX2 cX2_haveOneView 4 (some .boolean) 1 2 [(0, .ref (eA E (b))), (1, .int (x1)), (2, .int (x2)), (3, .int (x3))] [] M (PR (some (.int v9)) M) := by
  unfold fX2_haveOneView_2B at H
  refine Z.iload_n dX2_haveOneView_2 3 rfl ?_
  refine Z.iconst (v := 3) dX2_haveOneView_3 (by decide) ?_
  refine Z.icmp_gtH dX2_haveOneView_4 H (fun br4 H => ?_) (fun br4 H => ?_)
  · refine Z.iconst (v := 1) dX2_haveOneView_30 (by decide) ?_
    exact Z.zret rfl rfl dX2_haveOneView_31 (retR H)
  · refine Z.aload_n dX2_haveOneView_7 0 rfl ?_
    refine Z.iload_n dX2_haveOneView_8 1 rfl ?_
    refine Z.iload_n dX2_haveOneView_9 3 rfl ?_
    refine bindC H (fun v1 hv1 H => ?_)
    refine Z.callV (As := [.int (x1), .int (x3)]) (rest := []) (st' := [.int (v1)]) dX2_haveOneView_10 (kX2_ofPicture hb (x1) (x3) M hv1) kw277 kw278 kw279 kw6 kw280 hdX2_ofPicture (cS hb) (c2 hb) (hc := rfl) (by decide) (by decide) rfl rfl (Nat.le_of_ble_eq_true rfl) rfl ?_
    refine Z.aload_n dX2_haveOneView_13 0 rfl ?_
    refine Z.iload_n dX2_haveOneView_14 2 rfl ?_
    refine Z.iload_n dX2_haveOneView_15 3 rfl ?_
    refine bindC H (fun v2 hv2 H => ?_)
    refine Z.callV (As := [.int (x2), .int (x3)]) (rest := [.int (v1)]) (st' := [.int (v2), .int (v1)]) dX2_haveOneView_16 (kX2_ofPicture hb (x2) (x3) M hv2) kw277 kw278 kw279 kw6 kw280 hdX2_ofPicture (cS hb) (c2 hb) (hc := rfl) (by decide) (by decide) rfl rfl (Nat.le_of_ble_eq_true rfl) rfl ?_
    refine Z.icmp_eqH dX2_haveOneView_19 H (fun br19 H => ?_) (fun br19 H => ?_)
    · refine Z.iinc (v := x3 + 1) (lv' := [(3, .int (x3 + 1)), (0, .ref (eA E (b))), (1, .int (x1)), (2, .int (x2))]) dX2_haveOneView_24 3 rfl rfl (by decide) rfl ?_
      refine Z.goto dX2_haveOneView_27 ?_
      refine Z.sub [1, 2, 3, 0] rfl ?_
      exact hk2 (x1) (x2) (x3 + 1) H
    · refine Z.iconst (v := 0) dX2_haveOneView_22 (by decide) ?_
      exact Z.zret rfl rfl dX2_haveOneView_23 (retR H)
theorem tX2_haveOneView_2L {l : Launch} {E : Env5} {b : Nat} (hb : isSc b)  (M : Mem) {v9 : Int32}  : ∀ (n : Nat) (x1 : Int32) (x2 : Int32) (x3 : Int32), fX2_haveOneView_2L  b M n x1 x2 x3 = some v9 → Z l E RX2 cX2_haveOneView 4 (some .boolean) 1 2 [(0, .ref (eA E (b))), (1, .int (x1)), (2, .int (x2)), (3, .int (x3))] [] M (PR (some (.int v9)) M) := by
  intro n
  induction n with
  | zero => intro x1 x2 x3 H; exact absurd H (by simp [fX2_haveOneView_2L])
  | succ n ih => intro x1 x2 x3 H; exact tX2_haveOneView_2 hb x1 x2 x3 M  (fun x1 x2 x3 H => ih x1 x2 x3 H) H
set_option maxRecDepth 100000 in
theorem tX2_haveOneView_0 {l : Launch} {E : Env5} {b : Nat} (hb : isSc b)  (x1 : Int32) (x2 : Int32) (M : Mem) {v9 : Int32}  (H : fX2_haveOneView  b x1 x2 M = some v9) : Z l E RX2 cX2_haveOneView 4 (some .boolean) 1 0 [(0, .ref (eA E (b))), (1, .int (x1)), (2, .int (x2))] [] M (PR (some (.int v9)) M) := by
  unfold fX2_haveOneView at H
  refine Z.iconst (v := 0) dX2_haveOneView_0 (by decide) ?_
  refine Z.istore_n (lv' := [(3, .int (0)), (0, .ref (eA E (b))), (1, .int (x1)), (2, .int (x2))]) dX2_haveOneView_1 (by decide) rfl ?_
  refine Z.sub [1, 2, 3, 0] rfl ?_
  exact tX2_haveOneView_2L hb M  FU (x1) (x2) (0) H
theorem kX2_haveOneView {l : Launch} {E : Env5} {b : Nat} (hb : isSc b) (x1 : Int32) (x2 : Int32) (M : Mem) {v9 : Int32} (H : fX2_haveOneView b x1 x2 M = some v9) : Cn l E yX2_haveOneView cX2_haveOneView 4 (some .boolean) 1 [.ref (eA E (b)), .int (x1), .int (x2)] M (PR (some (.int v9)) M) := Cn.ofZ rfl (Nat.le_of_ble_eq_true rfl) rfl (tX2_haveOneView_0 hb x1 x2 M H)
theorem hdX2_haveOneView : yX2_haveOneView.cls ≠ "java/lang/invoke/MethodHandle" ∧ yX2_haveOneView.cls ≠ "java/lang/invoke/VarHandle" ∧ (parseMethodDescriptor yX2_haveOneView.desc).map (fun d => d.parameters.length) = some 2 := by decide +kernel

set_option maxRecDepth 100000 in
theorem tX2_findEmpties_39 {l : Launch} {E : Env5} {b : Nat} (hb : isSc b) {k4 : Int32 → Int32 → Int32 → Mem → Option (Int32 × Mem)} (x1 : Int32) (x2 : Int32) (x3 : Int32) (M : Mem) {v9 : Int32} {M9 : Mem} (hk4 : ∀ (x1 : Int32) (x2 : Int32) (x3 : Int32) (M : Mem), k4 x1 x2 x3 M = some (v9, M9) → Z l E RX2 cX2_findEmpties 4 (some .int) 4 4 [(0, .ref (eA E (b))), (1, .int (x1)), (2, .int (x2)), (3, .int (x3))] [] M (PR (some (.int v9)) M9)) (H : fX2_findEmpties_39 k4 b x1 x2 x3 M = some (v9, M9)) : Z l E RX2 cX2_findEmpties 4 (some .int) 4 39 [(0, .ref (eA E (b))), (1, .int (x1)), (2, .int (x2)), (3, .int (x3))] [] M (PR (some (.int v9)) M9) := by
  unfold fX2_findEmpties_39 at H
  refine Z.iinc (v := x3 + 1) (lv' := [(3, .int (x3 + 1)), (0, .ref (eA E (b))), (1, .int (x1)), (2, .int (x2))]) dX2_findEmpties_39 3 rfl rfl (by decide) rfl ?_
  refine Z.goto dX2_findEmpties_42 ?_
  refine Z.sub [1, 2, 3, 0] rfl ?_
  exact hk4 (x1) (x2) (x3 + 1) M  H
set_option maxRecDepth 100000 in
theorem tX2_findEmpties_4 {l : Launch} {E : Env5} {b : Nat} (hb : isSc b) {k4 : Int32 → Int32 → Int32 → Mem → Option (Int32 × Mem)} (x1 : Int32) (x2 : Int32) (x3 : Int32) (M : Mem) {v9 : Int32} {M9 : Mem} (hk4 : ∀ (x1 : Int32) (x2 : Int32) (x3 : Int32) (M : Mem), k4 x1 x2 x3 M = some (v9, M9) → Z l E RX2 cX2_findEmpties 4 (some .int) 4 4 [(0, .ref (eA E (b))), (1, .int (x1)), (2, .int (x2)), (3, .int (x3))] [] M (PR (some (.int v9)) M9)) (H : fX2_findEmpties_4B k4 b x1 x2 x3 M = some (v9, M9)) : Z l E RX2 cX2_findEmpties 4 (some .int) 4 4 [(0, .ref (eA E (b))), (1, .int (x1)), (2, .int (x2)), (3, .int (x3))] [] M (PR (some (.int v9)) M9) := by
  unfold fX2_findEmpties_4B at H
  refine Z.iload_n dX2_findEmpties_4 3 rfl ?_
  refine Z.aload_n dX2_findEmpties_5 0 rfl ?_
  refine Z.get dX2_findEmpties_6 inX2 (hc := rfl) (cS hb) (c2 hb) 7 (by decide) kw128 rfl rfl ?_
  refine Z.icmp_geH dX2_findEmpties_9 H (fun br9 H => ?_) (fun br9 H => ?_)
  · refine Z.iload_n dX2_findEmpties_45 2 rfl ?_
    exact Z.iret rfl dX2_findEmpties_46 (retW H)
  · refine Z.aload_n dX2_findEmpties_12 0 rfl ?_
    refine Z.iload_n dX2_findEmpties_13 1 rfl ?_
    refine Z.iload_n dX2_findEmpties_14 3 rfl ?_
    refine bindC H (fun v1 hv1 H => ?_)
    refine Z.callV (As := [.int (x1), .int (x3)]) (rest := []) (st' := [.int (v1)]) dX2_findEmpties_15 (kX2_haveOneView hb (x1) (x3) M hv1) kw542 kw544 ks21 kw6 kw545 hdX2_haveOneView (cS hb) (c2 hb) (hc := rfl) (by decide) (by decide) rfl rfl (Nat.le_of_ble_eq_true rfl) rfl ?_
    refine Z.if_eqH dX2_findEmpties_18 H (fun br18 H => ?_) (fun br18 H => ?_)
    · refine Z.sub [0, 1, 2, 3] rfl ?_
      exact tX2_findEmpties_39 hb (x1) (x2) (x3) M hk4 H
    · refine Z.iload_n dX2_findEmpties_21 2 rfl ?_
      refine Z.iconst (v := 1) dX2_findEmpties_22 (by decide) ?_
      refine Z.iload_n dX2_findEmpties_23 3 rfl ?_
      refine Z.ishl dX2_findEmpties_24 ?_
      refine Z.ior dX2_findEmpties_25 ?_
      refine Z.istore_n (lv' := [(2, .int (x2 ||| (1 <<< (x3 &&& 31)))), (0, .ref (eA E (b))), (1, .int (x1)), (3, .int (x3))]) dX2_findEmpties_26 (by decide) rfl ?_
      refine Z.aload_n dX2_findEmpties_27 1 rfl ?_
      refine Z.get dX2_findEmpties_28 inX2 (hc := rfl) (cS hb) (c2 hb) 13 (by decide) kw136 rfl rfl ?_
      refine Z.iload_n dX2_findEmpties_31 3 rfl ?_
      refine Z.aload_n dX2_findEmpties_32 1 rfl ?_
      refine Z.iload_n dX2_findEmpties_33 3 rfl ?_
      refine Z.iconst (v := 1) dX2_findEmpties_34 (by decide) ?_
      refine bindC H (fun v2 hv2 H => ?_)
      refine Z.callV (As := [.int (x3), .int (1)]) (rest := [.int (x3), .ref (eA E (b + 8))]) (st' := [.long (v2.1), .int (x3), .ref (eA E (b + 8))]) dX2_findEmpties_35 (kX2_groundOf hb (x3) (1) M hv2) kw546 kw548 ks22 kw6 kw549 hdX2_groundOf (cS hb) (c2 hb) (hc := rfl) (by decide) (by decide) rfl rfl (Nat.le_of_ble_eq_true rfl) rfl ?_
      refine Z.lastH dX2_findEmpties_38 (a2_empties hb) H (fun M3 H => ?_)
      refine Z.sub [1, 2, 0, 3] rfl ?_
      exact tX2_findEmpties_39 hb (x1) (x2 ||| (1 <<< (x3 &&& 31))) (x3) M3 hk4 H
theorem tX2_findEmpties_4L {l : Launch} {E : Env5} {b : Nat} (hb : isSc b)   {v9 : Int32} {M9 : Mem}  : ∀ (n : Nat) (x1 : Int32) (x2 : Int32) (x3 : Int32) (M : Mem), fX2_findEmpties_4L  b n x1 x2 x3 M = some (v9, M9) → Z l E RX2 cX2_findEmpties 4 (some .int) 4 4 [(0, .ref (eA E (b))), (1, .int (x1)), (2, .int (x2)), (3, .int (x3))] [] M (PR (some (.int v9)) M9) := by
  intro n
  induction n with
  | zero => intro x1 x2 x3 M H; exact absurd H (by simp [fX2_findEmpties_4L])
  | succ n ih => intro x1 x2 x3 M H; exact tX2_findEmpties_4 hb x1 x2 x3 M  (fun x1 x2 x3 M H => ih x1 x2 x3 M H) H
set_option maxRecDepth 100000 in
theorem tX2_findEmpties_0 {l : Launch} {E : Env5} {b : Nat} (hb : isSc b)  (x1 : Int32) (M : Mem) {v9 : Int32} {M9 : Mem}  (H : fX2_findEmpties  b x1 M = some (v9, M9)) : Z l E RX2 cX2_findEmpties 4 (some .int) 4 0 [(0, .ref (eA E (b))), (1, .int (x1))] [] M (PR (some (.int v9)) M9) := by
  unfold fX2_findEmpties at H
  refine Z.iconst (v := 0) dX2_findEmpties_0 (by decide) ?_
  refine Z.istore_n (lv' := [(2, .int (0)), (0, .ref (eA E (b))), (1, .int (x1))]) dX2_findEmpties_1 (by decide) rfl ?_
  refine Z.iconst (v := 0) dX2_findEmpties_2 (by decide) ?_
  refine Z.istore_n (lv' := [(3, .int (0)), (2, .int (0)), (0, .ref (eA E (b))), (1, .int (x1))]) dX2_findEmpties_3 (by decide) rfl ?_
  refine Z.sub [2, 3, 1, 0] rfl ?_
  exact tX2_findEmpties_4L hb  FU (x1) (0) (0) M H
theorem kX2_findEmpties {l : Launch} {E : Env5} {b : Nat} (hb : isSc b) (x1 : Int32) (M : Mem) {v9 : Int32} {M9 : Mem} (H : fX2_findEmpties b x1 M = some (v9, M9)) : Cn l E yX2_findEmpties cX2_findEmpties 4 (some .int) 4 [.ref (eA E (b)), .int (x1)] M (PR (some (.int v9)) M9) := Cn.ofZ rfl (Nat.le_of_ble_eq_true rfl) rfl (tX2_findEmpties_0 hb x1 M H)
theorem hdX2_findEmpties : yX2_findEmpties.cls ≠ "java/lang/invoke/MethodHandle" ∧ yX2_findEmpties.cls ≠ "java/lang/invoke/VarHandle" ∧ (parseMethodDescriptor yX2_findEmpties.desc).map (fun d => d.parameters.length) = some 1 := by decide +kernel

set_option maxRecDepth 100000 in
theorem tX2_emptyInSomeOf_33 {l : Launch} {E : Env5} {b : Nat} (hb : isSc b) {k5 : Int32 → Int64 → Int32 → Option Int64} (x1 : Int32) (x2 : Int64) (x4 : Int32) (M : Mem) {v9 : Int64} (hk5 : ∀ (x1 : Int32) (x2 : Int64) (x4 : Int32), k5 x1 x2 x4 = some v9 → Z l E RX2 cX2_emptyInSomeOf 5 (some .long) 0 5 [(0, .ref (eA E (b))), (1, .int (x1)), (2, .long (x2)), (4, .int (x4))] [] M (PR (some (.long v9)) M)) (H : fX2_emptyInSomeOf_33 k5 b x1 x2 x4 M = some v9) : Z l E RX2 cX2_emptyInSomeOf 5 (some .long) 0 33 [(0, .ref (eA E (b))), (1, .int (x1)), (2, .long (x2)), (4, .int (x4))] [] M (PR (some (.long v9)) M) := by
  unfold fX2_emptyInSomeOf_33 at H
  refine Z.iinc (v := x4 + 1) (lv' := [(4, .int (x4 + 1)), (0, .ref (eA E (b))), (1, .int (x1)), (2, .long (x2))]) dX2_emptyInSomeOf_33 3 rfl rfl (by decide) rfl ?_
  refine Z.goto dX2_emptyInSomeOf_36 ?_
  refine Z.sub [1, 2, 3, 0] rfl ?_
  exact hk5 (x1) (x2) (x4 + 1) H
set_option maxRecDepth 100000 in
theorem tX2_emptyInSomeOf_5 {l : Launch} {E : Env5} {b : Nat} (hb : isSc b) {k5 : Int32 → Int64 → Int32 → Option Int64} (x1 : Int32) (x2 : Int64) (x4 : Int32) (M : Mem) {v9 : Int64} (hk5 : ∀ (x1 : Int32) (x2 : Int64) (x4 : Int32), k5 x1 x2 x4 = some v9 → Z l E RX2 cX2_emptyInSomeOf 5 (some .long) 0 5 [(0, .ref (eA E (b))), (1, .int (x1)), (2, .long (x2)), (4, .int (x4))] [] M (PR (some (.long v9)) M)) (H : fX2_emptyInSomeOf_5B k5 b x1 x2 x4 M = some v9) : Z l E RX2 cX2_emptyInSomeOf 5 (some .long) 0 5 [(0, .ref (eA E (b))), (1, .int (x1)), (2, .long (x2)), (4, .int (x4))] [] M (PR (some (.long v9)) M) := by
  unfold fX2_emptyInSomeOf_5B at H
  refine Z.iload dX2_emptyInSomeOf_5 3 rfl ?_
  refine Z.aload_n dX2_emptyInSomeOf_7 0 rfl ?_
  refine Z.get dX2_emptyInSomeOf_8 inX2 (hc := rfl) (cS hb) (c2 hb) 7 (by decide) kw128 rfl rfl ?_
  refine Z.icmp_geH dX2_emptyInSomeOf_11 H (fun br11 H => ?_) (fun br11 H => ?_)
  · refine Z.lload_n dX2_emptyInSomeOf_39 2 rfl ?_
    exact Z.lret rfl dX2_emptyInSomeOf_40 (retRL H)
  · refine Z.iload_n dX2_emptyInSomeOf_14 1 rfl ?_
    refine Z.iload dX2_emptyInSomeOf_15 3 rfl ?_
    refine Z.ishr dX2_emptyInSomeOf_17 ?_
    refine Z.iconst (v := 1) dX2_emptyInSomeOf_18 (by decide) ?_
    refine Z.iand dX2_emptyInSomeOf_19 ?_
    refine Z.if_eqH dX2_emptyInSomeOf_20 H (fun br20 H => ?_) (fun br20 H => ?_)
    · refine Z.sub [0, 1, 2, 3] rfl ?_
      exact tX2_emptyInSomeOf_33 hb (x1) (x2) (x4) M hk5 H
    · refine Z.lload_n dX2_emptyInSomeOf_23 2 rfl ?_
      refine Z.aload_n dX2_emptyInSomeOf_24 0 rfl ?_
      refine Z.get dX2_emptyInSomeOf_25 inX2 (hc := rfl) (cS hb) (c2 hb) 13 (by decide) kw136 rfl rfl ?_
      refine Z.iload dX2_emptyInSomeOf_28 3 rfl ?_
      refine Z.laldH dX2_emptyInSomeOf_30 (a2_empties hb) H (fun v1 H => ?_)
      refine Z.lor dX2_emptyInSomeOf_31 ?_
      refine Z.lstore_n (lv' := [(2, .long (x2 ||| v1)), (0, .ref (eA E (b))), (1, .int (x1)), (4, .int (x4))]) dX2_emptyInSomeOf_32 (by decide) rfl ?_
      refine Z.sub [1, 2, 0, 3] rfl ?_
      exact tX2_emptyInSomeOf_33 hb (x1) (x2 ||| v1) (x4) M hk5 H
theorem tX2_emptyInSomeOf_5L {l : Launch} {E : Env5} {b : Nat} (hb : isSc b)  (M : Mem) {v9 : Int64}  : ∀ (n : Nat) (x1 : Int32) (x2 : Int64) (x4 : Int32), fX2_emptyInSomeOf_5L  b M n x1 x2 x4 = some v9 → Z l E RX2 cX2_emptyInSomeOf 5 (some .long) 0 5 [(0, .ref (eA E (b))), (1, .int (x1)), (2, .long (x2)), (4, .int (x4))] [] M (PR (some (.long v9)) M) := by
  intro n
  induction n with
  | zero => intro x1 x2 x4 H; exact absurd H (by simp [fX2_emptyInSomeOf_5L])
  | succ n ih => intro x1 x2 x4 H; exact tX2_emptyInSomeOf_5 hb x1 x2 x4 M  (fun x1 x2 x4 H => ih x1 x2 x4 H) H
set_option maxRecDepth 100000 in
theorem tX2_emptyInSomeOf_0 {l : Launch} {E : Env5} {b : Nat} (hb : isSc b)  (x1 : Int32) (M : Mem) {v9 : Int64}  (H : fX2_emptyInSomeOf  b x1 M = some v9) : Z l E RX2 cX2_emptyInSomeOf 5 (some .long) 0 0 [(0, .ref (eA E (b))), (1, .int (x1))] [] M (PR (some (.long v9)) M) := by
  unfold fX2_emptyInSomeOf at H
  refine Z.lconst (v := 0) dX2_emptyInSomeOf_0 (by decide) ?_
  refine Z.lstore_n (lv' := [(2, .long (0)), (0, .ref (eA E (b))), (1, .int (x1))]) dX2_emptyInSomeOf_1 (by decide) rfl ?_
  refine Z.iconst (v := 0) dX2_emptyInSomeOf_2 (by decide) ?_
  refine Z.istore (lv' := [(4, .int (0)), (2, .long (0)), (0, .ref (eA E (b))), (1, .int (x1))]) dX2_emptyInSomeOf_3 (by decide) rfl ?_
  refine Z.sub [2, 3, 1, 0] rfl ?_
  exact tX2_emptyInSomeOf_5L hb M  FU (x1) (0) (0) H
theorem kX2_emptyInSomeOf {l : Launch} {E : Env5} {b : Nat} (hb : isSc b) (x1 : Int32) (M : Mem) {v9 : Int64} (H : fX2_emptyInSomeOf b x1 M = some v9) : Cn l E yX2_emptyInSomeOf cX2_emptyInSomeOf 5 (some .long) 0 [.ref (eA E (b)), .int (x1)] M (PR (some (.long v9)) M) := Cn.ofZ rfl (Nat.le_of_ble_eq_true rfl) rfl (tX2_emptyInSomeOf_0 hb x1 M H)
theorem hdX2_emptyInSomeOf : yX2_emptyInSomeOf.cls ≠ "java/lang/invoke/MethodHandle" ∧ yX2_emptyInSomeOf.cls ≠ "java/lang/invoke/VarHandle" ∧ (parseMethodDescriptor yX2_emptyInSomeOf.desc).map (fun d => d.parameters.length) = some 1 := by decide +kernel

set_option maxRecDepth 100000 in
theorem tX2_fewestForEmpty_100 {l : Launch} {E : Env5} {b : Nat} (hb : isSc b) {k20 : Int32 → Int64 → Int32 → Int32 → Mem → Option (Int32 × Mem)} (x2 : Int32) (x3 : Int64) (x5 : Int32) (x6 : Int32) (M : Mem) {v9 : Int32} {M9 : Mem} (hk20 : ∀ (x2 : Int32) (x3 : Int64) (x5 : Int32) (x6 : Int32) (M : Mem), k20 x2 x3 x5 x6 M = some (v9, M9) → Z l E RX2 cX2_fewestForEmpty 9 (some .int) 5 20 [(0, .ref (eA E (b))), (2, .int (x2)), (3, .long (x3)), (5, .int (x5)), (6, .int (x6))] [] M (PR (some (.int v9)) M9)) (H : fX2_fewestForEmpty_100 k20 b x2 x3 x5 x6 M = some (v9, M9)) : Z l E RX2 cX2_fewestForEmpty 9 (some .int) 5 100 [(0, .ref (eA E (b))), (2, .int (x2)), (3, .long (x3)), (5, .int (x5)), (6, .int (x6))] [] M (PR (some (.int v9)) M9) := by
  unfold fX2_fewestForEmpty_100 at H
  refine Z.iinc (v := x6 + 1) (lv' := [(6, .int (x6 + 1)), (0, .ref (eA E (b))), (2, .int (x2)), (3, .long (x3)), (5, .int (x5))]) dX2_fewestForEmpty_100 4 rfl rfl (by decide) rfl ?_
  refine Z.goto dX2_fewestForEmpty_103 ?_
  refine Z.sub [1, 2, 3, 4, 0] rfl ?_
  exact hk20 (x2) (x3) (x5) (x6 + 1) M  H
set_option maxRecDepth 100000 in
theorem tX2_fewestForEmpty_67 {l : Launch} {E : Env5} {b : Nat} (hb : isSc b) {k20 : Int32 → Int64 → Int32 → Int32 → Mem → Option (Int32 × Mem)} (x2 : Int32) (x3 : Int64) (x5 : Int32) (x6 : Int32) (x7 : Int32) (s0 : Int32) (M : Mem) {v9 : Int32} {M9 : Mem} (hk20 : ∀ (x2 : Int32) (x3 : Int64) (x5 : Int32) (x6 : Int32) (M : Mem), k20 x2 x3 x5 x6 M = some (v9, M9) → Z l E RX2 cX2_fewestForEmpty 9 (some .int) 5 20 [(0, .ref (eA E (b))), (2, .int (x2)), (3, .long (x3)), (5, .int (x5)), (6, .int (x6))] [] M (PR (some (.int v9)) M9)) (H : fX2_fewestForEmpty_67 k20 b x2 x3 x5 x6 x7 s0 M = some (v9, M9)) : Z l E RX2 cX2_fewestForEmpty 9 (some .int) 5 67 [(0, .ref (eA E (b))), (2, .int (x2)), (3, .long (x3)), (5, .int (x5)), (6, .int (x6)), (7, .int (x7))] [.int (s0)] M (PR (some (.int v9)) M9) := by
  unfold fX2_fewestForEmpty_67 at H
  refine Z.istore (lv' := [(8, .int (s0)), (0, .ref (eA E (b))), (2, .int (x2)), (3, .long (x3)), (5, .int (x5)), (6, .int (x6)), (7, .int (x7))]) dX2_fewestForEmpty_67 (by decide) rfl ?_
  refine Z.iload dX2_fewestForEmpty_69 6 rfl ?_
  refine Z.if_eqH dX2_fewestForEmpty_71 H (fun br71 H => ?_) (fun br71 H => ?_)
  · refine Z.sub [1, 2, 3, 4, 5] rfl ?_
    exact tX2_fewestForEmpty_100 hb (x2) (x3) (x5) (x6) M hk20 H
  · refine Z.iload dX2_fewestForEmpty_74 0 rfl ?_
    refine Z.if_eqH dX2_fewestForEmpty_76 H (fun br76 H => ?_) (fun br76 H => ?_)
    · refine Z.sub [1, 2, 3, 4, 5] rfl ?_
      exact tX2_fewestForEmpty_100 hb (x2) (x3) (x5) (x6) M hk20 H
    · refine Z.lload_n dX2_fewestForEmpty_79 3 rfl ?_
      refine Z.aload_n dX2_fewestForEmpty_80 1 rfl ?_
      refine Z.iload dX2_fewestForEmpty_81 5 rfl ?_
      refine bindC H (fun v1 hv1 H => ?_)
      refine Z.callV (As := [.int (x6)]) (rest := [.long (x3)]) (st' := [.long (v1), .long (x3)]) dX2_fewestForEmpty_83 (kX2_emptyInSomeOf hb (x6) M hv1) kw559 kw561 ks25 kw6 kw562 hdX2_emptyInSomeOf (cS hb) (c2 hb) (hc := rfl) (by decide) (by decide) rfl rfl (Nat.le_of_ble_eq_true rfl) rfl ?_
      refine Z.ldc2 (v := (-1)) dX2_fewestForEmpty_86 kw563 ?_
      refine Z.lxor dX2_fewestForEmpty_89 ?_
      refine Z.land dX2_fewestForEmpty_90 ?_
      refine Z.lconst (v := 0) dX2_fewestForEmpty_91 (by decide) ?_
      refine Z.lcmp dX2_fewestForEmpty_92 ?_
      refine Z.if_neH dX2_fewestForEmpty_93 H (fun br93 H => ?_) (fun br93 H => ?_)
      · refine Z.sub [1, 2, 3, 4, 5] rfl ?_
        exact tX2_fewestForEmpty_100 hb (x2) (x3) (x5) (x6) M hk20 H
      · refine Z.iload dX2_fewestForEmpty_96 5 rfl ?_
        refine Z.istore (lv' := [(5, .int (x6)), (8, .int (s0)), (0, .ref (eA E (b))), (2, .int (x2)), (3, .long (x3)), (6, .int (x6)), (7, .int (x7))]) dX2_fewestForEmpty_98 (by decide) rfl ?_
        refine Z.sub [2, 3, 4, 0, 5] rfl ?_
        exact tX2_fewestForEmpty_100 hb (x2) (x3) (x6) (x6) M hk20 H
set_option maxRecDepth 100000 in
theorem tX2_fewestForEmpty_62 {l : Launch} {E : Env5} {b : Nat} (hb : isSc b) {k20 : Int32 → Int64 → Int32 → Int32 → Mem → Option (Int32 × Mem)} (x2 : Int32) (x3 : Int64) (x5 : Int32) (x6 : Int32) (x7 : Int32) (M : Mem) {v9 : Int32} {M9 : Mem} (hk20 : ∀ (x2 : Int32) (x3 : Int64) (x5 : Int32) (x6 : Int32) (M : Mem), k20 x2 x3 x5 x6 M = some (v9, M9) → Z l E RX2 cX2_fewestForEmpty 9 (some .int) 5 20 [(0, .ref (eA E (b))), (2, .int (x2)), (3, .long (x3)), (5, .int (x5)), (6, .int (x6))] [] M (PR (some (.int v9)) M9)) (H : fX2_fewestForEmpty_62 k20 b x2 x3 x5 x6 x7 M = some (v9, M9)) : Z l E RX2 cX2_fewestForEmpty 9 (some .int) 5 62 [(0, .ref (eA E (b))), (2, .int (x2)), (3, .long (x3)), (5, .int (x5)), (6, .int (x6)), (7, .int (x7))] [] M (PR (some (.int v9)) M9) := by
  unfold fX2_fewestForEmpty_62 at H
  refine Z.iconst (v := 1) dX2_fewestForEmpty_62 (by decide) ?_
  refine Z.goto dX2_fewestForEmpty_63 ?_
  refine Z.sub [0, 1, 2, 3, 4, 5] rfl ?_
  exact tX2_fewestForEmpty_67 hb (x2) (x3) (x5) (x6) (x7) (1) M hk20 H
set_option maxRecDepth 100000 in
theorem tX2_fewestForEmpty_40 {l : Launch} {E : Env5} {b : Nat} (hb : isSc b) {k20 : Int32 → Int64 → Int32 → Int32 → Mem → Option (Int32 × Mem)} (x2 : Int32) (x3 : Int64) (x5 : Int32) (x6 : Int32) (s0 : Int32) (M : Mem) {v9 : Int32} {M9 : Mem} (hk20 : ∀ (x2 : Int32) (x3 : Int64) (x5 : Int32) (x6 : Int32) (M : Mem), k20 x2 x3 x5 x6 M = some (v9, M9) → Z l E RX2 cX2_fewestForEmpty 9 (some .int) 5 20 [(0, .ref (eA E (b))), (2, .int (x2)), (3, .long (x3)), (5, .int (x5)), (6, .int (x6))] [] M (PR (some (.int v9)) M9)) (H : fX2_fewestForEmpty_40 k20 b x2 x3 x5 x6 s0 M = some (v9, M9)) : Z l E RX2 cX2_fewestForEmpty 9 (some .int) 5 40 [(0, .ref (eA E (b))), (2, .int (x2)), (3, .long (x3)), (5, .int (x5)), (6, .int (x6))] [.int (s0)] M (PR (some (.int v9)) M9) := by
  unfold fX2_fewestForEmpty_40 at H
  refine Z.istore (lv' := [(7, .int (s0)), (0, .ref (eA E (b))), (2, .int (x2)), (3, .long (x3)), (5, .int (x5)), (6, .int (x6))]) dX2_fewestForEmpty_40 (by decide) rfl ?_
  refine Z.iload dX2_fewestForEmpty_42 4 rfl ?_
  refine Z.bipush (v := (-9)) dX2_fewestForEmpty_44 (by decide) ?_
  refine Z.icmp_eqH dX2_fewestForEmpty_46 H (fun br46 H => ?_) (fun br46 H => ?_)
  · refine Z.sub [1, 2, 3, 4, 5, 0] rfl ?_
    exact tX2_fewestForEmpty_62 hb (x2) (x3) (x5) (x6) (s0) M hk20 H
  · refine Z.iload dX2_fewestForEmpty_49 5 rfl ?_
    refine bindC H (fun v1 hv1 H => ?_)
    refine Z.callS (As := [.int (x6)]) (rest := []) (st' := [.int (v1)]) dX2_fewestForEmpty_51 (kJ6_bitCount_0f7a4  (x6) M hv1) kw558 kw481 kw10 kw482 hdJ6_bitCount_0f7a4 (by decide) (by decide) rfl rfl (Nat.le_of_ble_eq_true rfl) rfl ?_
    refine Z.iload dX2_fewestForEmpty_54 4 rfl ?_
    refine bindC H (fun v2 hv2 H => ?_)
    refine Z.callS (As := [.int (x5)]) (rest := [.int (v1)]) (st' := [.int (v2), .int (v1)]) dX2_fewestForEmpty_56 (kJ6_bitCount_0f7a4  (x5) M hv2) kw558 kw481 kw10 kw482 hdJ6_bitCount_0f7a4 (by decide) (by decide) rfl rfl (Nat.le_of_ble_eq_true rfl) rfl ?_
    refine Z.icmp_geH dX2_fewestForEmpty_59 H (fun br59 H => ?_) (fun br59 H => ?_)
    · refine Z.iconst (v := 0) dX2_fewestForEmpty_66 (by decide) ?_
      refine Z.sub [1, 2, 3, 4, 5, 0] rfl ?_
      exact tX2_fewestForEmpty_67 hb (x2) (x3) (x5) (x6) (s0) (0) M hk20 H
    · refine Z.sub [1, 2, 3, 4, 5, 0] rfl ?_
      exact tX2_fewestForEmpty_62 hb (x2) (x3) (x5) (x6) (s0) M hk20 H
set_option maxRecDepth 100000 in
theorem tX2_fewestForEmpty_20 {l : Launch} {E : Env5} {b : Nat} (hb : isSc b) {k20 : Int32 → Int64 → Int32 → Int32 → Mem → Option (Int32 × Mem)} (x2 : Int32) (x3 : Int64) (x5 : Int32) (x6 : Int32) (M : Mem) {v9 : Int32} {M9 : Mem} (hk20 : ∀ (x2 : Int32) (x3 : Int64) (x5 : Int32) (x6 : Int32) (M : Mem), k20 x2 x3 x5 x6 M = some (v9, M9) → Z l E RX2 cX2_fewestForEmpty 9 (some .int) 5 20 [(0, .ref (eA E (b))), (2, .int (x2)), (3, .long (x3)), (5, .int (x5)), (6, .int (x6))] [] M (PR (some (.int v9)) M9)) (H : fX2_fewestForEmpty_20B k20 b x2 x3 x5 x6 M = some (v9, M9)) : Z l E RX2 cX2_fewestForEmpty 9 (some .int) 5 20 [(0, .ref (eA E (b))), (2, .int (x2)), (3, .long (x3)), (5, .int (x5)), (6, .int (x6))] [] M (PR (some (.int v9)) M9) := by
  unfold fX2_fewestForEmpty_20B at H
  refine Z.iload dX2_fewestForEmpty_20 4 rfl ?_
  refine Z.iload_n dX2_fewestForEmpty_22 1 rfl ?_
  refine Z.icmp_gtH dX2_fewestForEmpty_23 H (fun br23 H => ?_) (fun br23 H => ?_)
  · refine Z.iload dX2_fewestForEmpty_106 3 rfl ?_
    exact Z.iret rfl dX2_fewestForEmpty_108 (retW H)
  · refine Z.iload dX2_fewestForEmpty_26 4 rfl ?_
    refine Z.iload_n dX2_fewestForEmpty_28 1 rfl ?_
    refine Z.iconst (v := (-1)) dX2_fewestForEmpty_29 (by decide) ?_
    refine Z.ixor dX2_fewestForEmpty_30 ?_
    refine Z.iand dX2_fewestForEmpty_31 ?_
    refine Z.if_neH dX2_fewestForEmpty_32 H (fun br32 H => ?_) (fun br32 H => ?_)
    · refine Z.iconst (v := 0) dX2_fewestForEmpty_39 (by decide) ?_
      refine Z.sub [0, 1, 2, 3, 4] rfl ?_
      exact tX2_fewestForEmpty_40 hb (x2) (x3) (x5) (x6) (0) M hk20 H
    · refine Z.iconst (v := 1) dX2_fewestForEmpty_35 (by decide) ?_
      refine Z.goto dX2_fewestForEmpty_36 ?_
      refine Z.sub [0, 1, 2, 3, 4] rfl ?_
      exact tX2_fewestForEmpty_40 hb (x2) (x3) (x5) (x6) (1) M hk20 H
theorem tX2_fewestForEmpty_20L {l : Launch} {E : Env5} {b : Nat} (hb : isSc b)   {v9 : Int32} {M9 : Mem}  : ∀ (n : Nat) (x2 : Int32) (x3 : Int64) (x5 : Int32) (x6 : Int32) (M : Mem), fX2_fewestForEmpty_20L  b n x2 x3 x5 x6 M = some (v9, M9) → Z l E RX2 cX2_fewestForEmpty 9 (some .int) 5 20 [(0, .ref (eA E (b))), (2, .int (x2)), (3, .long (x3)), (5, .int (x5)), (6, .int (x6))] [] M (PR (some (.int v9)) M9) := by
  intro n
  induction n with
  | zero => intro x2 x3 x5 x6 M H; exact absurd H (by simp [fX2_fewestForEmpty_20L])
  | succ n ih => intro x2 x3 x5 x6 M H; exact tX2_fewestForEmpty_20 hb x2 x3 x5 x6 M  (fun x2 x3 x5 x6 M H => ih x2 x3 x5 x6 M H) H
set_option maxRecDepth 100000 in
theorem tX2_fewestForEmpty_0 {l : Launch} {E : Env5} {b : Nat} (hb : isSc b)  (x1 : Int32) (M : Mem) {v9 : Int32} {M9 : Mem}  (H : fX2_fewestForEmpty  b x1 M = some (v9, M9)) : Z l E RX2 cX2_fewestForEmpty 9 (some .int) 5 0 [(0, .ref (eA E (b))), (1, .int (x1))] [] M (PR (some (.int v9)) M9) := by
  unfold fX2_fewestForEmpty at H
  refine Z.aload_n dX2_fewestForEmpty_0 0 rfl ?_
  refine Z.iload_n dX2_fewestForEmpty_1 1 rfl ?_
  refine bindC H (fun v1 hv1 H => ?_)
  refine Z.callV (As := [.int (x1)]) (rest := []) (st' := [.int (v1.1)]) dX2_fewestForEmpty_2 (kX2_findEmpties hb (x1) M hv1) kw538 kw540 ks20 kw6 kw541 hdX2_findEmpties (cS hb) (c2 hb) (hc := rfl) (by decide) (by decide) rfl rfl (Nat.le_of_ble_eq_true rfl) rfl ?_
  refine Z.istore_n (lv' := [(2, .int (v1.1)), (0, .ref (eA E (b))), (1, .int (x1))]) dX2_fewestForEmpty_5 (by decide) rfl ?_
  refine Z.aload_n dX2_fewestForEmpty_6 1 rfl ?_
  refine Z.iload_n dX2_fewestForEmpty_7 2 rfl ?_
  refine Z.iconst (v := 0) dX2_fewestForEmpty_8 (by decide) ?_
  refine bindC H (fun v2 hv2 H => ?_)
  refine Z.callV (As := [.int (x1), .int (0)]) (rest := []) (st' := [.long (v2.1)]) dX2_fewestForEmpty_9 (kX2_groundOf hb (x1) (0) v1.2 hv2) kw546 kw548 ks22 kw6 kw549 hdX2_groundOf (cS hb) (c2 hb) (hc := rfl) (by decide) (by decide) rfl rfl (Nat.le_of_ble_eq_true rfl) rfl ?_
  refine Z.lstore_n (lv' := [(3, .long (v2.1)), (2, .int (v1.1)), (0, .ref (eA E (b))), (1, .int (x1))]) dX2_fewestForEmpty_12 (by decide) rfl ?_
  refine Z.bipush (v := (-9)) dX2_fewestForEmpty_13 (by decide) ?_
  refine Z.istore (lv' := [(5, .int ((-9))), (3, .long (v2.1)), (2, .int (v1.1)), (0, .ref (eA E (b))), (1, .int (x1))]) dX2_fewestForEmpty_15 (by decide) rfl ?_
  refine Z.iconst (v := 0) dX2_fewestForEmpty_17 (by decide) ?_
  refine Z.istore (lv' := [(6, .int (0)), (5, .int ((-9))), (3, .long (v2.1)), (2, .int (v1.1)), (0, .ref (eA E (b))), (1, .int (x1))]) dX2_fewestForEmpty_18 (by decide) rfl ?_
  refine Z.sub [4, 3, 2, 1, 0] rfl ?_
  exact tX2_fewestForEmpty_20L hb  FU (v1.1) (v2.1) ((-9)) (0) v2.2 H
theorem kX2_fewestForEmpty {l : Launch} {E : Env5} {b : Nat} (hb : isSc b) (x1 : Int32) (M : Mem) {v9 : Int32} {M9 : Mem} (H : fX2_fewestForEmpty b x1 M = some (v9, M9)) : Cn l E yX2_fewestForEmpty cX2_fewestForEmpty 9 (some .int) 5 [.ref (eA E (b)), .int (x1)] M (PR (some (.int v9)) M9) := Cn.ofZ rfl (Nat.le_of_ble_eq_true rfl) rfl (tX2_fewestForEmpty_0 hb x1 M H)
theorem hdX2_fewestForEmpty : yX2_fewestForEmpty.cls ≠ "java/lang/invoke/MethodHandle" ∧ yX2_fewestForEmpty.cls ≠ "java/lang/invoke/VarHandle" ∧ (parseMethodDescriptor yX2_fewestForEmpty.desc).map (fun d => d.parameters.length) = some 1 := by decide +kernel

set_option maxRecDepth 100000 in
theorem tJ13_bitCount_95d88_0 {l : Launch} {E : Env5}    (x0 : Int64) (M : Mem) {v9 : Int32}  (H : fJ13_bitCount_95d88  x0 = some v9) : Z l E RJ13 cJ13_bitCount_95d88 2 (some .int) 0 0 [(0, .long (x0))] [] M (PR (some (.int v9)) M) := by
  unfold fJ13_bitCount_95d88 at H
  refine Z.lload_n dJ13_bitCount_95d88_0 0 rfl ?_
  refine Z.lload_n dJ13_bitCount_95d88_1 0 rfl ?_
  refine Z.iconst (v := 1) dJ13_bitCount_95d88_2 (by decide) ?_
  refine Z.lushr dJ13_bitCount_95d88_3 ?_
  refine Z.ldc2 (v := 6148914691236517205) dJ13_bitCount_95d88_4 kw571 ?_
  refine Z.land dJ13_bitCount_95d88_7 ?_
  refine Z.lsub dJ13_bitCount_95d88_8 ?_
  refine Z.lstore_n (lv' := [(0, .long (x0 - (((x0.toUInt64 >>> ((1 : Int32).toInt64.toUInt64 &&& Int64.toUInt64 63)).toInt64) &&& 6148914691236517205)))]) dJ13_bitCount_95d88_9 (by decide) rfl ?_
  refine Z.lload_n dJ13_bitCount_95d88_10 0 rfl ?_
  refine Z.ldc2 (v := 3689348814741910323) dJ13_bitCount_95d88_11 kw572 ?_
  refine Z.land dJ13_bitCount_95d88_14 ?_
  refine Z.lload_n dJ13_bitCount_95d88_15 0 rfl ?_
  refine Z.iconst (v := 2) dJ13_bitCount_95d88_16 (by decide) ?_
  refine Z.lushr dJ13_bitCount_95d88_17 ?_
  refine Z.ldc2 (v := 3689348814741910323) dJ13_bitCount_95d88_18 kw572 ?_
  refine Z.land dJ13_bitCount_95d88_21 ?_
  refine Z.ladd dJ13_bitCount_95d88_22 ?_
  refine Z.lstore_n (lv' := [(0, .long (((x0 - (((x0.toUInt64 >>> ((1 : Int32).toInt64.toUInt64 &&& Int64.toUInt64 63)).toInt64) &&& 6148914691236517205)) &&& 3689348814741910323) + ((((x0 - (((x0.toUInt64 >>> ((1 : Int32).toInt64.toUInt64 &&& Int64.toUInt64 63)).toInt64) &&& 6148914691236517205)).toUInt64 >>> ((2 : Int32).toInt64.toUInt64 &&& Int64.toUInt64 63)).toInt64) &&& 3689348814741910323)))]) dJ13_bitCount_95d88_23 (by decide) rfl ?_
  refine Z.lload_n dJ13_bitCount_95d88_24 0 rfl ?_
  refine Z.lload_n dJ13_bitCount_95d88_25 0 rfl ?_
  refine Z.iconst (v := 4) dJ13_bitCount_95d88_26 (by decide) ?_
  refine Z.lushr dJ13_bitCount_95d88_27 ?_
  refine Z.ladd dJ13_bitCount_95d88_28 ?_
  refine Z.ldc2 (v := 1085102592571150095) dJ13_bitCount_95d88_29 kw573 ?_
  refine Z.land dJ13_bitCount_95d88_32 ?_
  refine Z.lstore_n (lv' := [(0, .long (((((x0 - (((x0.toUInt64 >>> ((1 : Int32).toInt64.toUInt64 &&& Int64.toUInt64 63)).toInt64) &&& 6148914691236517205)) &&& 3689348814741910323) + ((((x0 - (((x0.toUInt64 >>> ((1 : Int32).toInt64.toUInt64 &&& Int64.toUInt64 63)).toInt64) &&& 6148914691236517205)).toUInt64 >>> ((2 : Int32).toInt64.toUInt64 &&& Int64.toUInt64 63)).toInt64) &&& 3689348814741910323)) + (((((x0 - (((x0.toUInt64 >>> ((1 : Int32).toInt64.toUInt64 &&& Int64.toUInt64 63)).toInt64) &&& 6148914691236517205)) &&& 3689348814741910323) + ((((x0 - (((x0.toUInt64 >>> ((1 : Int32).toInt64.toUInt64 &&& Int64.toUInt64 63)).toInt64) &&& 6148914691236517205)).toUInt64 >>> ((2 : Int32).toInt64.toUInt64 &&& Int64.toUInt64 63)).toInt64) &&& 3689348814741910323)).toUInt64 >>> ((4 : Int32).toInt64.toUInt64 &&& Int64.toUInt64 63)).toInt64)) &&& 1085102592571150095))]) dJ13_bitCount_95d88_33 (by decide) rfl ?_
  refine Z.lload_n dJ13_bitCount_95d88_34 0 rfl ?_
  refine Z.lload_n dJ13_bitCount_95d88_35 0 rfl ?_
  refine Z.bipush (v := 8) dJ13_bitCount_95d88_36 (by decide) ?_
  refine Z.lushr dJ13_bitCount_95d88_38 ?_
  refine Z.ladd dJ13_bitCount_95d88_39 ?_
  refine Z.lstore_n (lv' := [(0, .long ((((((x0 - (((x0.toUInt64 >>> ((1 : Int32).toInt64.toUInt64 &&& Int64.toUInt64 63)).toInt64) &&& 6148914691236517205)) &&& 3689348814741910323) + ((((x0 - (((x0.toUInt64 >>> ((1 : Int32).toInt64.toUInt64 &&& Int64.toUInt64 63)).toInt64) &&& 6148914691236517205)).toUInt64 >>> ((2 : Int32).toInt64.toUInt64 &&& Int64.toUInt64 63)).toInt64) &&& 3689348814741910323)) + (((((x0 - (((x0.toUInt64 >>> ((1 : Int32).toInt64.toUInt64 &&& Int64.toUInt64 63)).toInt64) &&& 6148914691236517205)) &&& 3689348814741910323) + ((((x0 - (((x0.toUInt64 >>> ((1 : Int32).toInt64.toUInt64 &&& Int64.toUInt64 63)).toInt64) &&& 6148914691236517205)).toUInt64 >>> ((2 : Int32).toInt64.toUInt64 &&& Int64.toUInt64 63)).toInt64) &&& 3689348814741910323)).toUInt64 >>> ((4 : Int32).toInt64.toUInt64 &&& Int64.toUInt64 63)).toInt64)) &&& 1085102592571150095) + (((((((x0 - (((x0.toUInt64 >>> ((1 : Int32).toInt64.toUInt64 &&& Int64.toUInt64 63)).toInt64) &&& 6148914691236517205)) &&& 3689348814741910323) + ((((x0 - (((x0.toUInt64 >>> ((1 : Int32).toInt64.toUInt64 &&& Int64.toUInt64 63)).toInt64) &&& 6148914691236517205)).toUInt64 >>> ((2 : Int32).toInt64.toUInt64 &&& Int64.toUInt64 63)).toInt64) &&& 3689348814741910323)) + (((((x0 - (((x0.toUInt64 >>> ((1 : Int32).toInt64.toUInt64 &&& Int64.toUInt64 63)).toInt64) &&& 6148914691236517205)) &&& 3689348814741910323) + ((((x0 - (((x0.toUInt64 >>> ((1 : Int32).toInt64.toUInt64 &&& Int64.toUInt64 63)).toInt64) &&& 6148914691236517205)).toUInt64 >>> ((2 : Int32).toInt64.toUInt64 &&& Int64.toUInt64 63)).toInt64) &&& 3689348814741910323)).toUInt64 >>> ((4 : Int32).toInt64.toUInt64 &&& Int64.toUInt64 63)).toInt64)) &&& 1085102592571150095).toUInt64 >>> ((8 : Int32).toInt64.toUInt64 &&& Int64.toUInt64 63)).toInt64)))]) dJ13_bitCount_95d88_40 (by decide) rfl ?_
  refine Z.lload_n dJ13_bitCount_95d88_41 0 rfl ?_
  refine Z.lload_n dJ13_bitCount_95d88_42 0 rfl ?_
  refine Z.bipush (v := 16) dJ13_bitCount_95d88_43 (by decide) ?_
  refine Z.lushr dJ13_bitCount_95d88_45 ?_
  refine Z.ladd dJ13_bitCount_95d88_46 ?_
  refine Z.lstore_n (lv' := [(0, .long (((((((x0 - (((x0.toUInt64 >>> ((1 : Int32).toInt64.toUInt64 &&& Int64.toUInt64 63)).toInt64) &&& 6148914691236517205)) &&& 3689348814741910323) + ((((x0 - (((x0.toUInt64 >>> ((1 : Int32).toInt64.toUInt64 &&& Int64.toUInt64 63)).toInt64) &&& 6148914691236517205)).toUInt64 >>> ((2 : Int32).toInt64.toUInt64 &&& Int64.toUInt64 63)).toInt64) &&& 3689348814741910323)) + (((((x0 - (((x0.toUInt64 >>> ((1 : Int32).toInt64.toUInt64 &&& Int64.toUInt64 63)).toInt64) &&& 6148914691236517205)) &&& 3689348814741910323) + ((((x0 - (((x0.toUInt64 >>> ((1 : Int32).toInt64.toUInt64 &&& Int64.toUInt64 63)).toInt64) &&& 6148914691236517205)).toUInt64 >>> ((2 : Int32).toInt64.toUInt64 &&& Int64.toUInt64 63)).toInt64) &&& 3689348814741910323)).toUInt64 >>> ((4 : Int32).toInt64.toUInt64 &&& Int64.toUInt64 63)).toInt64)) &&& 1085102592571150095) + (((((((x0 - (((x0.toUInt64 >>> ((1 : Int32).toInt64.toUInt64 &&& Int64.toUInt64 63)).toInt64) &&& 6148914691236517205)) &&& 3689348814741910323) + ((((x0 - (((x0.toUInt64 >>> ((1 : Int32).toInt64.toUInt64 &&& Int64.toUInt64 63)).toInt64) &&& 6148914691236517205)).toUInt64 >>> ((2 : Int32).toInt64.toUInt64 &&& Int64.toUInt64 63)).toInt64) &&& 3689348814741910323)) + (((((x0 - (((x0.toUInt64 >>> ((1 : Int32).toInt64.toUInt64 &&& Int64.toUInt64 63)).toInt64) &&& 6148914691236517205)) &&& 3689348814741910323) + ((((x0 - (((x0.toUInt64 >>> ((1 : Int32).toInt64.toUInt64 &&& Int64.toUInt64 63)).toInt64) &&& 6148914691236517205)).toUInt64 >>> ((2 : Int32).toInt64.toUInt64 &&& Int64.toUInt64 63)).toInt64) &&& 3689348814741910323)).toUInt64 >>> ((4 : Int32).toInt64.toUInt64 &&& Int64.toUInt64 63)).toInt64)) &&& 1085102592571150095).toUInt64 >>> ((8 : Int32).toInt64.toUInt64 &&& Int64.toUInt64 63)).toInt64)) + ((((((((x0 - (((x0.toUInt64 >>> ((1 : Int32).toInt64.toUInt64 &&& Int64.toUInt64 63)).toInt64) &&& 6148914691236517205)) &&& 3689348814741910323) + ((((x0 - (((x0.toUInt64 >>> ((1 : Int32).toInt64.toUInt64 &&& Int64.toUInt64 63)).toInt64) &&& 6148914691236517205)).toUInt64 >>> ((2 : Int32).toInt64.toUInt64 &&& Int64.toUInt64 63)).toInt64) &&& 3689348814741910323)) + (((((x0 - (((x0.toUInt64 >>> ((1 : Int32).toInt64.toUInt64 &&& Int64.toUInt64 63)).toInt64) &&& 6148914691236517205)) &&& 3689348814741910323) + ((((x0 - (((x0.toUInt64 >>> ((1 : Int32).toInt64.toUInt64 &&& Int64.toUInt64 63)).toInt64) &&& 6148914691236517205)).toUInt64 >>> ((2 : Int32).toInt64.toUInt64 &&& Int64.toUInt64 63)).toInt64) &&& 3689348814741910323)).toUInt64 >>> ((4 : Int32).toInt64.toUInt64 &&& Int64.toUInt64 63)).toInt64)) &&& 1085102592571150095) + (((((((x0 - (((x0.toUInt64 >>> ((1 : Int32).toInt64.toUInt64 &&& Int64.toUInt64 63)).toInt64) &&& 6148914691236517205)) &&& 3689348814741910323) + ((((x0 - (((x0.toUInt64 >>> ((1 : Int32).toInt64.toUInt64 &&& Int64.toUInt64 63)).toInt64) &&& 6148914691236517205)).toUInt64 >>> ((2 : Int32).toInt64.toUInt64 &&& Int64.toUInt64 63)).toInt64) &&& 3689348814741910323)) + (((((x0 - (((x0.toUInt64 >>> ((1 : Int32).toInt64.toUInt64 &&& Int64.toUInt64 63)).toInt64) &&& 6148914691236517205)) &&& 3689348814741910323) + ((((x0 - (((x0.toUInt64 >>> ((1 : Int32).toInt64.toUInt64 &&& Int64.toUInt64 63)).toInt64) &&& 6148914691236517205)).toUInt64 >>> ((2 : Int32).toInt64.toUInt64 &&& Int64.toUInt64 63)).toInt64) &&& 3689348814741910323)).toUInt64 >>> ((4 : Int32).toInt64.toUInt64 &&& Int64.toUInt64 63)).toInt64)) &&& 1085102592571150095).toUInt64 >>> ((8 : Int32).toInt64.toUInt64 &&& Int64.toUInt64 63)).toInt64)).toUInt64 >>> ((16 : Int32).toInt64.toUInt64 &&& Int64.toUInt64 63)).toInt64)))]) dJ13_bitCount_95d88_47 (by decide) rfl ?_
  refine Z.lload_n dJ13_bitCount_95d88_48 0 rfl ?_
  refine Z.lload_n dJ13_bitCount_95d88_49 0 rfl ?_
  refine Z.bipush (v := 32) dJ13_bitCount_95d88_50 (by decide) ?_
  refine Z.lushr dJ13_bitCount_95d88_52 ?_
  refine Z.ladd dJ13_bitCount_95d88_53 ?_
  refine Z.lstore_n (lv' := [(0, .long ((((((((x0 - (((x0.toUInt64 >>> ((1 : Int32).toInt64.toUInt64 &&& Int64.toUInt64 63)).toInt64) &&& 6148914691236517205)) &&& 3689348814741910323) + ((((x0 - (((x0.toUInt64 >>> ((1 : Int32).toInt64.toUInt64 &&& Int64.toUInt64 63)).toInt64) &&& 6148914691236517205)).toUInt64 >>> ((2 : Int32).toInt64.toUInt64 &&& Int64.toUInt64 63)).toInt64) &&& 3689348814741910323)) + (((((x0 - (((x0.toUInt64 >>> ((1 : Int32).toInt64.toUInt64 &&& Int64.toUInt64 63)).toInt64) &&& 6148914691236517205)) &&& 3689348814741910323) + ((((x0 - (((x0.toUInt64 >>> ((1 : Int32).toInt64.toUInt64 &&& Int64.toUInt64 63)).toInt64) &&& 6148914691236517205)).toUInt64 >>> ((2 : Int32).toInt64.toUInt64 &&& Int64.toUInt64 63)).toInt64) &&& 3689348814741910323)).toUInt64 >>> ((4 : Int32).toInt64.toUInt64 &&& Int64.toUInt64 63)).toInt64)) &&& 1085102592571150095) + (((((((x0 - (((x0.toUInt64 >>> ((1 : Int32).toInt64.toUInt64 &&& Int64.toUInt64 63)).toInt64) &&& 6148914691236517205)) &&& 3689348814741910323) + ((((x0 - (((x0.toUInt64 >>> ((1 : Int32).toInt64.toUInt64 &&& Int64.toUInt64 63)).toInt64) &&& 6148914691236517205)).toUInt64 >>> ((2 : Int32).toInt64.toUInt64 &&& Int64.toUInt64 63)).toInt64) &&& 3689348814741910323)) + (((((x0 - (((x0.toUInt64 >>> ((1 : Int32).toInt64.toUInt64 &&& Int64.toUInt64 63)).toInt64) &&& 6148914691236517205)) &&& 3689348814741910323) + ((((x0 - (((x0.toUInt64 >>> ((1 : Int32).toInt64.toUInt64 &&& Int64.toUInt64 63)).toInt64) &&& 6148914691236517205)).toUInt64 >>> ((2 : Int32).toInt64.toUInt64 &&& Int64.toUInt64 63)).toInt64) &&& 3689348814741910323)).toUInt64 >>> ((4 : Int32).toInt64.toUInt64 &&& Int64.toUInt64 63)).toInt64)) &&& 1085102592571150095).toUInt64 >>> ((8 : Int32).toInt64.toUInt64 &&& Int64.toUInt64 63)).toInt64)) + ((((((((x0 - (((x0.toUInt64 >>> ((1 : Int32).toInt64.toUInt64 &&& Int64.toUInt64 63)).toInt64) &&& 6148914691236517205)) &&& 3689348814741910323) + ((((x0 - (((x0.toUInt64 >>> ((1 : Int32).toInt64.toUInt64 &&& Int64.toUInt64 63)).toInt64) &&& 6148914691236517205)).toUInt64 >>> ((2 : Int32).toInt64.toUInt64 &&& Int64.toUInt64 63)).toInt64) &&& 3689348814741910323)) + (((((x0 - (((x0.toUInt64 >>> ((1 : Int32).toInt64.toUInt64 &&& Int64.toUInt64 63)).toInt64) &&& 6148914691236517205)) &&& 3689348814741910323) + ((((x0 - (((x0.toUInt64 >>> ((1 : Int32).toInt64.toUInt64 &&& Int64.toUInt64 63)).toInt64) &&& 6148914691236517205)).toUInt64 >>> ((2 : Int32).toInt64.toUInt64 &&& Int64.toUInt64 63)).toInt64) &&& 3689348814741910323)).toUInt64 >>> ((4 : Int32).toInt64.toUInt64 &&& Int64.toUInt64 63)).toInt64)) &&& 1085102592571150095) + (((((((x0 - (((x0.toUInt64 >>> ((1 : Int32).toInt64.toUInt64 &&& Int64.toUInt64 63)).toInt64) &&& 6148914691236517205)) &&& 3689348814741910323) + ((((x0 - (((x0.toUInt64 >>> ((1 : Int32).toInt64.toUInt64 &&& Int64.toUInt64 63)).toInt64) &&& 6148914691236517205)).toUInt64 >>> ((2 : Int32).toInt64.toUInt64 &&& Int64.toUInt64 63)).toInt64) &&& 3689348814741910323)) + (((((x0 - (((x0.toUInt64 >>> ((1 : Int32).toInt64.toUInt64 &&& Int64.toUInt64 63)).toInt64) &&& 6148914691236517205)) &&& 3689348814741910323) + ((((x0 - (((x0.toUInt64 >>> ((1 : Int32).toInt64.toUInt64 &&& Int64.toUInt64 63)).toInt64) &&& 6148914691236517205)).toUInt64 >>> ((2 : Int32).toInt64.toUInt64 &&& Int64.toUInt64 63)).toInt64) &&& 3689348814741910323)).toUInt64 >>> ((4 : Int32).toInt64.toUInt64 &&& Int64.toUInt64 63)).toInt64)) &&& 1085102592571150095).toUInt64 >>> ((8 : Int32).toInt64.toUInt64 &&& Int64.toUInt64 63)).toInt64)).toUInt64 >>> ((16 : Int32).toInt64.toUInt64 &&& Int64.toUInt64 63)).toInt64)) + (((((((((x0 - (((x0.toUInt64 >>> ((1 : Int32).toInt64.toUInt64 &&& Int64.toUInt64 63)).toInt64) &&& 6148914691236517205)) &&& 3689348814741910323) + ((((x0 - (((x0.toUInt64 >>> ((1 : Int32).toInt64.toUInt64 &&& Int64.toUInt64 63)).toInt64) &&& 6148914691236517205)).toUInt64 >>> ((2 : Int32).toInt64.toUInt64 &&& Int64.toUInt64 63)).toInt64) &&& 3689348814741910323)) + (((((x0 - (((x0.toUInt64 >>> ((1 : Int32).toInt64.toUInt64 &&& Int64.toUInt64 63)).toInt64) &&& 6148914691236517205)) &&& 3689348814741910323) + ((((x0 - (((x0.toUInt64 >>> ((1 : Int32).toInt64.toUInt64 &&& Int64.toUInt64 63)).toInt64) &&& 6148914691236517205)).toUInt64 >>> ((2 : Int32).toInt64.toUInt64 &&& Int64.toUInt64 63)).toInt64) &&& 3689348814741910323)).toUInt64 >>> ((4 : Int32).toInt64.toUInt64 &&& Int64.toUInt64 63)).toInt64)) &&& 1085102592571150095) + (((((((x0 - (((x0.toUInt64 >>> ((1 : Int32).toInt64.toUInt64 &&& Int64.toUInt64 63)).toInt64) &&& 6148914691236517205)) &&& 3689348814741910323) + ((((x0 - (((x0.toUInt64 >>> ((1 : Int32).toInt64.toUInt64 &&& Int64.toUInt64 63)).toInt64) &&& 6148914691236517205)).toUInt64 >>> ((2 : Int32).toInt64.toUInt64 &&& Int64.toUInt64 63)).toInt64) &&& 3689348814741910323)) + (((((x0 - (((x0.toUInt64 >>> ((1 : Int32).toInt64.toUInt64 &&& Int64.toUInt64 63)).toInt64) &&& 6148914691236517205)) &&& 3689348814741910323) + ((((x0 - (((x0.toUInt64 >>> ((1 : Int32).toInt64.toUInt64 &&& Int64.toUInt64 63)).toInt64) &&& 6148914691236517205)).toUInt64 >>> ((2 : Int32).toInt64.toUInt64 &&& Int64.toUInt64 63)).toInt64) &&& 3689348814741910323)).toUInt64 >>> ((4 : Int32).toInt64.toUInt64 &&& Int64.toUInt64 63)).toInt64)) &&& 1085102592571150095).toUInt64 >>> ((8 : Int32).toInt64.toUInt64 &&& Int64.toUInt64 63)).toInt64)) + ((((((((x0 - (((x0.toUInt64 >>> ((1 : Int32).toInt64.toUInt64 &&& Int64.toUInt64 63)).toInt64) &&& 6148914691236517205)) &&& 3689348814741910323) + ((((x0 - (((x0.toUInt64 >>> ((1 : Int32).toInt64.toUInt64 &&& Int64.toUInt64 63)).toInt64) &&& 6148914691236517205)).toUInt64 >>> ((2 : Int32).toInt64.toUInt64 &&& Int64.toUInt64 63)).toInt64) &&& 3689348814741910323)) + (((((x0 - (((x0.toUInt64 >>> ((1 : Int32).toInt64.toUInt64 &&& Int64.toUInt64 63)).toInt64) &&& 6148914691236517205)) &&& 3689348814741910323) + ((((x0 - (((x0.toUInt64 >>> ((1 : Int32).toInt64.toUInt64 &&& Int64.toUInt64 63)).toInt64) &&& 6148914691236517205)).toUInt64 >>> ((2 : Int32).toInt64.toUInt64 &&& Int64.toUInt64 63)).toInt64) &&& 3689348814741910323)).toUInt64 >>> ((4 : Int32).toInt64.toUInt64 &&& Int64.toUInt64 63)).toInt64)) &&& 1085102592571150095) + (((((((x0 - (((x0.toUInt64 >>> ((1 : Int32).toInt64.toUInt64 &&& Int64.toUInt64 63)).toInt64) &&& 6148914691236517205)) &&& 3689348814741910323) + ((((x0 - (((x0.toUInt64 >>> ((1 : Int32).toInt64.toUInt64 &&& Int64.toUInt64 63)).toInt64) &&& 6148914691236517205)).toUInt64 >>> ((2 : Int32).toInt64.toUInt64 &&& Int64.toUInt64 63)).toInt64) &&& 3689348814741910323)) + (((((x0 - (((x0.toUInt64 >>> ((1 : Int32).toInt64.toUInt64 &&& Int64.toUInt64 63)).toInt64) &&& 6148914691236517205)) &&& 3689348814741910323) + ((((x0 - (((x0.toUInt64 >>> ((1 : Int32).toInt64.toUInt64 &&& Int64.toUInt64 63)).toInt64) &&& 6148914691236517205)).toUInt64 >>> ((2 : Int32).toInt64.toUInt64 &&& Int64.toUInt64 63)).toInt64) &&& 3689348814741910323)).toUInt64 >>> ((4 : Int32).toInt64.toUInt64 &&& Int64.toUInt64 63)).toInt64)) &&& 1085102592571150095).toUInt64 >>> ((8 : Int32).toInt64.toUInt64 &&& Int64.toUInt64 63)).toInt64)).toUInt64 >>> ((16 : Int32).toInt64.toUInt64 &&& Int64.toUInt64 63)).toInt64)).toUInt64 >>> ((32 : Int32).toInt64.toUInt64 &&& Int64.toUInt64 63)).toInt64)))]) dJ13_bitCount_95d88_54 (by decide) rfl ?_
  refine Z.lload_n dJ13_bitCount_95d88_55 0 rfl ?_
  refine Z.l2i dJ13_bitCount_95d88_56 ?_
  refine Z.bipush (v := 127) dJ13_bitCount_95d88_57 (by decide) ?_
  refine Z.iand dJ13_bitCount_95d88_59 ?_
  exact Z.iret rfl dJ13_bitCount_95d88_60 (retR H)
theorem kJ13_bitCount_95d88 {l : Launch} {E : Env5}   (x0 : Int64) (M : Mem) {v9 : Int32} (H : fJ13_bitCount_95d88 x0 = some v9) : Cn l E yJ13_bitCount_95d88 cJ13_bitCount_95d88 2 (some .int) 0 [.long (x0)] M (PR (some (.int v9)) M) := Cn.ofZ rfl (Nat.le_of_ble_eq_true rfl) rfl (tJ13_bitCount_95d88_0  x0 M H)
theorem hdJ13_bitCount_95d88 : yJ13_bitCount_95d88.cls ≠ "java/lang/invoke/MethodHandle" ∧ yJ13_bitCount_95d88.cls ≠ "java/lang/invoke/VarHandle" ∧ (parseMethodDescriptor yJ13_bitCount_95d88.desc).map (fun d => d.parameters.length) = some 1 := by decide +kernel

set_option maxRecDepth 100000 in
theorem tX2_countNeverEmpty_0 {l : Launch} {E : Env5} {b : Nat} (hb : isSc b)  (x1 : Int32) (M : Mem) {v9 : Int32} {M9 : Mem}  (H : fX2_countNeverEmpty  b x1 M = some (v9, M9)) : Z l E RX2 cX2_countNeverEmpty 3 (some .int) 5 0 [(0, .ref (eA E (b))), (1, .int (x1))] [] M (PR (some (.int v9)) M9) := by
  unfold fX2_countNeverEmpty at H
  refine Z.aload_n dX2_countNeverEmpty_0 0 rfl ?_
  refine Z.iload_n dX2_countNeverEmpty_1 1 rfl ?_
  refine bindC H (fun v1 hv1 H => ?_)
  refine Z.callV (As := [.int (x1)]) (rest := []) (st' := [.int (v1.1)]) dX2_countNeverEmpty_2 (kX2_findEmpties hb (x1) M hv1) kw538 kw540 ks20 kw6 kw541 hdX2_findEmpties (cS hb) (c2 hb) (hc := rfl) (by decide) (by decide) rfl rfl (Nat.le_of_ble_eq_true rfl) rfl ?_
  refine Z.istore_n (lv' := [(2, .int (v1.1)), (0, .ref (eA E (b))), (1, .int (x1))]) dX2_countNeverEmpty_5 (by decide) rfl ?_
  refine Z.aload_n dX2_countNeverEmpty_6 1 rfl ?_
  refine Z.iload_n dX2_countNeverEmpty_7 2 rfl ?_
  refine Z.iconst (v := 0) dX2_countNeverEmpty_8 (by decide) ?_
  refine bindC H (fun v2 hv2 H => ?_)
  refine Z.callV (As := [.int (x1), .int (0)]) (rest := []) (st' := [.long (v2.1)]) dX2_countNeverEmpty_9 (kX2_groundOf hb (x1) (0) v1.2 hv2) kw546 kw548 ks22 kw6 kw549 hdX2_groundOf (cS hb) (c2 hb) (hc := rfl) (by decide) (by decide) rfl rfl (Nat.le_of_ble_eq_true rfl) rfl ?_
  refine Z.aload_n dX2_countNeverEmpty_12 1 rfl ?_
  refine Z.iload_n dX2_countNeverEmpty_13 0 rfl ?_
  refine bindC H (fun v3 hv3 H => ?_)
  refine Z.callV (As := [.int (v1.1)]) (rest := [.long (v2.1)]) (st' := [.long (v3), .long (v2.1)]) dX2_countNeverEmpty_14 (kX2_emptyInSomeOf hb (v1.1) v2.2 hv3) kw559 kw561 ks25 kw6 kw562 hdX2_emptyInSomeOf (cS hb) (c2 hb) (hc := rfl) (by decide) (by decide) rfl rfl (Nat.le_of_ble_eq_true rfl) rfl ?_
  refine Z.ldc2 (v := (-1)) dX2_countNeverEmpty_17 kw563 ?_
  refine Z.lxor dX2_countNeverEmpty_20 ?_
  refine Z.land dX2_countNeverEmpty_21 ?_
  refine bindC H (fun v4 hv4 H => ?_)
  refine Z.callS (As := [.long (v2.1 &&& (v3 ^^^ ((-1))))]) (rest := []) (st' := [.int (v4)]) dX2_countNeverEmpty_22 (kJ13_bitCount_95d88  (v2.1 &&& (v3 ^^^ ((-1)))) v2.2 hv4) kw568 kw569 kw11 kw570 hdJ13_bitCount_95d88 (by decide) (by decide) rfl rfl (Nat.le_of_ble_eq_true rfl) rfl ?_
  exact Z.iret rfl dX2_countNeverEmpty_25 (retW H)
theorem kX2_countNeverEmpty {l : Launch} {E : Env5} {b : Nat} (hb : isSc b) (x1 : Int32) (M : Mem) {v9 : Int32} {M9 : Mem} (H : fX2_countNeverEmpty b x1 M = some (v9, M9)) : Cn l E yX2_countNeverEmpty cX2_countNeverEmpty 3 (some .int) 5 [.ref (eA E (b)), .int (x1)] M (PR (some (.int v9)) M9) := Cn.ofZ rfl (Nat.le_of_ble_eq_true rfl) rfl (tX2_countNeverEmpty_0 hb x1 M H)
theorem hdX2_countNeverEmpty : yX2_countNeverEmpty.cls ≠ "java/lang/invoke/MethodHandle" ∧ yX2_countNeverEmpty.cls ≠ "java/lang/invoke/VarHandle" ∧ (parseMethodDescriptor yX2_countNeverEmpty.desc).map (fun d => d.parameters.length) = some 1 := by decide +kernel

set_option maxRecDepth 100000 in
theorem tX2_waitOf_25 {l : Launch} {E : Env5} {b : Nat} (hb : isSc b) {k25 : Int32 → Int32 → Int32 → Int32 → Int32 → Mem → Option (Int32 × Mem)} (x1 : Int32) (x2 : Int32) (x3 : Int32) (x4 : Int32) (x5 : Int32) (M : Mem) {v9 : Int32} {M9 : Mem} (hk25 : ∀ (x1 : Int32) (x2 : Int32) (x3 : Int32) (x4 : Int32) (x5 : Int32) (M : Mem), k25 x1 x2 x3 x4 x5 M = some (v9, M9) → Z l E RX2 cX2_waitOf 6 (some .int) 4 25 [(0, .ref (eA E (b))), (1, .int (x1)), (2, .int (x2)), (3, .int (x3)), (4, .int (x4)), (5, .int (x5))] [] M (PR (some (.int v9)) M9)) (H : fX2_waitOf_25B k25 b x1 x2 x3 x4 x5 M = some (v9, M9)) : Z l E RX2 cX2_waitOf 6 (some .int) 4 25 [(0, .ref (eA E (b))), (1, .int (x1)), (2, .int (x2)), (3, .int (x3)), (4, .int (x4)), (5, .int (x5))] [] M (PR (some (.int v9)) M9) := by
  unfold fX2_waitOf_25B at H
  refine Z.iload dX2_waitOf_25 5 rfl ?_
  refine Z.bipush (v := 99) dX2_waitOf_27 (by decide) ?_
  refine Z.icmp_gtH dX2_waitOf_29 H (fun br29 H => ?_) (fun br29 H => ?_)
  · refine Z.bipush (v := (-9)) dX2_waitOf_67 (by decide) ?_
    exact Z.iret rfl dX2_waitOf_69 (retW H)
  · refine Z.aload_n dX2_waitOf_32 0 rfl ?_
    refine Z.iload_n dX2_waitOf_33 2 rfl ?_
    refine Z.iload_n dX2_waitOf_34 3 rfl ?_
    refine Z.iload dX2_waitOf_35 4 rfl ?_
    refine Z.aload_n dX2_waitOf_37 0 rfl ?_
    refine Z.iload_n dX2_waitOf_38 1 rfl ?_
    refine Z.iconst (v := 3) dX2_waitOf_39 (by decide) ?_
    refine bindC H (fun v1 hv1 H => ?_)
    refine Z.callV (As := [.int (x1), .int (3)]) (rest := [.int (x4), .int (x3), .int (x2), .ref (eA E (b))]) (st' := [.int (v1), .int (x4), .int (x3), .int (x2), .ref (eA E (b))]) dX2_waitOf_40 (kX2_ofPicture hb (x1) (3) M hv1) kw277 kw278 kw279 kw6 kw280 hdX2_ofPicture (cS hb) (c2 hb) (hc := rfl) (by decide) (by decide) rfl rfl (Nat.le_of_ble_eq_true rfl) rfl ?_
    refine Z.aload_n dX2_waitOf_43 0 rfl ?_
    refine Z.iload_n dX2_waitOf_44 1 rfl ?_
    refine Z.iconst (v := 4) dX2_waitOf_45 (by decide) ?_
    refine bindC H (fun v2 hv2 H => ?_)
    refine Z.callV (As := [.int (x1), .int (4)]) (rest := [.int (v1), .int (x4), .int (x3), .int (x2), .ref (eA E (b))]) (st' := [.int (v2), .int (v1), .int (x4), .int (x3), .int (x2), .ref (eA E (b))]) dX2_waitOf_46 (kX2_ofPicture hb (x1) (4) M hv2) kw277 kw278 kw279 kw6 kw280 hdX2_ofPicture (cS hb) (c2 hb) (hc := rfl) (by decide) (by decide) rfl rfl (Nat.le_of_ble_eq_true rfl) rfl ?_
    refine Z.iload dX2_waitOf_49 5 rfl ?_
    refine Z.iadd dX2_waitOf_51 ?_
    refine bindC H (fun v3 hv3 H => ?_)
    refine Z.callV (As := [.int (x2), .int (x3), .int (x4), .int (v1), .int (v2 + x5)]) (rest := []) (st' := [.int (v3.1)]) dX2_waitOf_52 (kX2_shownFrom hb (x2) (x3) (x4) (v1) (v2 + x5) M hv3) kw282 kw283 kw284 kw6 kw285 hdX2_shownFrom (cS hb) (c2 hb) (hc := rfl) (by decide) (by decide) rfl rfl (Nat.le_of_ble_eq_true rfl) rfl ?_
    refine Z.if_neH dX2_waitOf_55 H (fun br55 H => ?_) (fun br55 H => ?_)
    · refine Z.iinc (v := x5 + 1) (lv' := [(5, .int (x5 + 1)), (0, .ref (eA E (b))), (1, .int (x1)), (2, .int (x2)), (3, .int (x3)), (4, .int (x4))]) dX2_waitOf_61 5 rfl rfl (by decide) rfl ?_
      refine Z.goto dX2_waitOf_64 ?_
      refine Z.sub [1, 2, 3, 4, 5, 0] rfl ?_
      exact hk25 (x1) (x2) (x3) (x4) (x5 + 1) v3.2  H
    · refine Z.iload dX2_waitOf_58 5 rfl ?_
      exact Z.iret rfl dX2_waitOf_60 (retW H)
theorem tX2_waitOf_25L {l : Launch} {E : Env5} {b : Nat} (hb : isSc b)   {v9 : Int32} {M9 : Mem}  : ∀ (n : Nat) (x1 : Int32) (x2 : Int32) (x3 : Int32) (x4 : Int32) (x5 : Int32) (M : Mem), fX2_waitOf_25L  b n x1 x2 x3 x4 x5 M = some (v9, M9) → Z l E RX2 cX2_waitOf 6 (some .int) 4 25 [(0, .ref (eA E (b))), (1, .int (x1)), (2, .int (x2)), (3, .int (x3)), (4, .int (x4)), (5, .int (x5))] [] M (PR (some (.int v9)) M9) := by
  intro n
  induction n with
  | zero => intro x1 x2 x3 x4 x5 M H; exact absurd H (by simp [fX2_waitOf_25L])
  | succ n ih => intro x1 x2 x3 x4 x5 M H; exact tX2_waitOf_25 hb x1 x2 x3 x4 x5 M  (fun x1 x2 x3 x4 x5 M H => ih x1 x2 x3 x4 x5 M H) H
set_option maxRecDepth 100000 in
theorem tX2_waitOf_0 {l : Launch} {E : Env5} {b : Nat} (hb : isSc b)  (x1 : Int32) (M : Mem) {v9 : Int32} {M9 : Mem}  (H : fX2_waitOf  b x1 M = some (v9, M9)) : Z l E RX2 cX2_waitOf 6 (some .int) 4 0 [(0, .ref (eA E (b))), (1, .int (x1))] [] M (PR (some (.int v9)) M9) := by
  unfold fX2_waitOf at H
  refine Z.aload_n dX2_waitOf_0 0 rfl ?_
  refine Z.iload_n dX2_waitOf_1 1 rfl ?_
  refine Z.iconst (v := 0) dX2_waitOf_2 (by decide) ?_
  refine bindC H (fun v1 hv1 H => ?_)
  refine Z.callV (As := [.int (x1), .int (0)]) (rest := []) (st' := [.int (v1)]) dX2_waitOf_3 (kX2_ofPicture hb (x1) (0) M hv1) kw277 kw278 kw279 kw6 kw280 hdX2_ofPicture (cS hb) (c2 hb) (hc := rfl) (by decide) (by decide) rfl rfl (Nat.le_of_ble_eq_true rfl) rfl ?_
  refine Z.istore_n (lv' := [(2, .int (v1)), (0, .ref (eA E (b))), (1, .int (x1))]) dX2_waitOf_6 (by decide) rfl ?_
  refine Z.aload_n dX2_waitOf_7 1 rfl ?_
  refine Z.iload_n dX2_waitOf_8 2 rfl ?_
  refine Z.iconst (v := 1) dX2_waitOf_9 (by decide) ?_
  refine bindC H (fun v2 hv2 H => ?_)
  refine Z.callV (As := [.int (x1), .int (1)]) (rest := []) (st' := [.int (v2)]) dX2_waitOf_10 (kX2_ofPicture hb (x1) (1) M hv2) kw277 kw278 kw279 kw6 kw280 hdX2_ofPicture (cS hb) (c2 hb) (hc := rfl) (by decide) (by decide) rfl rfl (Nat.le_of_ble_eq_true rfl) rfl ?_
  refine Z.istore_n (lv' := [(3, .int (v2)), (2, .int (v1)), (0, .ref (eA E (b))), (1, .int (x1))]) dX2_waitOf_13 (by decide) rfl ?_
  refine Z.aload_n dX2_waitOf_14 2 rfl ?_
  refine Z.iload_n dX2_waitOf_15 3 rfl ?_
  refine Z.iconst (v := 2) dX2_waitOf_16 (by decide) ?_
  refine bindC H (fun v3 hv3 H => ?_)
  refine Z.callV (As := [.int (x1), .int (2)]) (rest := []) (st' := [.int (v3)]) dX2_waitOf_17 (kX2_ofPicture hb (x1) (2) M hv3) kw277 kw278 kw279 kw6 kw280 hdX2_ofPicture (cS hb) (c2 hb) (hc := rfl) (by decide) (by decide) rfl rfl (Nat.le_of_ble_eq_true rfl) rfl ?_
  refine Z.istore (lv' := [(4, .int (v3)), (3, .int (v2)), (2, .int (v1)), (0, .ref (eA E (b))), (1, .int (x1))]) dX2_waitOf_20 (by decide) rfl ?_
  refine Z.iconst (v := 0) dX2_waitOf_22 (by decide) ?_
  refine Z.istore (lv' := [(5, .int (0)), (4, .int (v3)), (3, .int (v2)), (2, .int (v1)), (0, .ref (eA E (b))), (1, .int (x1))]) dX2_waitOf_23 (by decide) rfl ?_
  refine Z.sub [4, 5, 3, 2, 1, 0] rfl ?_
  exact tX2_waitOf_25L hb  FU (x1) (v1) (v2) (v3) (0) M H
theorem kX2_waitOf {l : Launch} {E : Env5} {b : Nat} (hb : isSc b) (x1 : Int32) (M : Mem) {v9 : Int32} {M9 : Mem} (H : fX2_waitOf b x1 M = some (v9, M9)) : Cn l E yX2_waitOf cX2_waitOf 6 (some .int) 4 [.ref (eA E (b)), .int (x1)] M (PR (some (.int v9)) M9) := Cn.ofZ rfl (Nat.le_of_ble_eq_true rfl) rfl (tX2_waitOf_0 hb x1 M H)
theorem hdX2_waitOf : yX2_waitOf.cls ≠ "java/lang/invoke/MethodHandle" ∧ yX2_waitOf.cls ≠ "java/lang/invoke/VarHandle" ∧ (parseMethodDescriptor yX2_waitOf.desc).map (fun d => d.parameters.length) = some 1 := by decide +kernel

set_option maxRecDepth 100000 in
theorem tX4_countShowing_24 {l : Launch} {E : Env5} {a0 : Nat} {n0 : Nat} (ha0 : iA a0 n0) {k5 : Int32 → Int32 → Int32 → Int32 → Option Int32} (x1 : Int32) (x2 : Int32) (x3 : Int32) (x4 : Int32) (M : Mem) {v9 : Int32} (hk5 : ∀ (x1 : Int32) (x2 : Int32) (x3 : Int32) (x4 : Int32), k5 x1 x2 x3 x4 = some v9 → Z l E RX4 cX4_countShowing 5 (some .int) 0 5 [(0, .ref (eA E (a0))), (1, .int (x1)), (2, .int (x2)), (3, .int (x3)), (4, .int (x4))] [] M (PR (some (.int v9)) M)) (H : fX4_countShowing_24 k5 a0 n0 x1 x2 x3 x4 M = some v9) : Z l E RX4 cX4_countShowing 5 (some .int) 0 24 [(0, .ref (eA E (a0))), (1, .int (x1)), (2, .int (x2)), (3, .int (x3)), (4, .int (x4))] [] M (PR (some (.int v9)) M) := by
  unfold fX4_countShowing_24 at H
  refine Z.iinc (v := x4 + 1) (lv' := [(4, .int (x4 + 1)), (0, .ref (eA E (a0))), (1, .int (x1)), (2, .int (x2)), (3, .int (x3))]) dX4_countShowing_24 4 rfl rfl (by decide) rfl ?_
  refine Z.goto dX4_countShowing_27 ?_
  refine Z.sub [1, 2, 3, 4, 0] rfl ?_
  exact hk5 (x1) (x2) (x3) (x4 + 1) H
set_option maxRecDepth 100000 in
theorem tX4_countShowing_5 {l : Launch} {E : Env5} {a0 : Nat} {n0 : Nat} (ha0 : iA a0 n0) {k5 : Int32 → Int32 → Int32 → Int32 → Option Int32} (x1 : Int32) (x2 : Int32) (x3 : Int32) (x4 : Int32) (M : Mem) {v9 : Int32} (hk5 : ∀ (x1 : Int32) (x2 : Int32) (x3 : Int32) (x4 : Int32), k5 x1 x2 x3 x4 = some v9 → Z l E RX4 cX4_countShowing 5 (some .int) 0 5 [(0, .ref (eA E (a0))), (1, .int (x1)), (2, .int (x2)), (3, .int (x3)), (4, .int (x4))] [] M (PR (some (.int v9)) M)) (H : fX4_countShowing_5B k5 a0 n0 x1 x2 x3 x4 M = some v9) : Z l E RX4 cX4_countShowing 5 (some .int) 0 5 [(0, .ref (eA E (a0))), (1, .int (x1)), (2, .int (x2)), (3, .int (x3)), (4, .int (x4))] [] M (PR (some (.int v9)) M) := by
  unfold fX4_countShowing_5B at H
  refine Z.iload dX4_countShowing_5 4 rfl ?_
  refine Z.iload_n dX4_countShowing_7 1 rfl ?_
  refine Z.icmp_geH dX4_countShowing_8 H (fun br8 H => ?_) (fun br8 H => ?_)
  · refine Z.iload_n dX4_countShowing_30 3 rfl ?_
    exact Z.iret rfl dX4_countShowing_31 (retR H)
  · refine Z.aload_n dX4_countShowing_11 0 rfl ?_
    refine Z.iload dX4_countShowing_12 4 rfl ?_
    refine Z.ialdH dX4_countShowing_14 ha0 H (fun v1 H => ?_)
    refine Z.iload_n dX4_countShowing_15 2 rfl ?_
    refine Z.iand dX4_countShowing_16 ?_
    refine Z.iload_n dX4_countShowing_17 2 rfl ?_
    refine Z.icmp_neH dX4_countShowing_18 H (fun br18 H => ?_) (fun br18 H => ?_)
    · refine Z.sub [0, 1, 2, 3, 4] rfl ?_
      exact tX4_countShowing_24 ha0 (x1) (x2) (x3) (x4) M hk5 H
    · refine Z.iinc (v := x3 + 1) (lv' := [(3, .int (x3 + 1)), (0, .ref (eA E (a0))), (1, .int (x1)), (2, .int (x2)), (4, .int (x4))]) dX4_countShowing_21 3 rfl rfl (by decide) rfl ?_
      refine Z.sub [1, 2, 3, 0, 4] rfl ?_
      exact tX4_countShowing_24 ha0 (x1) (x2) (x3 + 1) (x4) M hk5 H
theorem tX4_countShowing_5L {l : Launch} {E : Env5} {a0 : Nat} {n0 : Nat} (ha0 : iA a0 n0)  (M : Mem) {v9 : Int32}  : ∀ (n : Nat) (x1 : Int32) (x2 : Int32) (x3 : Int32) (x4 : Int32), fX4_countShowing_5L  a0 n0 M n x1 x2 x3 x4 = some v9 → Z l E RX4 cX4_countShowing 5 (some .int) 0 5 [(0, .ref (eA E (a0))), (1, .int (x1)), (2, .int (x2)), (3, .int (x3)), (4, .int (x4))] [] M (PR (some (.int v9)) M) := by
  intro n
  induction n with
  | zero => intro x1 x2 x3 x4 H; exact absurd H (by simp [fX4_countShowing_5L])
  | succ n ih => intro x1 x2 x3 x4 H; exact tX4_countShowing_5 ha0 x1 x2 x3 x4 M  (fun x1 x2 x3 x4 H => ih x1 x2 x3 x4 H) H
set_option maxRecDepth 100000 in
theorem tX4_countShowing_0 {l : Launch} {E : Env5} {a0 : Nat} {n0 : Nat} (ha0 : iA a0 n0)  (x1 : Int32) (x2 : Int32) (M : Mem) {v9 : Int32}  (H : fX4_countShowing  a0 n0 x1 x2 M = some v9) : Z l E RX4 cX4_countShowing 5 (some .int) 0 0 [(0, .ref (eA E (a0))), (1, .int (x1)), (2, .int (x2))] [] M (PR (some (.int v9)) M) := by
  unfold fX4_countShowing at H
  refine Z.iconst (v := 0) dX4_countShowing_0 (by decide) ?_
  refine Z.istore_n (lv' := [(3, .int (0)), (0, .ref (eA E (a0))), (1, .int (x1)), (2, .int (x2))]) dX4_countShowing_1 (by decide) rfl ?_
  refine Z.iconst (v := 0) dX4_countShowing_2 (by decide) ?_
  refine Z.istore (lv' := [(4, .int (0)), (3, .int (0)), (0, .ref (eA E (a0))), (1, .int (x1)), (2, .int (x2))]) dX4_countShowing_3 (by decide) rfl ?_
  refine Z.sub [2, 3, 4, 1, 0] rfl ?_
  exact tX4_countShowing_5L ha0 M  FU (x1) (x2) (0) (0) H
theorem kX4_countShowing {l : Launch} {E : Env5} {a0 : Nat} {n0 : Nat} (ha0 : iA a0 n0) (x1 : Int32) (x2 : Int32) (M : Mem) {v9 : Int32} (H : fX4_countShowing a0 n0 x1 x2 M = some v9) : Cn l E yX4_countShowing cX4_countShowing 5 (some .int) 0 [.ref (eA E (a0)), .int (x1), .int (x2)] M (PR (some (.int v9)) M) := Cn.ofZ rfl (Nat.le_of_ble_eq_true rfl) rfl (tX4_countShowing_0 ha0 x1 x2 M H)
theorem hdX4_countShowing : yX4_countShowing.cls ≠ "java/lang/invoke/MethodHandle" ∧ yX4_countShowing.cls ≠ "java/lang/invoke/VarHandle" ∧ (parseMethodDescriptor yX4_countShowing.desc).map (fun d => d.parameters.length) = some 3 := by decide +kernel

set_option maxRecDepth 100000 in
theorem tX2_mostOftenWith_56 {l : Launch} {E : Env5} {b : Nat} (hb : isSc b) {k8 : Int32 → Int32 → Int32 → Int32 → Option Int32} (x1 : Int32) (x2 : Int32) (x3 : Int32) (x4 : Int32) (M : Mem) {v9 : Int32} (hk8 : ∀ (x1 : Int32) (x2 : Int32) (x3 : Int32) (x4 : Int32), k8 x1 x2 x3 x4 = some v9 → Z l E RX2 cX2_mostOftenWith 6 (some .int) 1 8 [(0, .ref (eA E (b))), (1, .int (x1)), (2, .int (x2)), (3, .int (x3)), (4, .int (x4))] [] M (PR (some (.int v9)) M)) (H : fX2_mostOftenWith_56 k8 b x1 x2 x3 x4 M = some v9) : Z l E RX2 cX2_mostOftenWith 6 (some .int) 1 56 [(0, .ref (eA E (b))), (1, .int (x1)), (2, .int (x2)), (3, .int (x3)), (4, .int (x4))] [] M (PR (some (.int v9)) M) := by
  unfold fX2_mostOftenWith_56 at H
  refine Z.iinc (v := x4 + 1) (lv' := [(4, .int (x4 + 1)), (0, .ref (eA E (b))), (1, .int (x1)), (2, .int (x2)), (3, .int (x3))]) dX2_mostOftenWith_56 4 rfl rfl (by decide) rfl ?_
  refine Z.goto dX2_mostOftenWith_59 ?_
  refine Z.sub [1, 2, 3, 4, 0] rfl ?_
  exact hk8 (x1) (x2) (x3) (x4 + 1) H
set_option maxRecDepth 100000 in
theorem tX2_mostOftenWith_8 {l : Launch} {E : Env5} {b : Nat} (hb : isSc b) {k8 : Int32 → Int32 → Int32 → Int32 → Option Int32} (x1 : Int32) (x2 : Int32) (x3 : Int32) (x4 : Int32) (M : Mem) {v9 : Int32} (hk8 : ∀ (x1 : Int32) (x2 : Int32) (x3 : Int32) (x4 : Int32), k8 x1 x2 x3 x4 = some v9 → Z l E RX2 cX2_mostOftenWith 6 (some .int) 1 8 [(0, .ref (eA E (b))), (1, .int (x1)), (2, .int (x2)), (3, .int (x3)), (4, .int (x4))] [] M (PR (some (.int v9)) M)) (H : fX2_mostOftenWith_8B k8 b x1 x2 x3 x4 M = some v9) : Z l E RX2 cX2_mostOftenWith 6 (some .int) 1 8 [(0, .ref (eA E (b))), (1, .int (x1)), (2, .int (x2)), (3, .int (x3)), (4, .int (x4))] [] M (PR (some (.int v9)) M) := by
  unfold fX2_mostOftenWith_8B at H
  refine Z.iload dX2_mostOftenWith_8 4 rfl ?_
  refine Z.aload_n dX2_mostOftenWith_10 0 rfl ?_
  refine Z.get dX2_mostOftenWith_11 inX2 (hc := rfl) (cS hb) (c2 hb) 6 (by decide) kw126 rfl rfl ?_
  refine Z.icmp_geH dX2_mostOftenWith_14 H (fun br14 H => ?_) (fun br14 H => ?_)
  · refine Z.iload_n dX2_mostOftenWith_62 3 rfl ?_
    exact Z.iret rfl dX2_mostOftenWith_63 (retR H)
  · refine Z.aload_n dX2_mostOftenWith_17 0 rfl ?_
    refine Z.get dX2_mostOftenWith_18 inX2 (hc := rfl) (cS hb) (c2 hb) 11 (by decide) kw133 rfl rfl ?_
    refine Z.aload_n dX2_mostOftenWith_21 0 rfl ?_
    refine Z.get dX2_mostOftenWith_22 inX2 (hc := rfl) (cS hb) (c2 hb) 7 (by decide) kw128 rfl rfl ?_
    refine Z.iconst (v := 1) dX2_mostOftenWith_25 (by decide) ?_
    refine Z.iload_n dX2_mostOftenWith_26 1 rfl ?_
    refine Z.ishl dX2_mostOftenWith_27 ?_
    refine Z.iconst (v := 1) dX2_mostOftenWith_28 (by decide) ?_
    refine Z.iload dX2_mostOftenWith_29 4 rfl ?_
    refine Z.ishl dX2_mostOftenWith_31 ?_
    refine Z.ior dX2_mostOftenWith_32 ?_
    refine bindC H (fun v1 hv1 H => ?_)
    refine Z.callSN (As := [.ref (eA E (b + 6)), .int (M.1 b 7), .int ((1 <<< (x1 &&& 31)) ||| (1 <<< (x4 &&& 31)))]) (rest := []) (st' := [.int (v1)]) dX2_mostOftenWith_33 (kX4_countShowing (a2_shown hb) (M.1 b 7) ((1 <<< (x1 &&& 31)) ||| (1 <<< (x4 &&& 31))) M hv1) kn597 kw591 kw1 kw592 hdX4_countShowing (by decide) (by decide) rfl rfl (Nat.le_of_ble_eq_true rfl) rfl ?_
    refine Z.istore (lv' := [(5, .int (v1)), (0, .ref (eA E (b))), (1, .int (x1)), (2, .int (x2)), (3, .int (x3)), (4, .int (x4))]) dX2_mostOftenWith_36 (by decide) rfl ?_
    refine Z.iload dX2_mostOftenWith_38 5 rfl ?_
    refine Z.iload_n dX2_mostOftenWith_40 2 rfl ?_
    refine Z.icmp_eqH dX2_mostOftenWith_41 H (fun br41 H => ?_) (fun br41 H => ?_)
    · refine Z.sub [1, 2, 3, 4, 5] rfl ?_
      exact tX2_mostOftenWith_56 hb (x1) (x2) (x3) (x4) M hk8 H
    · refine Z.iload dX2_mostOftenWith_44 0 rfl ?_
      refine Z.iload_n dX2_mostOftenWith_46 3 rfl ?_
      refine Z.icmp_leH dX2_mostOftenWith_47 H (fun br47 H => ?_) (fun br47 H => ?_)
      · refine Z.sub [1, 2, 3, 4, 5] rfl ?_
        exact tX2_mostOftenWith_56 hb (x1) (x2) (x3) (x4) M hk8 H
      · refine Z.iload dX2_mostOftenWith_50 0 rfl ?_
        refine Z.istore_n (lv' := [(2, .int (v1)), (5, .int (v1)), (0, .ref (eA E (b))), (1, .int (x1)), (3, .int (x3)), (4, .int (x4))]) dX2_mostOftenWith_52 (by decide) rfl ?_
        refine Z.iload dX2_mostOftenWith_53 5 rfl ?_
        refine Z.istore_n (lv' := [(3, .int (x4)), (2, .int (v1)), (5, .int (v1)), (0, .ref (eA E (b))), (1, .int (x1)), (4, .int (x4))]) dX2_mostOftenWith_55 (by decide) rfl ?_
        refine Z.sub [3, 4, 1, 0, 5] rfl ?_
        exact tX2_mostOftenWith_56 hb (x1) (v1) (x4) (x4) M hk8 H
theorem tX2_mostOftenWith_8L {l : Launch} {E : Env5} {b : Nat} (hb : isSc b)  (M : Mem) {v9 : Int32}  : ∀ (n : Nat) (x1 : Int32) (x2 : Int32) (x3 : Int32) (x4 : Int32), fX2_mostOftenWith_8L  b M n x1 x2 x3 x4 = some v9 → Z l E RX2 cX2_mostOftenWith 6 (some .int) 1 8 [(0, .ref (eA E (b))), (1, .int (x1)), (2, .int (x2)), (3, .int (x3)), (4, .int (x4))] [] M (PR (some (.int v9)) M) := by
  intro n
  induction n with
  | zero => intro x1 x2 x3 x4 H; exact absurd H (by simp [fX2_mostOftenWith_8L])
  | succ n ih => intro x1 x2 x3 x4 H; exact tX2_mostOftenWith_8 hb x1 x2 x3 x4 M  (fun x1 x2 x3 x4 H => ih x1 x2 x3 x4 H) H
set_option maxRecDepth 100000 in
theorem tX2_mostOftenWith_0 {l : Launch} {E : Env5} {b : Nat} (hb : isSc b)  (x1 : Int32) (M : Mem) {v9 : Int32}  (H : fX2_mostOftenWith  b x1 M = some v9) : Z l E RX2 cX2_mostOftenWith 6 (some .int) 1 0 [(0, .ref (eA E (b))), (1, .int (x1))] [] M (PR (some (.int v9)) M) := by
  unfold fX2_mostOftenWith at H
  refine Z.iconst (v := 0) dX2_mostOftenWith_0 (by decide) ?_
  refine Z.istore_n (lv' := [(2, .int (0)), (0, .ref (eA E (b))), (1, .int (x1))]) dX2_mostOftenWith_1 (by decide) rfl ?_
  refine Z.bipush (v := (-9)) dX2_mostOftenWith_2 (by decide) ?_
  refine Z.istore_n (lv' := [(3, .int ((-9))), (2, .int (0)), (0, .ref (eA E (b))), (1, .int (x1))]) dX2_mostOftenWith_4 (by decide) rfl ?_
  refine Z.iconst (v := 0) dX2_mostOftenWith_5 (by decide) ?_
  refine Z.istore (lv' := [(4, .int (0)), (3, .int ((-9))), (2, .int (0)), (0, .ref (eA E (b))), (1, .int (x1))]) dX2_mostOftenWith_6 (by decide) rfl ?_
  refine Z.sub [3, 4, 2, 1, 0] rfl ?_
  exact tX2_mostOftenWith_8L hb M  FU (x1) (0) ((-9)) (0) H
theorem kX2_mostOftenWith {l : Launch} {E : Env5} {b : Nat} (hb : isSc b) (x1 : Int32) (M : Mem) {v9 : Int32} (H : fX2_mostOftenWith b x1 M = some v9) : Cn l E yX2_mostOftenWith cX2_mostOftenWith 6 (some .int) 1 [.ref (eA E (b)), .int (x1)] M (PR (some (.int v9)) M) := Cn.ofZ rfl (Nat.le_of_ble_eq_true rfl) rfl (tX2_mostOftenWith_0 hb x1 M H)
theorem hdX2_mostOftenWith : yX2_mostOftenWith.cls ≠ "java/lang/invoke/MethodHandle" ∧ yX2_mostOftenWith.cls ≠ "java/lang/invoke/VarHandle" ∧ (parseMethodDescriptor yX2_mostOftenWith.desc).map (fun d => d.parameters.length) = some 1 := by decide +kernel

set_option maxRecDepth 100000 in
theorem tX2_firstSecondOf_49 {l : Launch} {E : Env5} {b : Nat} (hb : isSc b) {k5 : Int32 → Int32 → Int32 → Option Int32} (x1 : Int32) (x2 : Int32) (x3 : Int32) (M : Mem) {v9 : Int32} (hk5 : ∀ (x1 : Int32) (x2 : Int32) (x3 : Int32), k5 x1 x2 x3 = some v9 → Z l E RX2 cX2_firstSecondOf 5 (some .int) 1 5 [(0, .ref (eA E (b))), (1, .int (x1)), (2, .int (x2)), (3, .int (x3))] [] M (PR (some (.int v9)) M)) (H : fX2_firstSecondOf_49 k5 b x1 x2 x3 M = some v9) : Z l E RX2 cX2_firstSecondOf 5 (some .int) 1 49 [(0, .ref (eA E (b))), (1, .int (x1)), (2, .int (x2)), (3, .int (x3))] [] M (PR (some (.int v9)) M) := by
  unfold fX2_firstSecondOf_49 at H
  refine Z.iinc (v := x3 + 1) (lv' := [(3, .int (x3 + 1)), (0, .ref (eA E (b))), (1, .int (x1)), (2, .int (x2))]) dX2_firstSecondOf_49 3 rfl rfl (by decide) rfl ?_
  refine Z.goto dX2_firstSecondOf_52 ?_
  refine Z.sub [1, 2, 3, 0] rfl ?_
  exact hk5 (x1) (x2) (x3 + 1) H
set_option maxRecDepth 100000 in
theorem tX2_firstSecondOf_46 {l : Launch} {E : Env5} {b : Nat} (hb : isSc b) {k5 : Int32 → Int32 → Int32 → Option Int32} (x1 : Int32) (x3 : Int32) (x4 : Int32) (M : Mem) {v9 : Int32} (hk5 : ∀ (x1 : Int32) (x2 : Int32) (x3 : Int32), k5 x1 x2 x3 = some v9 → Z l E RX2 cX2_firstSecondOf 5 (some .int) 1 5 [(0, .ref (eA E (b))), (1, .int (x1)), (2, .int (x2)), (3, .int (x3))] [] M (PR (some (.int v9)) M)) (H : fX2_firstSecondOf_46 k5 b x1 x3 x4 M = some v9) : Z l E RX2 cX2_firstSecondOf 5 (some .int) 1 46 [(0, .ref (eA E (b))), (1, .int (x1)), (3, .int (x3)), (4, .int (x4))] [] M (PR (some (.int v9)) M) := by
  unfold fX2_firstSecondOf_46 at H
  refine Z.iload dX2_firstSecondOf_46 3 rfl ?_
  refine Z.istore_n (lv' := [(2, .int (x4)), (0, .ref (eA E (b))), (1, .int (x1)), (3, .int (x3)), (4, .int (x4))]) dX2_firstSecondOf_48 (by decide) rfl ?_
  refine Z.sub [1, 2, 0, 3] rfl ?_
  exact tX2_firstSecondOf_49 hb (x1) (x4) (x3) M hk5 H
set_option maxRecDepth 100000 in
theorem tX2_firstSecondOf_5 {l : Launch} {E : Env5} {b : Nat} (hb : isSc b) {k5 : Int32 → Int32 → Int32 → Option Int32} (x1 : Int32) (x2 : Int32) (x3 : Int32) (M : Mem) {v9 : Int32} (hk5 : ∀ (x1 : Int32) (x2 : Int32) (x3 : Int32), k5 x1 x2 x3 = some v9 → Z l E RX2 cX2_firstSecondOf 5 (some .int) 1 5 [(0, .ref (eA E (b))), (1, .int (x1)), (2, .int (x2)), (3, .int (x3))] [] M (PR (some (.int v9)) M)) (H : fX2_firstSecondOf_5B k5 b x1 x2 x3 M = some v9) : Z l E RX2 cX2_firstSecondOf 5 (some .int) 1 5 [(0, .ref (eA E (b))), (1, .int (x1)), (2, .int (x2)), (3, .int (x3))] [] M (PR (some (.int v9)) M) := by
  unfold fX2_firstSecondOf_5B at H
  refine Z.iload_n dX2_firstSecondOf_5 3 rfl ?_
  refine Z.aload_n dX2_firstSecondOf_6 0 rfl ?_
  refine Z.get dX2_firstSecondOf_7 inX2 (hc := rfl) (cS hb) (c2 hb) 7 (by decide) kw128 rfl rfl ?_
  refine Z.icmp_geH dX2_firstSecondOf_10 H (fun br10 H => ?_) (fun br10 H => ?_)
  · refine Z.iload_n dX2_firstSecondOf_55 2 rfl ?_
    exact Z.iret rfl dX2_firstSecondOf_56 (retR H)
  · refine Z.aload_n dX2_firstSecondOf_13 0 rfl ?_
    refine Z.iload_n dX2_firstSecondOf_14 3 rfl ?_
    refine Z.iconst (v := 4) dX2_firstSecondOf_15 (by decide) ?_
    refine bindC H (fun v1 hv1 H => ?_)
    refine Z.callV (As := [.int (x3), .int (4)]) (rest := []) (st' := [.int (v1)]) dX2_firstSecondOf_16 (kX2_ofPicture hb (x3) (4) M hv1) kw277 kw278 kw279 kw6 kw280 hdX2_ofPicture (cS hb) (c2 hb) (hc := rfl) (by decide) (by decide) rfl rfl (Nat.le_of_ble_eq_true rfl) rfl ?_
    refine Z.istore (lv' := [(4, .int (v1)), (0, .ref (eA E (b))), (1, .int (x1)), (2, .int (x2)), (3, .int (x3))]) dX2_firstSecondOf_19 (by decide) rfl ?_
    refine Z.aload_n dX2_firstSecondOf_21 1 rfl ?_
    refine Z.get dX2_firstSecondOf_22 inX2 (hc := rfl) (cS hb) (c2 hb) 11 (by decide) kw133 rfl rfl ?_
    refine Z.iload_n dX2_firstSecondOf_25 4 rfl ?_
    refine Z.ialdH dX2_firstSecondOf_26 (a2_shown hb) H (fun v2 H => ?_)
    refine Z.iload_n dX2_firstSecondOf_27 2 rfl ?_
    refine Z.ishr dX2_firstSecondOf_28 ?_
    refine Z.iconst (v := 1) dX2_firstSecondOf_29 (by decide) ?_
    refine Z.iand dX2_firstSecondOf_30 ?_
    refine Z.if_eqH dX2_firstSecondOf_31 H (fun br31 H => ?_) (fun br31 H => ?_)
    · refine Z.sub [1, 2, 3, 4] rfl ?_
      exact tX2_firstSecondOf_49 hb (x1) (x2) (x3) M hk5 H
    · refine Z.iload_n dX2_firstSecondOf_34 3 rfl ?_
      refine Z.bipush (v := (-9)) dX2_firstSecondOf_35 (by decide) ?_
      refine Z.icmp_eqH dX2_firstSecondOf_37 H (fun br37 H => ?_) (fun br37 H => ?_)
      · refine Z.sub [1, 2, 4, 0] rfl ?_
        exact tX2_firstSecondOf_46 hb (x1) (x3) (v1) M hk5 H
      · refine Z.iload dX2_firstSecondOf_40 0 rfl ?_
        refine Z.iload_n dX2_firstSecondOf_42 3 rfl ?_
        refine Z.icmp_geH dX2_firstSecondOf_43 H (fun br43 H => ?_) (fun br43 H => ?_)
        · refine Z.sub [1, 2, 3, 4] rfl ?_
          exact tX2_firstSecondOf_49 hb (x1) (x2) (x3) M hk5 H
        · refine Z.sub [1, 2, 4, 0] rfl ?_
          exact tX2_firstSecondOf_46 hb (x1) (x3) (v1) M hk5 H
theorem tX2_firstSecondOf_5L {l : Launch} {E : Env5} {b : Nat} (hb : isSc b)  (M : Mem) {v9 : Int32}  : ∀ (n : Nat) (x1 : Int32) (x2 : Int32) (x3 : Int32), fX2_firstSecondOf_5L  b M n x1 x2 x3 = some v9 → Z l E RX2 cX2_firstSecondOf 5 (some .int) 1 5 [(0, .ref (eA E (b))), (1, .int (x1)), (2, .int (x2)), (3, .int (x3))] [] M (PR (some (.int v9)) M) := by
  intro n
  induction n with
  | zero => intro x1 x2 x3 H; exact absurd H (by simp [fX2_firstSecondOf_5L])
  | succ n ih => intro x1 x2 x3 H; exact tX2_firstSecondOf_5 hb x1 x2 x3 M  (fun x1 x2 x3 H => ih x1 x2 x3 H) H
set_option maxRecDepth 100000 in
theorem tX2_firstSecondOf_0 {l : Launch} {E : Env5} {b : Nat} (hb : isSc b)  (x1 : Int32) (M : Mem) {v9 : Int32}  (H : fX2_firstSecondOf  b x1 M = some v9) : Z l E RX2 cX2_firstSecondOf 5 (some .int) 1 0 [(0, .ref (eA E (b))), (1, .int (x1))] [] M (PR (some (.int v9)) M) := by
  unfold fX2_firstSecondOf at H
  refine Z.bipush (v := (-9)) dX2_firstSecondOf_0 (by decide) ?_
  refine Z.istore_n (lv' := [(2, .int ((-9))), (0, .ref (eA E (b))), (1, .int (x1))]) dX2_firstSecondOf_2 (by decide) rfl ?_
  refine Z.iconst (v := 0) dX2_firstSecondOf_3 (by decide) ?_
  refine Z.istore_n (lv' := [(3, .int (0)), (2, .int ((-9))), (0, .ref (eA E (b))), (1, .int (x1))]) dX2_firstSecondOf_4 (by decide) rfl ?_
  refine Z.sub [2, 3, 1, 0] rfl ?_
  exact tX2_firstSecondOf_5L hb M  FU (x1) ((-9)) (0) H
theorem kX2_firstSecondOf {l : Launch} {E : Env5} {b : Nat} (hb : isSc b) (x1 : Int32) (M : Mem) {v9 : Int32} (H : fX2_firstSecondOf b x1 M = some v9) : Cn l E yX2_firstSecondOf cX2_firstSecondOf 5 (some .int) 1 [.ref (eA E (b)), .int (x1)] M (PR (some (.int v9)) M) := Cn.ofZ rfl (Nat.le_of_ble_eq_true rfl) rfl (tX2_firstSecondOf_0 hb x1 M H)
theorem hdX2_firstSecondOf : yX2_firstSecondOf.cls ≠ "java/lang/invoke/MethodHandle" ∧ yX2_firstSecondOf.cls ≠ "java/lang/invoke/VarHandle" ∧ (parseMethodDescriptor yX2_firstSecondOf.desc).map (fun d => d.parameters.length) = some 1 := by decide +kernel

set_option maxRecDepth 100000 in
theorem tX2_lastSecondOf_37 {l : Launch} {E : Env5} {b : Nat} (hb : isSc b) {k5 : Int32 → Int32 → Int32 → Option Int32} (x1 : Int32) (x2 : Int32) (x3 : Int32) (M : Mem) {v9 : Int32} (hk5 : ∀ (x1 : Int32) (x2 : Int32) (x3 : Int32), k5 x1 x2 x3 = some v9 → Z l E RX2 cX2_lastSecondOf 4 (some .int) 1 5 [(0, .ref (eA E (b))), (1, .int (x1)), (2, .int (x2)), (3, .int (x3))] [] M (PR (some (.int v9)) M)) (H : fX2_lastSecondOf_37 k5 b x1 x2 x3 M = some v9) : Z l E RX2 cX2_lastSecondOf 4 (some .int) 1 37 [(0, .ref (eA E (b))), (1, .int (x1)), (2, .int (x2)), (3, .int (x3))] [] M (PR (some (.int v9)) M) := by
  unfold fX2_lastSecondOf_37 at H
  refine Z.iinc (v := x3 + 1) (lv' := [(3, .int (x3 + 1)), (0, .ref (eA E (b))), (1, .int (x1)), (2, .int (x2))]) dX2_lastSecondOf_37 3 rfl rfl (by decide) rfl ?_
  refine Z.goto dX2_lastSecondOf_40 ?_
  refine Z.sub [1, 2, 3, 0] rfl ?_
  exact hk5 (x1) (x2) (x3 + 1) H
set_option maxRecDepth 100000 in
theorem tX2_lastSecondOf_5 {l : Launch} {E : Env5} {b : Nat} (hb : isSc b) {k5 : Int32 → Int32 → Int32 → Option Int32} (x1 : Int32) (x2 : Int32) (x3 : Int32) (M : Mem) {v9 : Int32} (hk5 : ∀ (x1 : Int32) (x2 : Int32) (x3 : Int32), k5 x1 x2 x3 = some v9 → Z l E RX2 cX2_lastSecondOf 4 (some .int) 1 5 [(0, .ref (eA E (b))), (1, .int (x1)), (2, .int (x2)), (3, .int (x3))] [] M (PR (some (.int v9)) M)) (H : fX2_lastSecondOf_5B k5 b x1 x2 x3 M = some v9) : Z l E RX2 cX2_lastSecondOf 4 (some .int) 1 5 [(0, .ref (eA E (b))), (1, .int (x1)), (2, .int (x2)), (3, .int (x3))] [] M (PR (some (.int v9)) M) := by
  unfold fX2_lastSecondOf_5B at H
  refine Z.iload_n dX2_lastSecondOf_5 3 rfl ?_
  refine Z.aload_n dX2_lastSecondOf_6 0 rfl ?_
  refine Z.get dX2_lastSecondOf_7 inX2 (hc := rfl) (cS hb) (c2 hb) 7 (by decide) kw128 rfl rfl ?_
  refine Z.icmp_geH dX2_lastSecondOf_10 H (fun br10 H => ?_) (fun br10 H => ?_)
  · refine Z.iload_n dX2_lastSecondOf_43 2 rfl ?_
    exact Z.iret rfl dX2_lastSecondOf_44 (retR H)
  · refine Z.aload_n dX2_lastSecondOf_13 0 rfl ?_
    refine Z.get dX2_lastSecondOf_14 inX2 (hc := rfl) (cS hb) (c2 hb) 11 (by decide) kw133 rfl rfl ?_
    refine Z.iload_n dX2_lastSecondOf_17 3 rfl ?_
    refine Z.ialdH dX2_lastSecondOf_18 (a2_shown hb) H (fun v1 H => ?_)
    refine Z.iload_n dX2_lastSecondOf_19 1 rfl ?_
    refine Z.ishr dX2_lastSecondOf_20 ?_
    refine Z.iconst (v := 1) dX2_lastSecondOf_21 (by decide) ?_
    refine Z.iand dX2_lastSecondOf_22 ?_
    refine Z.if_eqH dX2_lastSecondOf_23 H (fun br23 H => ?_) (fun br23 H => ?_)
    · refine Z.sub [0, 1, 2, 3] rfl ?_
      exact tX2_lastSecondOf_37 hb (x1) (x2) (x3) M hk5 H
    · refine Z.iload_n dX2_lastSecondOf_26 2 rfl ?_
      refine Z.aload_n dX2_lastSecondOf_27 0 rfl ?_
      refine Z.iload_n dX2_lastSecondOf_28 3 rfl ?_
      refine Z.iconst (v := 4) dX2_lastSecondOf_29 (by decide) ?_
      refine bindC H (fun v2 hv2 H => ?_)
      refine Z.callV (As := [.int (x3), .int (4)]) (rest := [.int (x2)]) (st' := [.int (v2), .int (x2)]) dX2_lastSecondOf_30 (kX2_ofPicture hb (x3) (4) M hv2) kw277 kw278 kw279 kw6 kw280 hdX2_ofPicture (cS hb) (c2 hb) (hc := rfl) (by decide) (by decide) rfl rfl (Nat.le_of_ble_eq_true rfl) rfl ?_
      refine Z.mmax dX2_lastSecondOf_33 kw528 kw433 kw8 km_max (by decide) (Nat.le_of_ble_eq_true rfl) ?_
      refine Z.istore_n (lv' := [(2, .int (imax x2 v2)), (0, .ref (eA E (b))), (1, .int (x1)), (3, .int (x3))]) dX2_lastSecondOf_36 (by decide) rfl ?_
      refine Z.sub [1, 2, 0, 3] rfl ?_
      exact tX2_lastSecondOf_37 hb (x1) (imax x2 v2) (x3) M hk5 H
theorem tX2_lastSecondOf_5L {l : Launch} {E : Env5} {b : Nat} (hb : isSc b)  (M : Mem) {v9 : Int32}  : ∀ (n : Nat) (x1 : Int32) (x2 : Int32) (x3 : Int32), fX2_lastSecondOf_5L  b M n x1 x2 x3 = some v9 → Z l E RX2 cX2_lastSecondOf 4 (some .int) 1 5 [(0, .ref (eA E (b))), (1, .int (x1)), (2, .int (x2)), (3, .int (x3))] [] M (PR (some (.int v9)) M) := by
  intro n
  induction n with
  | zero => intro x1 x2 x3 H; exact absurd H (by simp [fX2_lastSecondOf_5L])
  | succ n ih => intro x1 x2 x3 H; exact tX2_lastSecondOf_5 hb x1 x2 x3 M  (fun x1 x2 x3 H => ih x1 x2 x3 H) H
set_option maxRecDepth 100000 in
theorem tX2_lastSecondOf_0 {l : Launch} {E : Env5} {b : Nat} (hb : isSc b)  (x1 : Int32) (M : Mem) {v9 : Int32}  (H : fX2_lastSecondOf  b x1 M = some v9) : Z l E RX2 cX2_lastSecondOf 4 (some .int) 1 0 [(0, .ref (eA E (b))), (1, .int (x1))] [] M (PR (some (.int v9)) M) := by
  unfold fX2_lastSecondOf at H
  refine Z.bipush (v := (-9)) dX2_lastSecondOf_0 (by decide) ?_
  refine Z.istore_n (lv' := [(2, .int ((-9))), (0, .ref (eA E (b))), (1, .int (x1))]) dX2_lastSecondOf_2 (by decide) rfl ?_
  refine Z.iconst (v := 0) dX2_lastSecondOf_3 (by decide) ?_
  refine Z.istore_n (lv' := [(3, .int (0)), (2, .int ((-9))), (0, .ref (eA E (b))), (1, .int (x1))]) dX2_lastSecondOf_4 (by decide) rfl ?_
  refine Z.sub [2, 3, 1, 0] rfl ?_
  exact tX2_lastSecondOf_5L hb M  FU (x1) ((-9)) (0) H
theorem kX2_lastSecondOf {l : Launch} {E : Env5} {b : Nat} (hb : isSc b) (x1 : Int32) (M : Mem) {v9 : Int32} (H : fX2_lastSecondOf b x1 M = some v9) : Cn l E yX2_lastSecondOf cX2_lastSecondOf 4 (some .int) 1 [.ref (eA E (b)), .int (x1)] M (PR (some (.int v9)) M) := Cn.ofZ rfl (Nat.le_of_ble_eq_true rfl) rfl (tX2_lastSecondOf_0 hb x1 M H)
theorem hdX2_lastSecondOf : yX2_lastSecondOf.cls ≠ "java/lang/invoke/MethodHandle" ∧ yX2_lastSecondOf.cls ≠ "java/lang/invoke/VarHandle" ∧ (parseMethodDescriptor yX2_lastSecondOf.desc).map (fun d => d.parameters.length) = some 1 := by decide +kernel

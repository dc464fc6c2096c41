set_option maxRecDepth 100000 in
theorem tX5_heldNow_59 {l : Launch} {E : Env5}   {k4 : Int32 → Int32 → Option Int32} (x2 : Int32) (s0 : Int32) (s1 : Int32) (M : Mem) {v9 : Int32} (hk4 : ∀ (x1 : Int32) (x2 : Int32), k4 x1 x2 = some v9 → Z l E RX5 cX5_heldNow 3 (some .int) 0 4 [(0, .ref (eA E (42))), (1, .int (x1)), (2, .int (x2))] [] M (PR (some (.int v9)) M)) (H : fX5_heldNow_59 k4 x2 s0 s1 M = some v9) : Z l E RX5 cX5_heldNow 3 (some .int) 0 59 [(0, .ref (eA E (42))), (2, .int (x2))] [.int (s0), .int (s1)] M (PR (some (.int v9)) M) := by
  unfold fX5_heldNow_59 at H
  refine Z.iadd dX5_heldNow_59 ?_
  refine Z.istore_n (lv' := [(1, .int (s1 + s0)), (0, .ref (eA E (42))), (2, .int (x2))]) dX5_heldNow_60 (by decide) rfl ?_
  refine Z.iinc (v := x2 + 1) (lv' := [(2, .int (x2 + 1)), (1, .int (s1 + s0)), (0, .ref (eA E (42)))]) dX5_heldNow_61 2 rfl rfl (by decide) rfl ?_
  refine Z.goto dX5_heldNow_64 ?_
  refine Z.sub [2, 1, 0] rfl ?_
  exact hk4 (s1 + s0) (x2 + 1) H
set_option maxRecDepth 100000 in
theorem tX5_heldNow_4 {l : Launch} {E : Env5}   {k4 : Int32 → Int32 → Option Int32} (x1 : Int32) (x2 : Int32) (M : Mem) {v9 : Int32} (hk4 : ∀ (x1 : Int32) (x2 : Int32), k4 x1 x2 = some v9 → Z l E RX5 cX5_heldNow 3 (some .int) 0 4 [(0, .ref (eA E (42))), (1, .int (x1)), (2, .int (x2))] [] M (PR (some (.int v9)) M)) (H : fX5_heldNow_4B k4 x1 x2 M = some v9) : Z l E RX5 cX5_heldNow 3 (some .int) 0 4 [(0, .ref (eA E (42))), (1, .int (x1)), (2, .int (x2))] [] M (PR (some (.int v9)) M) := by
  unfold fX5_heldNow_4B at H
  refine Z.iload_n dX5_heldNow_4 2 rfl ?_
  refine Z.aload_n dX5_heldNow_5 0 rfl ?_
  refine Z.get dX5_heldNow_6 inX5 (hc := rfl) (by decide) c5 20 (by decide) kw699 rfl rfl ?_
  refine Z.iconst (v := 0) dX5_heldNow_9 (by decide) ?_
  refine Z.ialdH dX5_heldNow_10 a5_facts H (fun v1 H => ?_)
  refine Z.icmp_geH dX5_heldNow_11 H (fun br11 H => ?_) (fun br11 H => ?_)
  · refine Z.iload_n dX5_heldNow_67 1 rfl ?_
    exact Z.iret rfl dX5_heldNow_68 (retR H)
  · refine Z.iload_n dX5_heldNow_14 1 rfl ?_
    refine Z.aload_n dX5_heldNow_15 0 rfl ?_
    refine Z.get dX5_heldNow_16 inX5 (hc := rfl) (by decide) c5 24 (by decide) kw703 rfl rfl ?_
    refine Z.iload_n dX5_heldNow_19 2 rfl ?_
    refine Z.ialdH dX5_heldNow_20 a5_factV H (fun v2 H => ?_)
    refine Z.aload_n dX5_heldNow_21 0 rfl ?_
    refine Z.get dX5_heldNow_22 inX5 (hc := rfl) (by decide) c5 22 (by decide) kw701 rfl rfl ?_
    refine Z.iload_n dX5_heldNow_25 2 rfl ?_
    refine Z.ialdH dX5_heldNow_26 a5_factU H (fun v3 H => ?_)
    refine Z.isub dX5_heldNow_27 ?_
    refine Z.aload_n dX5_heldNow_28 0 rfl ?_
    refine Z.get dX5_heldNow_29 inX5 (hc := rfl) (by decide) c5 32 (by decide) kw711 rfl rfl ?_
    refine Z.aload_n dX5_heldNow_32 0 rfl ?_
    refine Z.get dX5_heldNow_33 inX5 (hc := rfl) (by decide) c5 23 (by decide) kw702 rfl rfl ?_
    refine Z.iload_n dX5_heldNow_36 2 rfl ?_
    refine Z.ialdH dX5_heldNow_37 a5_factB H (fun v4 H => ?_)
    refine Z.ialdH dX5_heldNow_38 a5_offs H (fun v5 H => ?_)
    refine Z.aload_n dX5_heldNow_39 0 rfl ?_
    refine Z.get dX5_heldNow_40 inX5 (hc := rfl) (by decide) c5 32 (by decide) kw711 rfl rfl ?_
    refine Z.aload_n dX5_heldNow_43 0 rfl ?_
    refine Z.get dX5_heldNow_44 inX5 (hc := rfl) (by decide) c5 21 (by decide) kw700 rfl rfl ?_
    refine Z.iload_n dX5_heldNow_47 2 rfl ?_
    refine Z.ialdH dX5_heldNow_48 a5_factA H (fun v6 H => ?_)
    refine Z.ialdH dX5_heldNow_49 a5_offs H (fun v7 H => ?_)
    refine Z.isub dX5_heldNow_50 ?_
    refine Z.icmp_neH dX5_heldNow_51 H (fun br51 H => ?_) (fun br51 H => ?_)
    · refine Z.iconst (v := 0) dX5_heldNow_58 (by decide) ?_
      refine Z.sub [0, 2] rfl ?_
      exact tX5_heldNow_59  (x2) (0) (x1) M hk4 H
    · refine Z.iconst (v := 1) dX5_heldNow_54 (by decide) ?_
      refine Z.goto dX5_heldNow_55 ?_
      refine Z.sub [0, 2] rfl ?_
      exact tX5_heldNow_59  (x2) (1) (x1) M hk4 H
theorem tX5_heldNow_4L {l : Launch} {E : Env5}    (M : Mem) {v9 : Int32}  : ∀ (n : Nat) (x1 : Int32) (x2 : Int32), fX5_heldNow_4L   M n x1 x2 = some v9 → Z l E RX5 cX5_heldNow 3 (some .int) 0 4 [(0, .ref (eA E (42))), (1, .int (x1)), (2, .int (x2))] [] M (PR (some (.int v9)) M) := by
  intro n
  induction n with
  | zero => intro x1 x2 H; exact absurd H (by simp [fX5_heldNow_4L])
  | succ n ih => intro x1 x2 H; exact tX5_heldNow_4  x1 x2 M  (fun x1 x2 H => ih x1 x2 H) H
set_option maxRecDepth 100000 in
theorem tX5_heldNow_0 {l : Launch} {E : Env5}     (M : Mem) {v9 : Int32}  (H : fX5_heldNow   M = some v9) : Z l E RX5 cX5_heldNow 3 (some .int) 0 0 [(0, .ref (eA E (42)))] [] M (PR (some (.int v9)) M) := by
  unfold fX5_heldNow at H
  refine Z.iconst (v := 0) dX5_heldNow_0 (by decide) ?_
  refine Z.istore_n (lv' := [(1, .int (0)), (0, .ref (eA E (42)))]) dX5_heldNow_1 (by decide) rfl ?_
  refine Z.iconst (v := 0) dX5_heldNow_2 (by decide) ?_
  refine Z.istore_n (lv' := [(2, .int (0)), (1, .int (0)), (0, .ref (eA E (42)))]) dX5_heldNow_3 (by decide) rfl ?_
  refine Z.sub [2, 1, 0] rfl ?_
  exact tX5_heldNow_4L  M  FU (0) (0) H
theorem kX5_heldNow {l : Launch} {E : Env5}    (M : Mem) {v9 : Int32} (H : fX5_heldNow  M = some v9) : Cn l E yX5_heldNow cX5_heldNow 3 (some .int) 0 [.ref (eA E (42))] M (PR (some (.int v9)) M) := Cn.ofZ rfl (Nat.le_of_ble_eq_true rfl) rfl (tX5_heldNow_0   M H)
theorem hdX5_heldNow : yX5_heldNow.cls ≠ "java/lang/invoke/MethodHandle" ∧ yX5_heldNow.cls ≠ "java/lang/invoke/VarHandle" ∧ (parseMethodDescriptor yX5_heldNow.desc).map (fun d => d.parameters.length) = some 0 := by decide +kernel

set_option maxRecDepth 100000 in
theorem tX5_right_109 {l : Launch} {E : Env5}   {k16 : Int32 → Int32 → Int32 → Mem → Option (Int32 × Mem)} (x1 : Int32) (x2 : Int32) (x3 : Int32) (M : Mem) {v9 : Int32} {M9 : Mem} (hk16 : ∀ (x1 : Int32) (x2 : Int32) (x3 : Int32) (M : Mem), k16 x1 x2 x3 M = some (v9, M9) → Z l E RX5 cX5_right 6 (some .int) 1 16 [(0, .ref (eA E (42))), (1, .int (x1)), (2, .int (x2)), (3, .int (x3))] [] M (PR (some (.int v9)) M9)) (H : fX5_right_109 k16 x1 x2 x3 M = some (v9, M9)) : Z l E RX5 cX5_right 6 (some .int) 1 109 [(0, .ref (eA E (42))), (1, .int (x1)), (2, .int (x2)), (3, .int (x3))] [] M (PR (some (.int v9)) M9) := by
  unfold fX5_right_109 at H
  refine Z.iinc (v := x3 + 1) (lv' := [(3, .int (x3 + 1)), (0, .ref (eA E (42))), (1, .int (x1)), (2, .int (x2))]) dX5_right_109 3 rfl rfl (by decide) rfl ?_
  refine Z.goto dX5_right_112 ?_
  refine Z.sub [1, 2, 3, 0] rfl ?_
  exact hk16 (x1) (x2) (x3 + 1) M  H
set_option maxRecDepth 100000 in
theorem tX5_right_83 {l : Launch} {E : Env5}   {k16 : Int32 → Int32 → Int32 → Mem → Option (Int32 × Mem)} {k83 : Int32 → Int32 → Int32 → Int32 → Mem → Option (Int32 × Mem)} (x1 : Int32) (x2 : Int32) (x3 : Int32) (x5 : Int32) (M : Mem) {v9 : Int32} {M9 : Mem} (hk16 : ∀ (x1 : Int32) (x2 : Int32) (x3 : Int32) (M : Mem), k16 x1 x2 x3 M = some (v9, M9) → Z l E RX5 cX5_right 6 (some .int) 1 16 [(0, .ref (eA E (42))), (1, .int (x1)), (2, .int (x2)), (3, .int (x3))] [] M (PR (some (.int v9)) M9)) (hk83 : ∀ (x1 : Int32) (x2 : Int32) (x3 : Int32) (x5 : Int32) (M : Mem), k83 x1 x2 x3 x5 M = some (v9, M9) → Z l E RX5 cX5_right 6 (some .int) 1 83 [(0, .ref (eA E (42))), (1, .int (x1)), (2, .int (x2)), (3, .int (x3)), (5, .int (x5))] [] M (PR (some (.int v9)) M9)) (H : fX5_right_83B k16 k83 x1 x2 x3 x5 M = some (v9, M9)) : Z l E RX5 cX5_right 6 (some .int) 1 83 [(0, .ref (eA E (42))), (1, .int (x1)), (2, .int (x2)), (3, .int (x3)), (5, .int (x5))] [] M (PR (some (.int v9)) M9) := by
  unfold fX5_right_83B at H
  refine Z.iload dX5_right_83 4 rfl ?_
  refine Z.iconst (v := 4) dX5_right_85 (by decide) ?_
  refine Z.icmp_geH dX5_right_86 H (fun br86 H => ?_) (fun br86 H => ?_)
  · refine Z.sub [0, 1, 2, 3] rfl ?_
    exact tX5_right_109  (x1) (x2) (x3) M hk16 H
  · refine Z.aload_n dX5_right_89 0 rfl ?_
    refine Z.get dX5_right_90 inX5 (hc := rfl) (by decide) c5 33 (by decide) kw712 rfl rfl ?_
    refine Z.iload dX5_right_93 4 rfl ?_
    refine Z.aload_n dX5_right_95 0 rfl ?_
    refine Z.get dX5_right_96 inX5 (hc := rfl) (by decide) c5 32 (by decide) kw711 rfl rfl ?_
    refine Z.iload dX5_right_99 4 rfl ?_
    refine Z.ialdH dX5_right_101 a5_offs H (fun v1 H => ?_)
    refine Z.iastH dX5_right_102 a5_bestOffs H (fun M2 H => ?_)
    refine Z.iinc (v := x5 + 1) (lv' := [(5, .int (x5 + 1)), (0, .ref (eA E (42))), (1, .int (x1)), (2, .int (x2)), (3, .int (x3))]) dX5_right_103 4 rfl rfl (by decide) rfl ?_
    refine Z.goto dX5_right_106 ?_
    refine Z.sub [1, 2, 3, 4, 0] rfl ?_
    exact hk83 (x1) (x2) (x3) (x5 + 1) M2  H
theorem tX5_right_83L {l : Launch} {E : Env5}   {k16 : Int32 → Int32 → Int32 → Mem → Option (Int32 × Mem)}  {v9 : Int32} {M9 : Mem} (hk16 : ∀ (x1 : Int32) (x2 : Int32) (x3 : Int32) (M : Mem), k16 x1 x2 x3 M = some (v9, M9) → Z l E RX5 cX5_right 6 (some .int) 1 16 [(0, .ref (eA E (42))), (1, .int (x1)), (2, .int (x2)), (3, .int (x3))] [] M (PR (some (.int v9)) M9)) : ∀ (n : Nat) (x1 : Int32) (x2 : Int32) (x3 : Int32) (x5 : Int32) (M : Mem), fX5_right_83L k16  n x1 x2 x3 x5 M = some (v9, M9) → Z l E RX5 cX5_right 6 (some .int) 1 83 [(0, .ref (eA E (42))), (1, .int (x1)), (2, .int (x2)), (3, .int (x3)), (5, .int (x5))] [] M (PR (some (.int v9)) M9) := by
  intro n
  induction n with
  | zero => intro x1 x2 x3 x5 M H; exact absurd H (by simp [fX5_right_83L])
  | succ n ih => intro x1 x2 x3 x5 M H; exact tX5_right_83  x1 x2 x3 x5 M hk16 (fun x1 x2 x3 x5 M H => ih x1 x2 x3 x5 M H) H
set_option maxRecDepth 100000 in
theorem tX5_right_16 {l : Launch} {E : Env5}   {k16 : Int32 → Int32 → Int32 → Mem → Option (Int32 × Mem)} (x1 : Int32) (x2 : Int32) (x3 : Int32) (M : Mem) {v9 : Int32} {M9 : Mem} (hk16 : ∀ (x1 : Int32) (x2 : Int32) (x3 : Int32) (M : Mem), k16 x1 x2 x3 M = some (v9, M9) → Z l E RX5 cX5_right 6 (some .int) 1 16 [(0, .ref (eA E (42))), (1, .int (x1)), (2, .int (x2)), (3, .int (x3))] [] M (PR (some (.int v9)) M9)) (H : fX5_right_16B k16 x1 x2 x3 M = some (v9, M9)) : Z l E RX5 cX5_right 6 (some .int) 1 16 [(0, .ref (eA E (42))), (1, .int (x1)), (2, .int (x2)), (3, .int (x3))] [] M (PR (some (.int v9)) M9) := by
  unfold fX5_right_16B at H
  refine Z.iload_n dX5_right_16 3 rfl ?_
  refine Z.ldc (v := 68921) dX5_right_17 kw945 ?_
  refine Z.icmp_geH dX5_right_19 H (fun br19 H => ?_) (fun br19 H => ?_)
  · refine Z.iload_n dX5_right_115 1 rfl ?_
    refine Z.if_neH dX5_right_116 H (fun br116 H => ?_) (fun br116 H => ?_)
    · refine Z.aload_n dX5_right_130 0 rfl ?_
      refine Z.get dX5_right_131 inX5 (hc := rfl) (by decide) c5 33 (by decide) kw712 rfl rfl ?_
      refine Z.iload_n dX5_right_134 1 rfl ?_
      refine Z.ialdH dX5_right_135 a5_bestOffs H (fun v1 H => ?_)
      exact Z.iret rfl dX5_right_136 (retW H)
    · refine Z.aload_n dX5_right_119 0 rfl ?_
      refine Z.get dX5_right_120 inX5 (hc := rfl) (by decide) c5 20 (by decide) kw699 rfl rfl ?_
      refine Z.iconst (v := 0) dX5_right_123 (by decide) ?_
      refine Z.ialdH dX5_right_124 a5_facts H (fun v2 H => ?_)
      refine Z.iload_n dX5_right_125 2 rfl ?_
      refine Z.isub dX5_right_126 ?_
      refine Z.goto dX5_right_127 ?_
      exact Z.iret rfl dX5_right_136 (retW H)
  · refine Z.aload_n dX5_right_22 0 rfl ?_
    refine Z.get dX5_right_23 inX5 (hc := rfl) (by decide) c5 32 (by decide) kw711 rfl rfl ?_
    refine Z.iconst (v := 1) dX5_right_26 (by decide) ?_
    refine Z.iload_n dX5_right_27 3 rfl ?_
    refine Z.sipush (v := 1681) dX5_right_28 (by decide) ?_
    refine Z.idiv dX5_right_31 (by decide) ?_
    refine Z.bipush (v := 20) dX5_right_32 (by decide) ?_
    refine Z.isub dX5_right_34 ?_
    refine Z.iastH dX5_right_35 a5_offs H (fun M3 H => ?_)
    refine Z.aload_n dX5_right_36 0 rfl ?_
    refine Z.get dX5_right_37 inX5 (hc := rfl) (by decide) c5 32 (by decide) kw711 rfl rfl ?_
    refine Z.iconst (v := 2) dX5_right_40 (by decide) ?_
    refine Z.iload_n dX5_right_41 3 rfl ?_
    refine Z.bipush (v := 41) dX5_right_42 (by decide) ?_
    refine Z.idiv dX5_right_44 (by decide) ?_
    refine Z.bipush (v := 41) dX5_right_45 (by decide) ?_
    refine Z.irem dX5_right_47 (by decide) ?_
    refine Z.bipush (v := 20) dX5_right_48 (by decide) ?_
    refine Z.isub dX5_right_50 ?_
    refine Z.iastH dX5_right_51 a5_offs H (fun M4 H => ?_)
    refine Z.aload_n dX5_right_52 0 rfl ?_
    refine Z.get dX5_right_53 inX5 (hc := rfl) (by decide) c5 32 (by decide) kw711 rfl rfl ?_
    refine Z.iconst (v := 3) dX5_right_56 (by decide) ?_
    refine Z.iload_n dX5_right_57 3 rfl ?_
    refine Z.bipush (v := 41) dX5_right_58 (by decide) ?_
    refine Z.irem dX5_right_60 (by decide) ?_
    refine Z.bipush (v := 20) dX5_right_61 (by decide) ?_
    refine Z.isub dX5_right_63 ?_
    refine Z.iastH dX5_right_64 a5_offs H (fun M5 H => ?_)
    refine Z.aload_n dX5_right_65 0 rfl ?_
    refine bindC H (fun v6 hv6 H => ?_)
    refine Z.callV (As := []) (rest := []) (st' := [.int (v6)]) dX5_right_66 (kX5_heldNow   M5 hv6) kw946 kw948 ks52 kw7 kw949 hdX5_heldNow (by decide) c5 (hc := rfl) (by decide) (by decide) rfl rfl (Nat.le_of_ble_eq_true rfl) rfl ?_
    refine Z.istore (lv' := [(4, .int (v6)), (0, .ref (eA E (42))), (1, .int (x1)), (2, .int (x2)), (3, .int (x3))]) dX5_right_69 (by decide) rfl ?_
    refine Z.iload dX5_right_71 0 rfl ?_
    refine Z.iload_n dX5_right_73 3 rfl ?_
    refine Z.icmp_leH dX5_right_74 H (fun br74 H => ?_) (fun br74 H => ?_)
    · refine Z.sub [1, 2, 3, 4] rfl ?_
      exact tX5_right_109  (x1) (x2) (x3) M5 hk16 H
    · refine Z.iload dX5_right_77 0 rfl ?_
      refine Z.istore_n (lv' := [(2, .int (v6)), (4, .int (v6)), (0, .ref (eA E (42))), (1, .int (x1)), (3, .int (x3))]) dX5_right_79 (by decide) rfl ?_
      refine Z.iconst (v := 1) dX5_right_80 (by decide) ?_
      refine Z.istore (lv' := [(5, .int (1)), (2, .int (v6)), (4, .int (v6)), (0, .ref (eA E (42))), (1, .int (x1)), (3, .int (x3))]) dX5_right_81 (by decide) rfl ?_
      refine Z.sub [3, 4, 1, 5, 0] rfl ?_
      exact tX5_right_83L  hk16 FU (x1) (v6) (x3) (1) M5 H
theorem tX5_right_16L {l : Launch} {E : Env5}     {v9 : Int32} {M9 : Mem}  : ∀ (n : Nat) (x1 : Int32) (x2 : Int32) (x3 : Int32) (M : Mem), fX5_right_16L   n x1 x2 x3 M = some (v9, M9) → Z l E RX5 cX5_right 6 (some .int) 1 16 [(0, .ref (eA E (42))), (1, .int (x1)), (2, .int (x2)), (3, .int (x3))] [] M (PR (some (.int v9)) M9) := by
  intro n
  induction n with
  | zero => intro x1 x2 x3 M H; exact absurd H (by simp [fX5_right_16L])
  | succ n ih => intro x1 x2 x3 M H; exact tX5_right_16  x1 x2 x3 M  (fun x1 x2 x3 M H => ih x1 x2 x3 M H) H
set_option maxRecDepth 100000 in
theorem tX5_right_0 {l : Launch} {E : Env5}    (x1 : Int32) (M : Mem) {v9 : Int32} {M9 : Mem}  (H : fX5_right  x1 M = some (v9, M9)) : Z l E RX5 cX5_right 6 (some .int) 1 0 [(0, .ref (eA E (42))), (1, .int (x1))] [] M (PR (some (.int v9)) M9) := by
  unfold fX5_right at H
  refine Z.iload_n dX5_right_0 1 rfl ?_
  refine Z.iconst (v := 0) dX5_right_1 (by decide) ?_
  refine Z.iconst (v := 3) dX5_right_2 (by decide) ?_
  refine bindC H (fun v1 hv1 H => ?_)
  refine Z.callS (As := [.int (x1), .int (0), .int (3)]) (rest := []) (st' := [.int (v1)]) dX5_right_3 (kX5_in  (x1) (0) (3) M hv1) kw798 kw799 kw7 kw800 hdX5_in (by decide) (by decide) rfl rfl (Nat.le_of_ble_eq_true rfl) rfl ?_
  refine Z.if_neH dX5_right_6 H (fun br6 H => ?_) (fun br6 H => ?_)
  · refine Z.iconst (v := (-1)) dX5_right_12 (by decide) ?_
    refine Z.istore_n (lv' := [(2, .int ((-1))), (0, .ref (eA E (42))), (1, .int (x1))]) dX5_right_13 (by decide) rfl ?_
    refine Z.iconst (v := 0) dX5_right_14 (by decide) ?_
    refine Z.istore_n (lv' := [(3, .int (0)), (2, .int ((-1))), (0, .ref (eA E (42))), (1, .int (x1))]) dX5_right_15 (by decide) rfl ?_
    refine Z.sub [2, 3, 1, 0] rfl ?_
    exact tX5_right_16L   FU (x1) ((-1)) (0) M H
  · refine Z.ldc (v := (-1000000)) dX5_right_9 kw944 ?_
    exact Z.iret rfl dX5_right_11 (retW H)
theorem kX5_right {l : Launch} {E : Env5}   (x1 : Int32) (M : Mem) {v9 : Int32} {M9 : Mem} (H : fX5_right x1 M = some (v9, M9)) : Cn l E yX5_right cX5_right 6 (some .int) 1 [.ref (eA E (42)), .int (x1)] M (PR (some (.int v9)) M9) := Cn.ofZ rfl (Nat.le_of_ble_eq_true rfl) rfl (tX5_right_0  x1 M H)
theorem hdX5_right : yX5_right.cls ≠ "java/lang/invoke/MethodHandle" ∧ yX5_right.cls ≠ "java/lang/invoke/VarHandle" ∧ (parseMethodDescriptor yX5_right.desc).map (fun d => d.parameters.length) = some 1 := by decide +kernel

set_option maxRecDepth 100000 in
theorem tX5_seen_0 {l : Launch} {E : Env5}    (x1 : Int32) (x2 : Int32) (x3 : Int32) (x4 : Int32) (M : Mem) {v9 : Int32} {M9 : Mem}  (H : fX5_seen  x1 x2 x3 x4 M = some (v9, M9)) : Z l E RX5 cX5_seen 6 (some .int) 2 0 [(0, .ref (eA E (42))), (1, .int (x1)), (2, .int (x2)), (3, .int (x3)), (4, .int (x4))] [] M (PR (some (.int v9)) M9) := by
  unfold fX5_seen at H
  refine Z.aload_n dX5_seen_0 0 rfl ?_
  refine Z.iload_n dX5_seen_1 1 rfl ?_
  refine Z.iload_n dX5_seen_2 2 rfl ?_
  refine bindC H (fun v1 hv1 H => ?_)
  refine Z.callV (As := [.int (x1), .int (x2)]) (rest := []) (st' := [.int (v1)]) dX5_seen_3 (kX5_isOn  (x1) (x2) M hv1) kw838 kw840 ks37 kw7 kw841 hdX5_isOn (by decide) c5 (hc := rfl) (by decide) (by decide) rfl rfl (Nat.le_of_ble_eq_true rfl) rfl ?_
  refine Z.if_eqH dX5_seen_6 H (fun br6 H => ?_) (fun br6 H => ?_)
  · refine Z.iconst (v := (-1)) dX5_seen_30 (by decide) ?_
    exact Z.iret rfl dX5_seen_31 (retW H)
  · refine Z.iload_n dX5_seen_9 3 rfl ?_
    refine Z.iconst (v := 0) dX5_seen_10 (by decide) ?_
    refine Z.bipush (v := 99) dX5_seen_11 (by decide) ?_
    refine bindC H (fun v2 hv2 H => ?_)
    refine Z.callS (As := [.int (x3), .int (0), .int (99)]) (rest := []) (st' := [.int (v2)]) dX5_seen_13 (kX5_in  (x3) (0) (99) M hv2) kw798 kw799 kw7 kw800 hdX5_in (by decide) (by decide) rfl rfl (Nat.le_of_ble_eq_true rfl) rfl ?_
    refine Z.if_eqH dX5_seen_16 H (fun br16 H => ?_) (fun br16 H => ?_)
    · refine Z.iconst (v := (-1)) dX5_seen_30 (by decide) ?_
      exact Z.iret rfl dX5_seen_31 (retW H)
    · refine Z.iload dX5_seen_19 4 rfl ?_
      refine Z.iconst (v := 0) dX5_seen_21 (by decide) ?_
      refine Z.bipush (v := 9) dX5_seen_22 (by decide) ?_
      refine bindC H (fun v3 hv3 H => ?_)
      refine Z.callS (As := [.int (x4), .int (0), .int (9)]) (rest := []) (st' := [.int (v3)]) dX5_seen_24 (kX5_in  (x4) (0) (9) M hv3) kw798 kw799 kw7 kw800 hdX5_in (by decide) (by decide) rfl rfl (Nat.le_of_ble_eq_true rfl) rfl ?_
      refine Z.if_neH dX5_seen_27 H (fun br27 H => ?_) (fun br27 H => ?_)
      · refine Z.aload_n dX5_seen_32 0 rfl ?_
        refine Z.get dX5_seen_33 inX5 (hc := rfl) (by decide) c5 25 (by decide) kw704 rfl rfl ?_
        refine Z.iconst (v := 0) dX5_seen_36 (by decide) ?_
        refine Z.ialdH dX5_seen_37 a5_seen H (fun v4 H => ?_)
        refine Z.istore (lv' := [(5, .int (v4)), (0, .ref (eA E (42))), (1, .int (x1)), (2, .int (x2)), (3, .int (x3)), (4, .int (x4))]) dX5_seen_38 (by decide) rfl ?_
        refine Z.iload dX5_seen_40 0 rfl ?_
        refine Z.bipush (v := 8) dX5_seen_42 (by decide) ?_
        refine Z.icmp_neH dX5_seen_44 H (fun br44 H => ?_) (fun br44 H => ?_)
        · refine Z.aload_n dX5_seen_50 1 rfl ?_
          refine Z.get dX5_seen_51 inX5 (hc := rfl) (by decide) c5 26 (by decide) kw705 rfl rfl ?_
          refine Z.iload dX5_seen_54 0 rfl ?_
          refine Z.iload_n dX5_seen_56 2 rfl ?_
          refine Z.iastH dX5_seen_57 a5_seenX H (fun M5 H => ?_)
          refine Z.aload_n dX5_seen_58 1 rfl ?_
          refine Z.get dX5_seen_59 inX5 (hc := rfl) (by decide) c5 27 (by decide) kw706 rfl rfl ?_
          refine Z.iload dX5_seen_62 0 rfl ?_
          refine Z.iload_n dX5_seen_64 3 rfl ?_
          refine Z.iastH dX5_seen_65 a5_seenY H (fun M6 H => ?_)
          refine Z.aload_n dX5_seen_66 1 rfl ?_
          refine Z.get dX5_seen_67 inX5 (hc := rfl) (by decide) c5 28 (by decide) kw707 rfl rfl ?_
          refine Z.iload dX5_seen_70 0 rfl ?_
          refine Z.iload_n dX5_seen_72 4 rfl ?_
          refine Z.iastH dX5_seen_73 a5_seenT H (fun M7 H => ?_)
          refine Z.aload_n dX5_seen_74 1 rfl ?_
          refine Z.get dX5_seen_75 inX5 (hc := rfl) (by decide) c5 29 (by decide) kw708 rfl rfl ?_
          refine Z.iload dX5_seen_78 0 rfl ?_
          refine Z.iload dX5_seen_80 5 rfl ?_
          refine Z.iastH dX5_seen_82 a5_seenMark H (fun M8 H => ?_)
          refine Z.aload_n dX5_seen_83 1 rfl ?_
          refine Z.get dX5_seen_84 inX5 (hc := rfl) (by decide) c5 25 (by decide) kw704 rfl rfl ?_
          refine Z.iconst (v := 0) dX5_seen_87 (by decide) ?_
          refine Z.dup2 dX5_seen_88 rfl rfl ?_
          refine Z.ialdH dX5_seen_89 a5_seen H (fun v9 H => ?_)
          refine Z.iconst (v := 1) dX5_seen_90 (by decide) ?_
          refine Z.iadd dX5_seen_91 ?_
          refine Z.iastH dX5_seen_92 a5_seen H (fun M10 H => ?_)
          refine Z.iload dX5_seen_93 0 rfl ?_
          refine Z.iconst (v := 1) dX5_seen_95 (by decide) ?_
          refine Z.iadd dX5_seen_96 ?_
          exact Z.iret rfl dX5_seen_97 (retW H)
        · refine Z.bipush (v := (-3)) dX5_seen_47 (by decide) ?_
          exact Z.iret rfl dX5_seen_49 (retW H)
      · refine Z.iconst (v := (-1)) dX5_seen_30 (by decide) ?_
        exact Z.iret rfl dX5_seen_31 (retW H)
theorem kX5_seen {l : Launch} {E : Env5}   (x1 : Int32) (x2 : Int32) (x3 : Int32) (x4 : Int32) (M : Mem) {v9 : Int32} {M9 : Mem} (H : fX5_seen x1 x2 x3 x4 M = some (v9, M9)) : Cn l E yX5_seen cX5_seen 6 (some .int) 2 [.ref (eA E (42)), .int (x1), .int (x2), .int (x3), .int (x4)] M (PR (some (.int v9)) M9) := Cn.ofZ rfl (Nat.le_of_ble_eq_true rfl) rfl (tX5_seen_0  x1 x2 x3 x4 M H)
theorem hdX5_seen : yX5_seen.cls ≠ "java/lang/invoke/MethodHandle" ∧ yX5_seen.cls ≠ "java/lang/invoke/VarHandle" ∧ (parseMethodDescriptor yX5_seen.desc).map (fun d => d.parameters.length) = some 4 := by decide +kernel

set_option maxRecDepth 100000 in
theorem tX5_size_0 {l : Launch} {E : Env5}    (x0 : Int32) (M : Mem) {v9 : Int32}  (H : fX5_size  x0 = some v9) : Z l E RX5 cX5_size 1 (some .int) 0 0 [(0, .int (x0))] [] M (PR (some (.int v9)) M) := by
  unfold fX5_size at H
  refine Z.iload_n dX5_size_0 0 rfl ?_
  refine Z.if_geH dX5_size_1 H (fun br1 H => ?_) (fun br1 H => ?_)
  · refine Z.iload_n dX5_size_9 0 rfl ?_
    exact Z.iret rfl dX5_size_10 (retR H)
  · refine Z.iload_n dX5_size_4 0 rfl ?_
    refine Z.ineg dX5_size_5 ?_
    refine Z.goto dX5_size_6 ?_
    exact Z.iret rfl dX5_size_10 (retR H)
theorem kX5_size {l : Launch} {E : Env5}   (x0 : Int32) (M : Mem) {v9 : Int32} (H : fX5_size x0 = some v9) : Cn l E yX5_size cX5_size 1 (some .int) 0 [.int (x0)] M (PR (some (.int v9)) M) := Cn.ofZ rfl (Nat.le_of_ble_eq_true rfl) rfl (tX5_size_0  x0 M H)
theorem hdX5_size : yX5_size.cls ≠ "java/lang/invoke/MethodHandle" ∧ yX5_size.cls ≠ "java/lang/invoke/VarHandle" ∧ (parseMethodDescriptor yX5_size.desc).map (fun d => d.parameters.length) = some 1 := by decide +kernel

set_option maxRecDepth 100000 in
theorem tX5_isOne_82 {l : Launch} {E : Env5}     (M : Mem) {v9 : Int32}  (H : fX5_isOne_82   M = some v9) : Z l E RX5 cX5_isOne 5 (some .boolean) 1 82 [] [] M (PR (some (.int v9)) M) := by
  unfold fX5_isOne_82 at H
  refine Z.iconst (v := 1) dX5_isOne_82 (by decide) ?_
  refine Z.goto dX5_isOne_83 ?_
  exact Z.zret rfl rfl dX5_isOne_87 (retR H)
set_option maxRecDepth 100000 in
theorem tX5_isOne_0 {l : Launch} {E : Env5}    (x1 : Int32) (x2 : Int32) (M : Mem) {v9 : Int32}  (H : fX5_isOne  x1 x2 M = some v9) : Z l E RX5 cX5_isOne 5 (some .boolean) 1 0 [(0, .ref (eA E (42))), (1, .int (x1)), (2, .int (x2))] [] M (PR (some (.int v9)) M) := by
  unfold fX5_isOne at H
  refine Z.aload_n dX5_isOne_0 0 rfl ?_
  refine Z.get dX5_isOne_1 inX5 (hc := rfl) (by decide) c5 26 (by decide) kw705 rfl rfl ?_
  refine Z.iload_n dX5_isOne_4 1 rfl ?_
  refine Z.ialdH dX5_isOne_5 a5_seenX H (fun v1 H => ?_)
  refine Z.aload_n dX5_isOne_6 0 rfl ?_
  refine Z.get dX5_isOne_7 inX5 (hc := rfl) (by decide) c5 26 (by decide) kw705 rfl rfl ?_
  refine Z.iload_n dX5_isOne_10 2 rfl ?_
  refine Z.ialdH dX5_isOne_11 a5_seenX H (fun v2 H => ?_)
  refine Z.isub dX5_isOne_12 ?_
  refine bindC H (fun v3 hv3 H => ?_)
  refine Z.callS (As := [.int (v1 - v2)]) (rest := []) (st' := [.int (v3)]) dX5_isOne_13 (kX5_size  (v1 - v2) M hv3) kw966 kw967 kw7 kw968 hdX5_size (by decide) (by decide) rfl rfl (Nat.le_of_ble_eq_true rfl) rfl ?_
  refine Z.aload_n dX5_isOne_16 0 rfl ?_
  refine Z.get dX5_isOne_17 inX5 (hc := rfl) (by decide) c5 27 (by decide) kw706 rfl rfl ?_
  refine Z.iload_n dX5_isOne_20 1 rfl ?_
  refine Z.ialdH dX5_isOne_21 a5_seenY H (fun v4 H => ?_)
  refine Z.aload_n dX5_isOne_22 0 rfl ?_
  refine Z.get dX5_isOne_23 inX5 (hc := rfl) (by decide) c5 27 (by decide) kw706 rfl rfl ?_
  refine Z.iload_n dX5_isOne_26 2 rfl ?_
  refine Z.ialdH dX5_isOne_27 a5_seenY H (fun v5 H => ?_)
  refine Z.isub dX5_isOne_28 ?_
  refine bindC H (fun v6 hv6 H => ?_)
  refine Z.callS (As := [.int (v4 - v5)]) (rest := [.int (v3)]) (st' := [.int (v6), .int (v3)]) dX5_isOne_29 (kX5_size  (v4 - v5) M hv6) kw966 kw967 kw7 kw968 hdX5_size (by decide) (by decide) rfl rfl (Nat.le_of_ble_eq_true rfl) rfl ?_
  refine Z.iadd dX5_isOne_32 ?_
  refine Z.istore_n (lv' := [(3, .int (v3 + v6)), (0, .ref (eA E (42))), (1, .int (x1)), (2, .int (x2))]) dX5_isOne_33 (by decide) rfl ?_
  refine Z.aload_n dX5_isOne_34 1 rfl ?_
  refine Z.get dX5_isOne_35 inX5 (hc := rfl) (by decide) c5 28 (by decide) kw707 rfl rfl ?_
  refine Z.iload_n dX5_isOne_38 2 rfl ?_
  refine Z.ialdH dX5_isOne_39 a5_seenT H (fun v7 H => ?_)
  refine Z.aload_n dX5_isOne_40 1 rfl ?_
  refine Z.get dX5_isOne_41 inX5 (hc := rfl) (by decide) c5 28 (by decide) kw707 rfl rfl ?_
  refine Z.iload_n dX5_isOne_44 3 rfl ?_
  refine Z.ialdH dX5_isOne_45 a5_seenT H (fun v8 H => ?_)
  refine Z.isub dX5_isOne_46 ?_
  refine bindC H (fun v9 hv9 H => ?_)
  refine Z.callS (As := [.int (v7 - v8)]) (rest := []) (st' := [.int (v9)]) dX5_isOne_47 (kX5_size  (v7 - v8) M hv9) kw966 kw967 kw7 kw968 hdX5_size (by decide) (by decide) rfl rfl (Nat.le_of_ble_eq_true rfl) rfl ?_
  refine Z.istore (lv' := [(4, .int (v9)), (3, .int (v3 + v6)), (0, .ref (eA E (42))), (1, .int (x1)), (2, .int (x2))]) dX5_isOne_50 (by decide) rfl ?_
  refine Z.aload_n dX5_isOne_52 2 rfl ?_
  refine Z.get dX5_isOne_53 inX5 (hc := rfl) (by decide) c5 29 (by decide) kw708 rfl rfl ?_
  refine Z.iload_n dX5_isOne_56 3 rfl ?_
  refine Z.ialdH dX5_isOne_57 a5_seenMark H (fun v10 H => ?_)
  refine Z.aload_n dX5_isOne_58 2 rfl ?_
  refine Z.get dX5_isOne_59 inX5 (hc := rfl) (by decide) c5 29 (by decide) kw708 rfl rfl ?_
  refine Z.iload_n dX5_isOne_62 4 rfl ?_
  refine Z.ialdH dX5_isOne_63 a5_seenMark H (fun v11 H => ?_)
  refine Z.icmp_neH dX5_isOne_64 H (fun br64 H => ?_) (fun br64 H => ?_)
  · refine Z.iconst (v := 0) dX5_isOne_86 (by decide) ?_
    exact Z.zret rfl rfl dX5_isOne_87 (retR H)
  · refine Z.iload_n dX5_isOne_67 1 rfl ?_
    refine Z.iload dX5_isOne_68 0 rfl ?_
    refine Z.icmp_gtH dX5_isOne_70 H (fun br70 H => ?_) (fun br70 H => ?_)
    · refine Z.iconst (v := 0) dX5_isOne_86 (by decide) ?_
      exact Z.zret rfl rfl dX5_isOne_87 (retR H)
    · refine Z.iload dX5_isOne_73 0 rfl ?_
      refine Z.if_gtH dX5_isOne_75 H (fun br75 H => ?_) (fun br75 H => ?_)
      · refine Z.sub [] rfl ?_
        exact tX5_isOne_82   M  H
      · refine Z.iload_n dX5_isOne_78 1 rfl ?_
        refine Z.if_neH dX5_isOne_79 H (fun br79 H => ?_) (fun br79 H => ?_)
        · refine Z.iconst (v := 0) dX5_isOne_86 (by decide) ?_
          exact Z.zret rfl rfl dX5_isOne_87 (retR H)
        · refine Z.sub [] rfl ?_
          exact tX5_isOne_82   M  H
theorem kX5_isOne {l : Launch} {E : Env5}   (x1 : Int32) (x2 : Int32) (M : Mem) {v9 : Int32} (H : fX5_isOne x1 x2 M = some v9) : Cn l E yX5_isOne cX5_isOne 5 (some .boolean) 1 [.ref (eA E (42)), .int (x1), .int (x2)] M (PR (some (.int v9)) M) := Cn.ofZ rfl (Nat.le_of_ble_eq_true rfl) rfl (tX5_isOne_0  x1 x2 M H)
theorem hdX5_isOne : yX5_isOne.cls ≠ "java/lang/invoke/MethodHandle" ∧ yX5_isOne.cls ≠ "java/lang/invoke/VarHandle" ∧ (parseMethodDescriptor yX5_isOne.desc).map (fun d => d.parameters.length) = some 2 := by decide +kernel

set_option maxRecDepth 100000 in
theorem tX5_isChain_90 {l : Launch} {E : Env5}   {k5 : Int32 → Int32 → Option Int32} (x2 : Int32) (x4 : Int32) (M : Mem) {v9 : Int32} (hk5 : ∀ (x2 : Int32) (x3 : Int32), k5 x2 x3 = some v9 → Z l E RX5 cX5_isChain 6 (some .boolean) 2 5 [(0, .ref (eA E (42))), (2, .int (x2)), (3, .int (x3))] [] M (PR (some (.int v9)) M)) (H : fX5_isChain_90 k5 x2 x4 M = some v9) : Z l E RX5 cX5_isChain 6 (some .boolean) 2 90 [(0, .ref (eA E (42))), (2, .int (x2)), (4, .int (x4))] [] M (PR (some (.int v9)) M) := by
  unfold fX5_isChain_90 at H
  refine Z.iload_n dX5_isChain_90 1 rfl ?_
  refine Z.iconst (v := 1) dX5_isChain_91 (by decide) ?_
  refine Z.iload dX5_isChain_92 2 rfl ?_
  refine Z.ishl dX5_isChain_94 ?_
  refine Z.iconst (v := (-1)) dX5_isChain_95 (by decide) ?_
  refine Z.ixor dX5_isChain_96 ?_
  refine Z.iand dX5_isChain_97 ?_
  refine Z.istore_n (lv' := [(2, .int (x2 &&& ((1 <<< (x4 &&& 31)) ^^^ ((-1))))), (0, .ref (eA E (42))), (4, .int (x4))]) dX5_isChain_98 (by decide) rfl ?_
  refine Z.iload dX5_isChain_99 2 rfl ?_
  refine Z.istore_n (lv' := [(3, .int (x4)), (2, .int (x2 &&& ((1 <<< (x4 &&& 31)) ^^^ ((-1))))), (0, .ref (eA E (42))), (4, .int (x4))]) dX5_isChain_101 (by decide) rfl ?_
  refine Z.goto dX5_isChain_102 ?_
  refine Z.sub [2, 1, 0] rfl ?_
  exact hk5 (x2 &&& ((1 <<< (x4 &&& 31)) ^^^ ((-1)))) (x4) H
set_option maxRecDepth 100000 in
theorem tX5_isChain_64 {l : Launch} {E : Env5}   {k5 : Int32 → Int32 → Option Int32} {k16 : Int32 → Int32 → Int32 → Int32 → Option Int32} (x2 : Int32) (x3 : Int32) (x5 : Int32) (s0 : Int32) (M : Mem) {v9 : Int32} (hk5 : ∀ (x2 : Int32) (x3 : Int32), k5 x2 x3 = some v9 → Z l E RX5 cX5_isChain 6 (some .boolean) 2 5 [(0, .ref (eA E (42))), (2, .int (x2)), (3, .int (x3))] [] M (PR (some (.int v9)) M)) (hk16 : ∀ (x2 : Int32) (x3 : Int32) (x4 : Int32) (x5 : Int32), k16 x2 x3 x4 x5 = some v9 → Z l E RX5 cX5_isChain 6 (some .boolean) 2 16 [(0, .ref (eA E (42))), (2, .int (x2)), (3, .int (x3)), (4, .int (x4)), (5, .int (x5))] [] M (PR (some (.int v9)) M)) (H : fX5_isChain_64 k5 k16 x2 x3 x5 s0 M = some v9) : Z l E RX5 cX5_isChain 6 (some .boolean) 2 64 [(0, .ref (eA E (42))), (2, .int (x2)), (3, .int (x3)), (5, .int (x5))] [.int (s0)] M (PR (some (.int v9)) M) := by
  unfold fX5_isChain_64 at H
  refine Z.istore (lv' := [(4, .int (s0)), (0, .ref (eA E (42))), (2, .int (x2)), (3, .int (x3)), (5, .int (x5))]) dX5_isChain_64 (by decide) rfl ?_
  refine Z.iinc (v := x5 + 1) (lv' := [(5, .int (x5 + 1)), (4, .int (s0)), (0, .ref (eA E (42))), (2, .int (x2)), (3, .int (x3))]) dX5_isChain_66 4 rfl rfl (by decide) rfl ?_
  refine Z.goto dX5_isChain_69 ?_
  refine Z.sub [2, 3, 4, 1, 0] rfl ?_
  exact hk16 (x2) (x3) (s0) (x5 + 1) H
set_option maxRecDepth 100000 in
theorem tX5_isChain_62 {l : Launch} {E : Env5}   {k5 : Int32 → Int32 → Option Int32} {k16 : Int32 → Int32 → Int32 → Int32 → Option Int32} (x2 : Int32) (x3 : Int32) (x4 : Int32) (x5 : Int32) (M : Mem) {v9 : Int32} (hk5 : ∀ (x2 : Int32) (x3 : Int32), k5 x2 x3 = some v9 → Z l E RX5 cX5_isChain 6 (some .boolean) 2 5 [(0, .ref (eA E (42))), (2, .int (x2)), (3, .int (x3))] [] M (PR (some (.int v9)) M)) (hk16 : ∀ (x2 : Int32) (x3 : Int32) (x4 : Int32) (x5 : Int32), k16 x2 x3 x4 x5 = some v9 → Z l E RX5 cX5_isChain 6 (some .boolean) 2 16 [(0, .ref (eA E (42))), (2, .int (x2)), (3, .int (x3)), (4, .int (x4)), (5, .int (x5))] [] M (PR (some (.int v9)) M)) (H : fX5_isChain_62 k5 k16 x2 x3 x4 x5 M = some v9) : Z l E RX5 cX5_isChain 6 (some .boolean) 2 62 [(0, .ref (eA E (42))), (2, .int (x2)), (3, .int (x3)), (4, .int (x4)), (5, .int (x5))] [] M (PR (some (.int v9)) M) := by
  unfold fX5_isChain_62 at H
  refine Z.iload dX5_isChain_62 3 rfl ?_
  refine Z.sub [0, 1, 2, 4] rfl ?_
  exact tX5_isChain_64  (x2) (x3) (x5) (x4) M hk5 hk16 H
set_option maxRecDepth 100000 in
theorem tX5_isChain_57 {l : Launch} {E : Env5}   {k5 : Int32 → Int32 → Option Int32} {k16 : Int32 → Int32 → Int32 → Int32 → Option Int32} (x2 : Int32) (x3 : Int32) (x5 : Int32) (M : Mem) {v9 : Int32} (hk5 : ∀ (x2 : Int32) (x3 : Int32), k5 x2 x3 = some v9 → Z l E RX5 cX5_isChain 6 (some .boolean) 2 5 [(0, .ref (eA E (42))), (2, .int (x2)), (3, .int (x3))] [] M (PR (some (.int v9)) M)) (hk16 : ∀ (x2 : Int32) (x3 : Int32) (x4 : Int32) (x5 : Int32), k16 x2 x3 x4 x5 = some v9 → Z l E RX5 cX5_isChain 6 (some .boolean) 2 16 [(0, .ref (eA E (42))), (2, .int (x2)), (3, .int (x3)), (4, .int (x4)), (5, .int (x5))] [] M (PR (some (.int v9)) M)) (H : fX5_isChain_57 k5 k16 x2 x3 x5 M = some v9) : Z l E RX5 cX5_isChain 6 (some .boolean) 2 57 [(0, .ref (eA E (42))), (2, .int (x2)), (3, .int (x3)), (5, .int (x5))] [] M (PR (some (.int v9)) M) := by
  unfold fX5_isChain_57 at H
  refine Z.iload dX5_isChain_57 3 rfl ?_
  refine Z.goto dX5_isChain_59 ?_
  refine Z.sub [0, 1, 2, 3] rfl ?_
  exact tX5_isChain_64  (x2) (x3) (x5) (x5) M hk5 hk16 H
set_option maxRecDepth 100000 in
theorem tX5_isChain_16 {l : Launch} {E : Env5}   {k5 : Int32 → Int32 → Option Int32} {k16 : Int32 → Int32 → Int32 → Int32 → Option Int32} (x2 : Int32) (x3 : Int32) (x4 : Int32) (x5 : Int32) (M : Mem) {v9 : Int32} (hk5 : ∀ (x2 : Int32) (x3 : Int32), k5 x2 x3 = some v9 → Z l E RX5 cX5_isChain 6 (some .boolean) 2 5 [(0, .ref (eA E (42))), (2, .int (x2)), (3, .int (x3))] [] M (PR (some (.int v9)) M)) (hk16 : ∀ (x2 : Int32) (x3 : Int32) (x4 : Int32) (x5 : Int32), k16 x2 x3 x4 x5 = some v9 → Z l E RX5 cX5_isChain 6 (some .boolean) 2 16 [(0, .ref (eA E (42))), (2, .int (x2)), (3, .int (x3)), (4, .int (x4)), (5, .int (x5))] [] M (PR (some (.int v9)) M)) (H : fX5_isChain_16B k5 k16 x2 x3 x4 x5 M = some v9) : Z l E RX5 cX5_isChain 6 (some .boolean) 2 16 [(0, .ref (eA E (42))), (2, .int (x2)), (3, .int (x3)), (4, .int (x4)), (5, .int (x5))] [] M (PR (some (.int v9)) M) := by
  unfold fX5_isChain_16B at H
  refine Z.iload dX5_isChain_16 4 rfl ?_
  refine Z.bipush (v := 8) dX5_isChain_18 (by decide) ?_
  refine Z.icmp_geH dX5_isChain_20 H (fun br20 H => ?_) (fun br20 H => ?_)
  · refine Z.iload_n dX5_isChain_72 2 rfl ?_
    refine Z.bipush (v := (-9)) dX5_isChain_73 (by decide) ?_
    refine Z.icmp_eqH dX5_isChain_75 H (fun br75 H => ?_) (fun br75 H => ?_)
    · refine Z.sub [0, 1, 3] rfl ?_
      exact tX5_isChain_90  (x2) (x4) M hk5 H
    · refine Z.aload_n dX5_isChain_78 0 rfl ?_
      refine Z.iload_n dX5_isChain_79 2 rfl ?_
      refine Z.iload dX5_isChain_80 3 rfl ?_
      refine bindC H (fun v1 hv1 H => ?_)
      refine Z.callV (As := [.int (x3), .int (x4)]) (rest := []) (st' := [.int (v1)]) dX5_isChain_82 (kX5_isOne  (x3) (x4) M hv1) kw962 kw964 ks54 kw7 kw965 hdX5_isOne (by decide) c5 (hc := rfl) (by decide) (by decide) rfl rfl (Nat.le_of_ble_eq_true rfl) rfl ?_
      refine Z.if_neH dX5_isChain_85 H (fun br85 H => ?_) (fun br85 H => ?_)
      · refine Z.sub [0, 1, 3] rfl ?_
        exact tX5_isChain_90  (x2) (x4) M hk5 H
      · refine Z.iconst (v := 0) dX5_isChain_88 (by decide) ?_
        exact Z.zret rfl rfl dX5_isChain_89 (retR H)
  · refine Z.iload_n dX5_isChain_23 1 rfl ?_
    refine Z.iload dX5_isChain_24 4 rfl ?_
    refine Z.ishr dX5_isChain_26 ?_
    refine Z.iconst (v := 1) dX5_isChain_27 (by decide) ?_
    refine Z.iand dX5_isChain_28 ?_
    refine Z.iconst (v := 1) dX5_isChain_29 (by decide) ?_
    refine Z.icmp_neH dX5_isChain_30 H (fun br30 H => ?_) (fun br30 H => ?_)
    · refine Z.sub [0, 1, 2, 3, 4] rfl ?_
      exact tX5_isChain_62  (x2) (x3) (x4) (x5) M hk5 hk16 H
    · refine Z.iload dX5_isChain_33 3 rfl ?_
      refine Z.bipush (v := (-9)) dX5_isChain_35 (by decide) ?_
      refine Z.icmp_eqH dX5_isChain_37 H (fun br37 H => ?_) (fun br37 H => ?_)
      · refine Z.sub [0, 1, 2, 4] rfl ?_
        exact tX5_isChain_57  (x2) (x3) (x5) M hk5 hk16 H
      · refine Z.aload_n dX5_isChain_40 0 rfl ?_
        refine Z.get dX5_isChain_41 inX5 (hc := rfl) (by decide) c5 28 (by decide) kw707 rfl rfl ?_
        refine Z.iload dX5_isChain_44 4 rfl ?_
        refine Z.ialdH dX5_isChain_46 a5_seenT H (fun v2 H => ?_)
        refine Z.aload_n dX5_isChain_47 0 rfl ?_
        refine Z.get dX5_isChain_48 inX5 (hc := rfl) (by decide) c5 28 (by decide) kw707 rfl rfl ?_
        refine Z.iload dX5_isChain_51 3 rfl ?_
        refine Z.ialdH dX5_isChain_53 a5_seenT H (fun v3 H => ?_)
        refine Z.icmp_geH dX5_isChain_54 H (fun br54 H => ?_) (fun br54 H => ?_)
        · refine Z.sub [0, 1, 2, 3, 4] rfl ?_
          exact tX5_isChain_62  (x2) (x3) (x4) (x5) M hk5 hk16 H
        · refine Z.sub [0, 1, 2, 4] rfl ?_
          exact tX5_isChain_57  (x2) (x3) (x5) M hk5 hk16 H
theorem tX5_isChain_16L {l : Launch} {E : Env5}   {k5 : Int32 → Int32 → Option Int32} (M : Mem) {v9 : Int32} (hk5 : ∀ (x2 : Int32) (x3 : Int32), k5 x2 x3 = some v9 → Z l E RX5 cX5_isChain 6 (some .boolean) 2 5 [(0, .ref (eA E (42))), (2, .int (x2)), (3, .int (x3))] [] M (PR (some (.int v9)) M)) : ∀ (n : Nat) (x2 : Int32) (x3 : Int32) (x4 : Int32) (x5 : Int32), fX5_isChain_16L k5  M n x2 x3 x4 x5 = some v9 → Z l E RX5 cX5_isChain 6 (some .boolean) 2 16 [(0, .ref (eA E (42))), (2, .int (x2)), (3, .int (x3)), (4, .int (x4)), (5, .int (x5))] [] M (PR (some (.int v9)) M) := by
  intro n
  induction n with
  | zero => intro x2 x3 x4 x5 H; exact absurd H (by simp [fX5_isChain_16L])
  | succ n ih => intro x2 x3 x4 x5 H; exact tX5_isChain_16  x2 x3 x4 x5 M hk5 (fun x2 x3 x4 x5 H => ih x2 x3 x4 x5 H) H
set_option maxRecDepth 100000 in
theorem tX5_isChain_5 {l : Launch} {E : Env5}   {k5 : Int32 → Int32 → Option Int32} (x2 : Int32) (x3 : Int32) (M : Mem) {v9 : Int32} (hk5 : ∀ (x2 : Int32) (x3 : Int32), k5 x2 x3 = some v9 → Z l E RX5 cX5_isChain 6 (some .boolean) 2 5 [(0, .ref (eA E (42))), (2, .int (x2)), (3, .int (x3))] [] M (PR (some (.int v9)) M)) (H : fX5_isChain_5B k5 x2 x3 M = some v9) : Z l E RX5 cX5_isChain 6 (some .boolean) 2 5 [(0, .ref (eA E (42))), (2, .int (x2)), (3, .int (x3))] [] M (PR (some (.int v9)) M) := by
  unfold fX5_isChain_5B at H
  refine Z.iload_n dX5_isChain_5 1 rfl ?_
  refine Z.if_eqH dX5_isChain_6 H (fun br6 H => ?_) (fun br6 H => ?_)
  · refine Z.iconst (v := 1) dX5_isChain_105 (by decide) ?_
    exact Z.zret rfl rfl dX5_isChain_106 (retR H)
  · refine Z.bipush (v := (-9)) dX5_isChain_9 (by decide) ?_
    refine Z.istore (lv' := [(4, .int ((-9))), (0, .ref (eA E (42))), (2, .int (x2)), (3, .int (x3))]) dX5_isChain_11 (by decide) rfl ?_
    refine Z.iconst (v := 0) dX5_isChain_13 (by decide) ?_
    refine Z.istore (lv' := [(5, .int (0)), (4, .int ((-9))), (0, .ref (eA E (42))), (2, .int (x2)), (3, .int (x3))]) dX5_isChain_14 (by decide) rfl ?_
    refine Z.sub [2, 3, 4, 1, 0] rfl ?_
    exact tX5_isChain_16L  M hk5 FU (x2) (x3) ((-9)) (0) H
theorem tX5_isChain_5L {l : Launch} {E : Env5}    (M : Mem) {v9 : Int32}  : ∀ (n : Nat) (x2 : Int32) (x3 : Int32), fX5_isChain_5L   M n x2 x3 = some v9 → Z l E RX5 cX5_isChain 6 (some .boolean) 2 5 [(0, .ref (eA E (42))), (2, .int (x2)), (3, .int (x3))] [] M (PR (some (.int v9)) M) := by
  intro n
  induction n with
  | zero => intro x2 x3 H; exact absurd H (by simp [fX5_isChain_5L])
  | succ n ih => intro x2 x3 H; exact tX5_isChain_5  x2 x3 M  (fun x2 x3 H => ih x2 x3 H) H
set_option maxRecDepth 100000 in
theorem tX5_isChain_0 {l : Launch} {E : Env5}    (x1 : Int32) (M : Mem) {v9 : Int32}  (H : fX5_isChain  x1 M = some v9) : Z l E RX5 cX5_isChain 6 (some .boolean) 2 0 [(0, .ref (eA E (42))), (1, .int (x1))] [] M (PR (some (.int v9)) M) := by
  unfold fX5_isChain at H
  refine Z.iload_n dX5_isChain_0 1 rfl ?_
  refine Z.istore_n (lv' := [(2, .int (x1)), (0, .ref (eA E (42))), (1, .int (x1))]) dX5_isChain_1 (by decide) rfl ?_
  refine Z.bipush (v := (-9)) dX5_isChain_2 (by decide) ?_
  refine Z.istore_n (lv' := [(3, .int ((-9))), (2, .int (x1)), (0, .ref (eA E (42))), (1, .int (x1))]) dX5_isChain_4 (by decide) rfl ?_
  refine Z.sub [2, 1, 0] rfl ?_
  exact tX5_isChain_5L  M  FU (x1) ((-9)) H
theorem kX5_isChain {l : Launch} {E : Env5}   (x1 : Int32) (M : Mem) {v9 : Int32} (H : fX5_isChain x1 M = some v9) : Cn l E yX5_isChain cX5_isChain 6 (some .boolean) 2 [.ref (eA E (42)), .int (x1)] M (PR (some (.int v9)) M) := Cn.ofZ rfl (Nat.le_of_ble_eq_true rfl) rfl (tX5_isChain_0  x1 M H)
theorem hdX5_isChain : yX5_isChain.cls ≠ "java/lang/invoke/MethodHandle" ∧ yX5_isChain.cls ≠ "java/lang/invoke/VarHandle" ∧ (parseMethodDescriptor yX5_isChain.desc).map (fun d => d.parameters.length) = some 1 := by decide +kernel

set_option maxRecDepth 100000 in
theorem tX5_joined_73 {l : Launch} {E : Env5}   {k13 : Int32 → Int32 → Mem → Option (Int32 × Mem)} {k28 : Int32 → Int32 → Int32 → Mem → Option (Int32 × Mem)} (x1 : Int32) (x2 : Int32) (x3 : Int32) (M : Mem) {v9 : Int32} {M9 : Mem} (hk13 : ∀ (x1 : Int32) (x2 : Int32) (M : Mem), k13 x1 x2 M = some (v9, M9) → Z l E RX5 cX5_joined 5 (some .int) 3 13 [(0, .ref (eA E (42))), (1, .int (x1)), (2, .int (x2))] [] M (PR (some (.int v9)) M9)) (hk28 : ∀ (x1 : Int32) (x2 : Int32) (x3 : Int32) (M : Mem), k28 x1 x2 x3 M = some (v9, M9) → Z l E RX5 cX5_joined 5 (some .int) 3 28 [(0, .ref (eA E (42))), (1, .int (x1)), (2, .int (x2)), (3, .int (x3))] [] M (PR (some (.int v9)) M9)) (H : fX5_joined_73 k13 k28 x1 x2 x3 M = some (v9, M9)) : Z l E RX5 cX5_joined 5 (some .int) 3 73 [(0, .ref (eA E (42))), (1, .int (x1)), (2, .int (x2)), (3, .int (x3))] [] M (PR (some (.int v9)) M9) := by
  unfold fX5_joined_73 at H
  refine Z.iload_n dX5_joined_73 3 rfl ?_
  refine Z.iconst (v := 1) dX5_joined_74 (by decide) ?_
  refine Z.isub dX5_joined_75 ?_
  refine Z.iload_n dX5_joined_76 2 rfl ?_
  refine Z.iand dX5_joined_77 ?_
  refine Z.istore_n (lv' := [(3, .int ((x3 - 1) &&& x2)), (0, .ref (eA E (42))), (1, .int (x1)), (2, .int (x2))]) dX5_joined_78 (by decide) rfl ?_
  refine Z.goto dX5_joined_79 ?_
  refine Z.sub [1, 2, 3, 0] rfl ?_
  exact hk28 (x1) (x2) ((x3 - 1) &&& x2) M  H
set_option maxRecDepth 100000 in
theorem tX5_joined_28 {l : Launch} {E : Env5}   {k13 : Int32 → Int32 → Mem → Option (Int32 × Mem)} {k28 : Int32 → Int32 → Int32 → Mem → Option (Int32 × Mem)} (x1 : Int32) (x2 : Int32) (x3 : Int32) (M : Mem) {v9 : Int32} {M9 : Mem} (hk13 : ∀ (x1 : Int32) (x2 : Int32) (M : Mem), k13 x1 x2 M = some (v9, M9) → Z l E RX5 cX5_joined 5 (some .int) 3 13 [(0, .ref (eA E (42))), (1, .int (x1)), (2, .int (x2))] [] M (PR (some (.int v9)) M9)) (hk28 : ∀ (x1 : Int32) (x2 : Int32) (x3 : Int32) (M : Mem), k28 x1 x2 x3 M = some (v9, M9) → Z l E RX5 cX5_joined 5 (some .int) 3 28 [(0, .ref (eA E (42))), (1, .int (x1)), (2, .int (x2)), (3, .int (x3))] [] M (PR (some (.int v9)) M9)) (H : fX5_joined_28B k13 k28 x1 x2 x3 M = some (v9, M9)) : Z l E RX5 cX5_joined 5 (some .int) 3 28 [(0, .ref (eA E (42))), (1, .int (x1)), (2, .int (x2)), (3, .int (x3))] [] M (PR (some (.int v9)) M9) := by
  unfold fX5_joined_28B at H
  refine Z.iload_n dX5_joined_28 3 rfl ?_
  refine Z.if_leH dX5_joined_29 H (fun br29 H => ?_) (fun br29 H => ?_)
  · refine Z.iinc (v := x2 + 1) (lv' := [(2, .int (x2 + 1)), (0, .ref (eA E (42))), (1, .int (x1)), (3, .int (x3))]) dX5_joined_82 2 rfl rfl (by decide) rfl ?_
    refine Z.goto dX5_joined_85 ?_
    refine Z.sub [1, 2, 0] rfl ?_
    exact hk13 (x1) (x2 + 1) M  H
  · refine Z.aload_n dX5_joined_32 0 rfl ?_
    refine Z.get dX5_joined_33 inX5 (hc := rfl) (by decide) c5 34 (by decide) kw713 rfl rfl ?_
    refine Z.iload_n dX5_joined_36 2 rfl ?_
    refine Z.iload_n dX5_joined_37 3 rfl ?_
    refine Z.iconst (v := (-1)) dX5_joined_38 (by decide) ?_
    refine Z.ixor dX5_joined_39 ?_
    refine Z.iand dX5_joined_40 ?_
    refine Z.ialdH dX5_joined_41 a5_fewest H (fun v1 H => ?_)
    refine Z.iconst (v := 1) dX5_joined_42 (by decide) ?_
    refine Z.iadd dX5_joined_43 ?_
    refine Z.istore (lv' := [(4, .int (v1 + 1)), (0, .ref (eA E (42))), (1, .int (x1)), (2, .int (x2)), (3, .int (x3))]) dX5_joined_44 (by decide) rfl ?_
    refine Z.iload dX5_joined_46 0 rfl ?_
    refine Z.aload_n dX5_joined_48 1 rfl ?_
    refine Z.get dX5_joined_49 inX5 (hc := rfl) (by decide) c5 34 (by decide) kw713 rfl rfl ?_
    refine Z.iload_n dX5_joined_52 3 rfl ?_
    refine Z.ialdH dX5_joined_53 a5_fewest H (fun v2 H => ?_)
    refine Z.icmp_geH dX5_joined_54 H (fun br54 H => ?_) (fun br54 H => ?_)
    · refine Z.sub [1, 2, 3, 4] rfl ?_
      exact tX5_joined_73  (x1) (x2) (x3) M hk13 hk28 H
    · refine Z.aload_n dX5_joined_57 1 rfl ?_
      refine Z.iload_n dX5_joined_58 4 rfl ?_
      refine bindC H (fun v3 hv3 H => ?_)
      refine Z.callV (As := [.int (x3)]) (rest := []) (st' := [.int (v3)]) dX5_joined_59 (kX5_isChain  (x3) M hv3) kw958 kw960 ks53 kw7 kw961 hdX5_isChain (by decide) c5 (hc := rfl) (by decide) (by decide) rfl rfl (Nat.le_of_ble_eq_true rfl) rfl ?_
      refine Z.if_eqH dX5_joined_62 H (fun br62 H => ?_) (fun br62 H => ?_)
      · refine Z.sub [1, 2, 3, 4] rfl ?_
        exact tX5_joined_73  (x1) (x2) (x3) M hk13 hk28 H
      · refine Z.aload_n dX5_joined_65 1 rfl ?_
        refine Z.get dX5_joined_66 inX5 (hc := rfl) (by decide) c5 34 (by decide) kw713 rfl rfl ?_
        refine Z.iload_n dX5_joined_69 3 rfl ?_
        refine Z.iload dX5_joined_70 0 rfl ?_
        refine Z.iastH dX5_joined_72 a5_fewest H (fun M4 H => ?_)
        refine Z.sub [1, 2, 3, 4] rfl ?_
        exact tX5_joined_73  (x1) (x2) (x3) M4 hk13 hk28 H
theorem tX5_joined_28L {l : Launch} {E : Env5}   {k13 : Int32 → Int32 → Mem → Option (Int32 × Mem)}  {v9 : Int32} {M9 : Mem} (hk13 : ∀ (x1 : Int32) (x2 : Int32) (M : Mem), k13 x1 x2 M = some (v9, M9) → Z l E RX5 cX5_joined 5 (some .int) 3 13 [(0, .ref (eA E (42))), (1, .int (x1)), (2, .int (x2))] [] M (PR (some (.int v9)) M9)) : ∀ (n : Nat) (x1 : Int32) (x2 : Int32) (x3 : Int32) (M : Mem), fX5_joined_28L k13  n x1 x2 x3 M = some (v9, M9) → Z l E RX5 cX5_joined 5 (some .int) 3 28 [(0, .ref (eA E (42))), (1, .int (x1)), (2, .int (x2)), (3, .int (x3))] [] M (PR (some (.int v9)) M9) := by
  intro n
  induction n with
  | zero => intro x1 x2 x3 M H; exact absurd H (by simp [fX5_joined_28L])
  | succ n ih => intro x1 x2 x3 M H; exact tX5_joined_28  x1 x2 x3 M hk13 (fun x1 x2 x3 M H => ih x1 x2 x3 M H) H
set_option maxRecDepth 100000 in
theorem tX5_joined_13 {l : Launch} {E : Env5}   {k13 : Int32 → Int32 → Mem → Option (Int32 × Mem)} (x1 : Int32) (x2 : Int32) (M : Mem) {v9 : Int32} {M9 : Mem} (hk13 : ∀ (x1 : Int32) (x2 : Int32) (M : Mem), k13 x1 x2 M = some (v9, M9) → Z l E RX5 cX5_joined 5 (some .int) 3 13 [(0, .ref (eA E (42))), (1, .int (x1)), (2, .int (x2))] [] M (PR (some (.int v9)) M9)) (H : fX5_joined_13B k13 x1 x2 M = some (v9, M9)) : Z l E RX5 cX5_joined 5 (some .int) 3 13 [(0, .ref (eA E (42))), (1, .int (x1)), (2, .int (x2))] [] M (PR (some (.int v9)) M9) := by
  unfold fX5_joined_13B at H
  refine Z.iload_n dX5_joined_13 2 rfl ?_
  refine Z.iload_n dX5_joined_14 1 rfl ?_
  refine Z.icmp_gtH dX5_joined_15 H (fun br15 H => ?_) (fun br15 H => ?_)
  · refine Z.aload_n dX5_joined_88 0 rfl ?_
    refine Z.get dX5_joined_89 inX5 (hc := rfl) (by decide) c5 34 (by decide) kw713 rfl rfl ?_
    refine Z.iload_n dX5_joined_92 1 rfl ?_
    refine Z.ialdH dX5_joined_93 a5_fewest H (fun v1 H => ?_)
    exact Z.iret rfl dX5_joined_94 (retW H)
  · refine Z.aload_n dX5_joined_18 0 rfl ?_
    refine Z.get dX5_joined_19 inX5 (hc := rfl) (by decide) c5 34 (by decide) kw713 rfl rfl ?_
    refine Z.iload_n dX5_joined_22 2 rfl ?_
    refine Z.bipush (v := 99) dX5_joined_23 (by decide) ?_
    refine Z.iastH dX5_joined_25 a5_fewest H (fun M2 H => ?_)
    refine Z.iload_n dX5_joined_26 2 rfl ?_
    refine Z.istore_n (lv' := [(3, .int (x2)), (0, .ref (eA E (42))), (1, .int (x1)), (2, .int (x2))]) dX5_joined_27 (by decide) rfl ?_
    refine Z.sub [1, 2, 3, 0] rfl ?_
    exact tX5_joined_28L  hk13 FU (x1) (x2) (x2) M2 H
theorem tX5_joined_13L {l : Launch} {E : Env5}     {v9 : Int32} {M9 : Mem}  : ∀ (n : Nat) (x1 : Int32) (x2 : Int32) (M : Mem), fX5_joined_13L   n x1 x2 M = some (v9, M9) → Z l E RX5 cX5_joined 5 (some .int) 3 13 [(0, .ref (eA E (42))), (1, .int (x1)), (2, .int (x2))] [] M (PR (some (.int v9)) M9) := by
  intro n
  induction n with
  | zero => intro x1 x2 M H; exact absurd H (by simp [fX5_joined_13L])
  | succ n ih => intro x1 x2 M H; exact tX5_joined_13  x1 x2 M  (fun x1 x2 M H => ih x1 x2 M H) H
set_option maxRecDepth 100000 in
theorem tX5_joined_0 {l : Launch} {E : Env5}     (M : Mem) {v9 : Int32} {M9 : Mem}  (H : fX5_joined   M = some (v9, M9)) : Z l E RX5 cX5_joined 5 (some .int) 3 0 [(0, .ref (eA E (42)))] [] M (PR (some (.int v9)) M9) := by
  unfold fX5_joined at H
  refine Z.iconst (v := 1) dX5_joined_0 (by decide) ?_
  refine Z.aload_n dX5_joined_1 0 rfl ?_
  refine Z.get dX5_joined_2 inX5 (hc := rfl) (by decide) c5 25 (by decide) kw704 rfl rfl ?_
  refine Z.iconst (v := 0) dX5_joined_5 (by decide) ?_
  refine Z.ialdH dX5_joined_6 a5_seen H (fun v1 H => ?_)
  refine Z.ishl dX5_joined_7 ?_
  refine Z.iconst (v := 1) dX5_joined_8 (by decide) ?_
  refine Z.isub dX5_joined_9 ?_
  refine Z.istore_n (lv' := [(1, .int ((1 <<< (v1 &&& 31)) - 1)), (0, .ref (eA E (42)))]) dX5_joined_10 (by decide) rfl ?_
  refine Z.iconst (v := 1) dX5_joined_11 (by decide) ?_
  refine Z.istore_n (lv' := [(2, .int (1)), (1, .int ((1 <<< (v1 &&& 31)) - 1)), (0, .ref (eA E (42)))]) dX5_joined_12 (by decide) rfl ?_
  refine Z.sub [2, 1, 0] rfl ?_
  exact tX5_joined_13L   FU ((1 <<< (v1 &&& 31)) - 1) (1) M H
theorem kX5_joined {l : Launch} {E : Env5}    (M : Mem) {v9 : Int32} {M9 : Mem} (H : fX5_joined  M = some (v9, M9)) : Cn l E yX5_joined cX5_joined 5 (some .int) 3 [.ref (eA E (42))] M (PR (some (.int v9)) M9) := Cn.ofZ rfl (Nat.le_of_ble_eq_true rfl) rfl (tX5_joined_0   M H)
theorem hdX5_joined : yX5_joined.cls ≠ "java/lang/invoke/MethodHandle" ∧ yX5_joined.cls ≠ "java/lang/invoke/VarHandle" ∧ (parseMethodDescriptor yX5_joined.desc).map (fun d => d.parameters.length) = some 0 := by decide +kernel

set_option maxRecDepth 100000 in
theorem tX5_forget_0 {l : Launch} {E : Env5}     (M : Mem) {v9 : Int32} {M9 : Mem}  (H : fX5_forget   M = some (v9, M9)) : Z l E RX5 cX5_forget 2 (some .int) 0 0 [(0, .ref (eA E (42)))] [] M (PR (some (.int v9)) M9) := by
  unfold fX5_forget at H
  refine Z.aload_n dX5_forget_0 0 rfl ?_
  refine Z.get dX5_forget_1 inX5 (hc := rfl) (by decide) c5 20 (by decide) kw699 rfl rfl ?_
  refine Z.iconst (v := 0) dX5_forget_4 (by decide) ?_
  refine Z.ialdH dX5_forget_5 a5_facts H (fun v1 H => ?_)
  refine Z.aload_n dX5_forget_6 0 rfl ?_
  refine Z.get dX5_forget_7 inX5 (hc := rfl) (by decide) c5 25 (by decide) kw704 rfl rfl ?_
  refine Z.iconst (v := 0) dX5_forget_10 (by decide) ?_
  refine Z.ialdH dX5_forget_11 a5_seen H (fun v2 H => ?_)
  refine Z.iadd dX5_forget_12 ?_
  refine Z.istore_n (lv' := [(1, .int (v1 + v2)), (0, .ref (eA E (42)))]) dX5_forget_13 (by decide) rfl ?_
  refine Z.aload_n dX5_forget_14 1 rfl ?_
  refine Z.get dX5_forget_15 inX5 (hc := rfl) (by decide) c5 20 (by decide) kw699 rfl rfl ?_
  refine Z.iconst (v := 0) dX5_forget_18 (by decide) ?_
  refine Z.iconst (v := 0) dX5_forget_19 (by decide) ?_
  refine Z.iastH dX5_forget_20 a5_facts H (fun M3 H => ?_)
  refine Z.aload_n dX5_forget_21 1 rfl ?_
  refine Z.get dX5_forget_22 inX5 (hc := rfl) (by decide) c5 25 (by decide) kw704 rfl rfl ?_
  refine Z.iconst (v := 0) dX5_forget_25 (by decide) ?_
  refine Z.iconst (v := 0) dX5_forget_26 (by decide) ?_
  refine Z.iastH dX5_forget_27 a5_seen H (fun M4 H => ?_)
  refine Z.iload_n dX5_forget_28 0 rfl ?_
  exact Z.iret rfl dX5_forget_29 (retW H)
theorem kX5_forget {l : Launch} {E : Env5}    (M : Mem) {v9 : Int32} {M9 : Mem} (H : fX5_forget  M = some (v9, M9)) : Cn l E yX5_forget cX5_forget 2 (some .int) 0 [.ref (eA E (42))] M (PR (some (.int v9)) M9) := Cn.ofZ rfl (Nat.le_of_ble_eq_true rfl) rfl (tX5_forget_0   M H)
theorem hdX5_forget : yX5_forget.cls ≠ "java/lang/invoke/MethodHandle" ∧ yX5_forget.cls ≠ "java/lang/invoke/VarHandle" ∧ (parseMethodDescriptor yX5_forget.desc).map (fun d => d.parameters.length) = some 0 := by decide +kernel

set_option maxRecDepth 100000 in
theorem tX5_bitsIn_4 {l : Launch} {E : Env5}   {k4 : Int32 → Int32 → Int32 → Option Int32} (x0 : Int32) (x1 : Int32) (x2 : Int32) (M : Mem) {v9 : Int32} (hk4 : ∀ (x0 : Int32) (x1 : Int32) (x2 : Int32), k4 x0 x1 x2 = some v9 → Z l E RX5 cX5_bitsIn 3 (some .int) 0 4 [(0, .int (x0)), (1, .int (x1)), (2, .int (x2))] [] M (PR (some (.int v9)) M)) (H : fX5_bitsIn_4B k4 x0 x1 x2 = some v9) : Z l E RX5 cX5_bitsIn 3 (some .int) 0 4 [(0, .int (x0)), (1, .int (x1)), (2, .int (x2))] [] M (PR (some (.int v9)) M) := by
  unfold fX5_bitsIn_4B at H
  refine Z.iload_n dX5_bitsIn_4 2 rfl ?_
  refine Z.bipush (v := 10) dX5_bitsIn_5 (by decide) ?_
  refine Z.icmp_geH dX5_bitsIn_7 H (fun br7 H => ?_) (fun br7 H => ?_)
  · refine Z.iload_n dX5_bitsIn_24 1 rfl ?_
    exact Z.iret rfl dX5_bitsIn_25 (retR H)
  · refine Z.iload_n dX5_bitsIn_10 1 rfl ?_
    refine Z.iload_n dX5_bitsIn_11 0 rfl ?_
    refine Z.iload_n dX5_bitsIn_12 2 rfl ?_
    refine Z.ishr dX5_bitsIn_13 ?_
    refine Z.iconst (v := 1) dX5_bitsIn_14 (by decide) ?_
    refine Z.iand dX5_bitsIn_15 ?_
    refine Z.iadd dX5_bitsIn_16 ?_
    refine Z.istore_n (lv' := [(1, .int (x1 + ((x0 >>> (x2 &&& 31)) &&& 1))), (0, .int (x0)), (2, .int (x2))]) dX5_bitsIn_17 (by decide) rfl ?_
    refine Z.iinc (v := x2 + 1) (lv' := [(2, .int (x2 + 1)), (1, .int (x1 + ((x0 >>> (x2 &&& 31)) &&& 1))), (0, .int (x0))]) dX5_bitsIn_18 2 rfl rfl (by decide) rfl ?_
    refine Z.goto dX5_bitsIn_21 ?_
    refine Z.sub [2, 1, 0] rfl ?_
    exact hk4 (x0) (x1 + ((x0 >>> (x2 &&& 31)) &&& 1)) (x2 + 1) H
theorem tX5_bitsIn_4L {l : Launch} {E : Env5}    (M : Mem) {v9 : Int32}  : ∀ (n : Nat) (x0 : Int32) (x1 : Int32) (x2 : Int32), fX5_bitsIn_4L   n x0 x1 x2 = some v9 → Z l E RX5 cX5_bitsIn 3 (some .int) 0 4 [(0, .int (x0)), (1, .int (x1)), (2, .int (x2))] [] M (PR (some (.int v9)) M) := by
  intro n
  induction n with
  | zero => intro x0 x1 x2 H; exact absurd H (by simp [fX5_bitsIn_4L])
  | succ n ih => intro x0 x1 x2 H; exact tX5_bitsIn_4  x0 x1 x2 M  (fun x0 x1 x2 H => ih x0 x1 x2 H) H
set_option maxRecDepth 100000 in
theorem tX5_bitsIn_0 {l : Launch} {E : Env5}    (x0 : Int32) (M : Mem) {v9 : Int32}  (H : fX5_bitsIn  x0 = some v9) : Z l E RX5 cX5_bitsIn 3 (some .int) 0 0 [(0, .int (x0))] [] M (PR (some (.int v9)) M) := by
  unfold fX5_bitsIn at H
  refine Z.iconst (v := 0) dX5_bitsIn_0 (by decide) ?_
  refine Z.istore_n (lv' := [(1, .int (0)), (0, .int (x0))]) dX5_bitsIn_1 (by decide) rfl ?_
  refine Z.iconst (v := 0) dX5_bitsIn_2 (by decide) ?_
  refine Z.istore_n (lv' := [(2, .int (0)), (1, .int (0)), (0, .int (x0))]) dX5_bitsIn_3 (by decide) rfl ?_
  refine Z.sub [2, 1, 0] rfl ?_
  exact tX5_bitsIn_4L  M  FU (x0) (0) (0) H
theorem kX5_bitsIn {l : Launch} {E : Env5}   (x0 : Int32) (M : Mem) {v9 : Int32} (H : fX5_bitsIn x0 = some v9) : Cn l E yX5_bitsIn cX5_bitsIn 3 (some .int) 0 [.int (x0)] M (PR (some (.int v9)) M) := Cn.ofZ rfl (Nat.le_of_ble_eq_true rfl) rfl (tX5_bitsIn_0  x0 M H)
theorem hdX5_bitsIn : yX5_bitsIn.cls ≠ "java/lang/invoke/MethodHandle" ∧ yX5_bitsIn.cls ≠ "java/lang/invoke/VarHandle" ∧ (parseMethodDescriptor yX5_bitsIn.desc).map (fun d => d.parameters.length) = some 1 := by decide +kernel

set_option maxRecDepth 100000 in
theorem tX5_common_4 {l : Launch} {E : Env5}   {k4 : Int32 → Int32 → Option Int32} (x2 : Int32) (x3 : Int32) (M : Mem) {v9 : Int32} (hk4 : ∀ (x2 : Int32) (x3 : Int32), k4 x2 x3 = some v9 → Z l E RX5 cX5_common 5 (some .int) 0 4 [(2, .int (x2)), (3, .int (x3))] [] M (PR (some (.int v9)) M)) (H : fX5_common_4B k4 x2 x3 = some v9) : Z l E RX5 cX5_common 5 (some .int) 0 4 [(2, .int (x2)), (3, .int (x3))] [] M (PR (some (.int v9)) M) := by
  unfold fX5_common_4B at H
  refine Z.iload_n dX5_common_4 1 rfl ?_
  refine Z.if_eqH dX5_common_5 H (fun br5 H => ?_) (fun br5 H => ?_)
  · refine Z.iload_n dX5_common_21 0 rfl ?_
    exact Z.iret rfl dX5_common_22 (retR H)
  · refine Z.iload_n dX5_common_8 0 rfl ?_
    refine Z.iload_n dX5_common_9 1 rfl ?_
    refine Z.iremH dX5_common_10 H (fun v1 H => ?_)
    refine Z.istore (lv' := [(4, .int (v1)), (2, .int (x2)), (3, .int (x3))]) dX5_common_11 (by decide) rfl ?_
    refine Z.iload_n dX5_common_13 2 rfl ?_
    refine Z.istore_n (lv' := [(2, .int (x3)), (4, .int (v1)), (3, .int (x3))]) dX5_common_14 (by decide) rfl ?_
    refine Z.iload dX5_common_15 1 rfl ?_
    refine Z.istore_n (lv' := [(3, .int (v1)), (2, .int (x3)), (4, .int (v1))]) dX5_common_17 (by decide) rfl ?_
    refine Z.goto dX5_common_18 ?_
    refine Z.sub [1, 0] rfl ?_
    exact hk4 (x3) (v1) H
theorem tX5_common_4L {l : Launch} {E : Env5}    (M : Mem) {v9 : Int32}  : ∀ (n : Nat) (x2 : Int32) (x3 : Int32), fX5_common_4L   n x2 x3 = some v9 → Z l E RX5 cX5_common 5 (some .int) 0 4 [(2, .int (x2)), (3, .int (x3))] [] M (PR (some (.int v9)) M) := by
  intro n
  induction n with
  | zero => intro x2 x3 H; exact absurd H (by simp [fX5_common_4L])
  | succ n ih => intro x2 x3 H; exact tX5_common_4  x2 x3 M  (fun x2 x3 H => ih x2 x3 H) H
set_option maxRecDepth 100000 in
theorem tX5_common_0 {l : Launch} {E : Env5}    (x0 : Int32) (x1 : Int32) (M : Mem) {v9 : Int32}  (H : fX5_common  x0 x1 = some v9) : Z l E RX5 cX5_common 5 (some .int) 0 0 [(0, .int (x0)), (1, .int (x1))] [] M (PR (some (.int v9)) M) := by
  unfold fX5_common at H
  refine Z.iload_n dX5_common_0 0 rfl ?_
  refine Z.istore_n (lv' := [(2, .int (x0)), (0, .int (x0)), (1, .int (x1))]) dX5_common_1 (by decide) rfl ?_
  refine Z.iload_n dX5_common_2 2 rfl ?_
  refine Z.istore_n (lv' := [(3, .int (x1)), (2, .int (x0)), (0, .int (x0)), (1, .int (x1))]) dX5_common_3 (by decide) rfl ?_
  refine Z.sub [1, 0] rfl ?_
  exact tX5_common_4L  M  FU (x0) (x1) H
theorem kX5_common {l : Launch} {E : Env5}   (x0 : Int32) (x1 : Int32) (M : Mem) {v9 : Int32} (H : fX5_common x0 x1 = some v9) : Cn l E yX5_common cX5_common 5 (some .int) 0 [.int (x0), .int (x1)] M (PR (some (.int v9)) M) := Cn.ofZ rfl (Nat.le_of_ble_eq_true rfl) rfl (tX5_common_0  x0 x1 M H)
theorem hdX5_common : yX5_common.cls ≠ "java/lang/invoke/MethodHandle" ∧ yX5_common.cls ≠ "java/lang/invoke/VarHandle" ∧ (parseMethodDescriptor yX5_common.desc).map (fun d => d.parameters.length) = some 2 := by decide +kernel

set_option maxRecDepth 100000 in
theorem tX5_all_0 {l : Launch} {E : Env5}    (x1 : Int32) (x2 : Int32) (x3 : Int32) (M : Mem) {v9 : Int32} {M9 : Mem}  (H : fX5_all  x1 x2 x3 M = some (v9, M9)) : Z l E RX5 cX5_all 9 (some .int) 8 0 [(0, .ref (eA E (42))), (1, .int (x1)), (2, .int (x2)), (3, .int (x3))] [] M (PR (some (.int v9)) M9) := by
  unfold fX5_all at H
  refine Z.aload_n dX5_all_0 0 rfl ?_
  refine Z.iload_n dX5_all_1 1 rfl ?_
  refine bindC H (fun v1 hv1 H => ?_)
  refine Z.callV (As := [.int (x1)]) (rest := []) (st' := [.int (v1)]) dX5_all_2 (kX5_isPicture  (x1) M hv1) kw858 kw860 ks40 kw7 kw861 hdX5_isPicture (by decide) c5 (hc := rfl) (by decide) (by decide) rfl rfl (Nat.le_of_ble_eq_true rfl) rfl ?_
  refine Z.if_eqH dX5_all_5 H (fun br5 H => ?_) (fun br5 H => ?_)
  · refine Z.iconst (v := (-1)) dX5_all_30 (by decide) ?_
    exact Z.iret rfl dX5_all_31 (retW H)
  · refine Z.aload_n dX5_all_8 0 rfl ?_
    refine Z.iload_n dX5_all_9 2 rfl ?_
    refine bindC H (fun v2 hv2 H => ?_)
    refine Z.callV (As := [.int (x2)]) (rest := []) (st' := [.int (v2)]) dX5_all_10 (kX5_isPicture  (x2) M hv2) kw858 kw860 ks40 kw7 kw861 hdX5_isPicture (by decide) c5 (hc := rfl) (by decide) (by decide) rfl rfl (Nat.le_of_ble_eq_true rfl) rfl ?_
    refine Z.if_eqH dX5_all_13 H (fun br13 H => ?_) (fun br13 H => ?_)
    · refine Z.iconst (v := (-1)) dX5_all_30 (by decide) ?_
      exact Z.iret rfl dX5_all_31 (retW H)
    · refine Z.iload_n dX5_all_16 1 rfl ?_
      refine Z.iload_n dX5_all_17 2 rfl ?_
      refine Z.icmp_eqH dX5_all_18 H (fun br18 H => ?_) (fun br18 H => ?_)
      · refine Z.iconst (v := (-1)) dX5_all_30 (by decide) ?_
        exact Z.iret rfl dX5_all_31 (retW H)
      · refine Z.iload_n dX5_all_21 3 rfl ?_
        refine Z.iconst (v := 0) dX5_all_22 (by decide) ?_
        refine Z.iconst (v := 1) dX5_all_23 (by decide) ?_
        refine bindC H (fun v3 hv3 H => ?_)
        refine Z.callS (As := [.int (x3), .int (0), .int (1)]) (rest := []) (st' := [.int (v3)]) dX5_all_24 (kX5_in  (x3) (0) (1) M hv3) kw798 kw799 kw7 kw800 hdX5_in (by decide) (by decide) rfl rfl (Nat.le_of_ble_eq_true rfl) rfl ?_
        refine Z.if_neH dX5_all_27 H (fun br27 H => ?_) (fun br27 H => ?_)
        · refine Z.aload_n dX5_all_32 0 rfl ?_
          refine Z.iload_n dX5_all_33 1 rfl ?_
          refine bindC H (fun v4 hv4 H => ?_)
          refine Z.callV (As := [.int (x1)]) (rest := []) (st' := [.int (v4.1)]) dX5_all_34 (kX5_showsOf  (x1) M hv4) kw888 kw890 ks43 kw7 kw891 hdX5_showsOf (by decide) c5 (hc := rfl) (by decide) (by decide) rfl rfl (Nat.le_of_ble_eq_true rfl) rfl ?_
          refine Z.istore (lv' := [(4, .int (v4.1)), (0, .ref (eA E (42))), (1, .int (x1)), (2, .int (x2)), (3, .int (x3))]) dX5_all_37 (by decide) rfl ?_
          refine Z.aload_n dX5_all_39 1 rfl ?_
          refine Z.iload_n dX5_all_40 3 rfl ?_
          refine bindC H (fun v5 hv5 H => ?_)
          refine Z.callV (As := [.int (x2)]) (rest := []) (st' := [.int (v5.1)]) dX5_all_41 (kX5_showsOf  (x2) v4.2 hv5) kw888 kw890 ks43 kw7 kw891 hdX5_showsOf (by decide) c5 (hc := rfl) (by decide) (by decide) rfl rfl (Nat.le_of_ble_eq_true rfl) rfl ?_
          refine Z.istore (lv' := [(5, .int (v5.1)), (4, .int (v4.1)), (0, .ref (eA E (42))), (1, .int (x1)), (2, .int (x2)), (3, .int (x3))]) dX5_all_44 (by decide) rfl ?_
          refine Z.iload dX5_all_46 1 rfl ?_
          refine Z.iload dX5_all_48 0 rfl ?_
          refine Z.iand dX5_all_50 ?_
          refine bindC H (fun v6 hv6 H => ?_)
          refine Z.callS (As := [.int (v4.1 &&& v5.1)]) (rest := []) (st' := [.int (v6)]) dX5_all_51 (kX5_bitsIn  (v4.1 &&& v5.1) v5.2 hv6) kw977 kw978 kw7 kw979 hdX5_bitsIn (by decide) (by decide) rfl rfl (Nat.le_of_ble_eq_true rfl) rfl ?_
          refine Z.istore (lv' := [(6, .int (v6)), (5, .int (v5.1)), (4, .int (v4.1)), (0, .ref (eA E (42))), (1, .int (x1)), (2, .int (x2)), (3, .int (x3))]) dX5_all_54 (by decide) rfl ?_
          refine Z.iload dX5_all_56 0 rfl ?_
          refine Z.if_neH dX5_all_58 H (fun br58 H => ?_) (fun br58 H => ?_)
          · refine Z.iload dX5_all_64 2 rfl ?_
            refine bindC H (fun v7 hv7 H => ?_)
            refine Z.callS (As := [.int (v4.1)]) (rest := []) (st' := [.int (v7)]) dX5_all_66 (kX5_bitsIn  (v4.1) v5.2 hv7) kw977 kw978 kw7 kw979 hdX5_bitsIn (by decide) (by decide) rfl rfl (Nat.le_of_ble_eq_true rfl) rfl ?_
            refine Z.iload dX5_all_69 1 rfl ?_
            refine bindC H (fun v8 hv8 H => ?_)
            refine Z.callS (As := [.int (v5.1)]) (rest := [.int (v7)]) (st' := [.int (v8), .int (v7)]) dX5_all_71 (kX5_bitsIn  (v5.1) v5.2 hv8) kw977 kw978 kw7 kw979 hdX5_bitsIn (by decide) (by decide) rfl rfl (Nat.le_of_ble_eq_true rfl) rfl ?_
            refine Z.imul dX5_all_74 ?_
            refine Z.istore (lv' := [(7, .int (v7 * v8)), (6, .int (v6)), (5, .int (v5.1)), (4, .int (v4.1)), (0, .ref (eA E (42))), (1, .int (x1)), (2, .int (x2)), (3, .int (x3))]) dX5_all_75 (by decide) rfl ?_
            refine Z.iload dX5_all_77 0 rfl ?_
            refine Z.iload dX5_all_79 1 rfl ?_
            refine bindC H (fun v9 hv9 H => ?_)
            refine Z.callS (As := [.int (v7 * v8), .int (v6)]) (rest := []) (st' := [.int (v9)]) dX5_all_81 (kX5_common  (v7 * v8) (v6) v5.2 hv9) kw980 kw981 kw7 kw982 hdX5_common (by decide) (by decide) rfl rfl (Nat.le_of_ble_eq_true rfl) rfl ?_
            refine Z.istore (lv' := [(8, .int (v9)), (7, .int (v7 * v8)), (6, .int (v6)), (5, .int (v5.1)), (4, .int (v4.1)), (0, .ref (eA E (42))), (1, .int (x1)), (2, .int (x2)), (3, .int (x3))]) dX5_all_84 (by decide) rfl ?_
            refine Z.iload_n dX5_all_86 8 rfl ?_
            refine Z.if_neH dX5_all_87 H (fun br87 H => ?_) (fun br87 H => ?_)
            · refine Z.iload dX5_all_98 2 rfl ?_
              refine Z.iload dX5_all_100 0 rfl ?_
              refine Z.idivH dX5_all_102 H (fun v10 H => ?_)
              exact Z.iret rfl dX5_all_103 (retW H)
            · refine Z.iload dX5_all_90 1 rfl ?_
              refine Z.iload dX5_all_92 0 rfl ?_
              refine Z.idivH dX5_all_94 H (fun v11 H => ?_)
              refine Z.goto dX5_all_95 ?_
              exact Z.iret rfl dX5_all_103 (retW H)
          · refine Z.bipush (v := (-2)) dX5_all_61 (by decide) ?_
            exact Z.iret rfl dX5_all_63 (retW H)
        · refine Z.iconst (v := (-1)) dX5_all_30 (by decide) ?_
          exact Z.iret rfl dX5_all_31 (retW H)
theorem kX5_all {l : Launch} {E : Env5}   (x1 : Int32) (x2 : Int32) (x3 : Int32) (M : Mem) {v9 : Int32} {M9 : Mem} (H : fX5_all x1 x2 x3 M = some (v9, M9)) : Cn l E yX5_all cX5_all 9 (some .int) 8 [.ref (eA E (42)), .int (x1), .int (x2), .int (x3)] M (PR (some (.int v9)) M9) := Cn.ofZ rfl (Nat.le_of_ble_eq_true rfl) rfl (tX5_all_0  x1 x2 x3 M H)
theorem hdX5_all : yX5_all.cls ≠ "java/lang/invoke/MethodHandle" ∧ yX5_all.cls ≠ "java/lang/invoke/VarHandle" ∧ (parseMethodDescriptor yX5_all.desc).map (fun d => d.parameters.length) = some 3 := by decide +kernel

set_option maxRecDepth 100000 in
theorem tX5_has_0 {l : Launch} {E : Env5}    (x1 : Int32) (x2 : Int32) (M : Mem) {v9 : Int32} {M9 : Mem}  (H : fX5_has  x1 x2 M = some (v9, M9)) : Z l E RX5 cX5_has 4 (some .int) 2 0 [(0, .ref (eA E (42))), (1, .int (x1)), (2, .int (x2))] [] M (PR (some (.int v9)) M9) := by
  unfold fX5_has at H
  refine Z.aload_n dX5_has_0 0 rfl ?_
  refine Z.iload_n dX5_has_1 1 rfl ?_
  refine bindC H (fun v1 hv1 H => ?_)
  refine Z.callV (As := [.int (x1)]) (rest := []) (st' := [.int (v1)]) dX5_has_2 (kX5_isPicture  (x1) M hv1) kw858 kw860 ks40 kw7 kw861 hdX5_isPicture (by decide) c5 (hc := rfl) (by decide) (by decide) rfl rfl (Nat.le_of_ble_eq_true rfl) rfl ?_
  refine Z.if_eqH dX5_has_5 H (fun br5 H => ?_) (fun br5 H => ?_)
  · refine Z.iconst (v := (-1)) dX5_has_17 (by decide) ?_
    exact Z.iret rfl dX5_has_18 (retW H)
  · refine Z.iload_n dX5_has_8 2 rfl ?_
    refine Z.iconst (v := 0) dX5_has_9 (by decide) ?_
    refine Z.iconst (v := 2) dX5_has_10 (by decide) ?_
    refine bindC H (fun v2 hv2 H => ?_)
    refine Z.callS (As := [.int (x2), .int (0), .int (2)]) (rest := []) (st' := [.int (v2)]) dX5_has_11 (kX5_in  (x2) (0) (2) M hv2) kw798 kw799 kw7 kw800 hdX5_in (by decide) (by decide) rfl rfl (Nat.le_of_ble_eq_true rfl) rfl ?_
    refine Z.if_neH dX5_has_14 H (fun br14 H => ?_) (fun br14 H => ?_)
    · refine Z.aload_n dX5_has_19 0 rfl ?_
      refine Z.get dX5_has_20 inX5 (hc := rfl) (by decide) c5 30 (by decide) kw709 rfl rfl ?_
      refine Z.iload_n dX5_has_23 1 rfl ?_
      refine Z.ialdH dX5_has_24 a5_hats H (fun v3 H => ?_)
      refine Z.istore_n (lv' := [(3, .int (v3)), (0, .ref (eA E (42))), (1, .int (x1)), (2, .int (x2))]) dX5_has_25 (by decide) rfl ?_
      refine Z.aload_n dX5_has_26 1 rfl ?_
      refine Z.get dX5_has_27 inX5 (hc := rfl) (by decide) c5 30 (by decide) kw709 rfl rfl ?_
      refine Z.iload_n dX5_has_30 2 rfl ?_
      refine Z.iload_n dX5_has_31 3 rfl ?_
      refine Z.iastH dX5_has_32 a5_hats H (fun M4 H => ?_)
      refine Z.iload_n dX5_has_33 0 rfl ?_
      exact Z.iret rfl dX5_has_34 (retW H)
    · refine Z.iconst (v := (-1)) dX5_has_17 (by decide) ?_
      exact Z.iret rfl dX5_has_18 (retW H)
theorem kX5_has {l : Launch} {E : Env5}   (x1 : Int32) (x2 : Int32) (M : Mem) {v9 : Int32} {M9 : Mem} (H : fX5_has x1 x2 M = some (v9, M9)) : Cn l E yX5_has cX5_has 4 (some .int) 2 [.ref (eA E (42)), .int (x1), .int (x2)] M (PR (some (.int v9)) M9) := Cn.ofZ rfl (Nat.le_of_ble_eq_true rfl) rfl (tX5_has_0  x1 x2 M H)
theorem hdX5_has : yX5_has.cls ≠ "java/lang/invoke/MethodHandle" ∧ yX5_has.cls ≠ "java/lang/invoke/VarHandle" ∧ (parseMethodDescriptor yX5_has.desc).map (fun d => d.parameters.length) = some 2 := by decide +kernel

set_option maxRecDepth 100000 in
theorem tX5_withNow_53 {l : Launch} {E : Env5}   {k5 : Int32 → Int32 → Option Int32} (x2 : Int32) (s0 : Int32) (M : Mem) {v9 : Int32} (hk5 : ∀ (x1 : Int32) (x2 : Int32), k5 x1 x2 = some v9 → Z l E RX5 cX5_withNow 3 (some .int) 0 5 [(0, .ref (eA E (42))), (1, .int (x1)), (2, .int (x2))] [] M (PR (some (.int v9)) M)) (H : fX5_withNow_53 k5 x2 s0 M = some v9) : Z l E RX5 cX5_withNow 3 (some .int) 0 53 [(0, .ref (eA E (42))), (2, .int (x2))] [.int (s0)] M (PR (some (.int v9)) M) := by
  unfold fX5_withNow_53 at H
  refine Z.istore_n (lv' := [(1, .int (s0)), (0, .ref (eA E (42))), (2, .int (x2))]) dX5_withNow_53 (by decide) rfl ?_
  refine Z.iinc (v := x2 + 1) (lv' := [(2, .int (x2 + 1)), (1, .int (s0)), (0, .ref (eA E (42)))]) dX5_withNow_54 2 rfl rfl (by decide) rfl ?_
  refine Z.goto dX5_withNow_57 ?_
  refine Z.sub [2, 1, 0] rfl ?_
  exact hk5 (s0) (x2 + 1) H
set_option maxRecDepth 100000 in
theorem tX5_withNow_52 {l : Launch} {E : Env5}   {k5 : Int32 → Int32 → Option Int32} (x1 : Int32) (x2 : Int32) (M : Mem) {v9 : Int32} (hk5 : ∀ (x1 : Int32) (x2 : Int32), k5 x1 x2 = some v9 → Z l E RX5 cX5_withNow 3 (some .int) 0 5 [(0, .ref (eA E (42))), (1, .int (x1)), (2, .int (x2))] [] M (PR (some (.int v9)) M)) (H : fX5_withNow_52 k5 x1 x2 M = some v9) : Z l E RX5 cX5_withNow 3 (some .int) 0 52 [(0, .ref (eA E (42))), (1, .int (x1)), (2, .int (x2))] [] M (PR (some (.int v9)) M) := by
  unfold fX5_withNow_52 at H
  refine Z.iload_n dX5_withNow_52 1 rfl ?_
  refine Z.sub [0, 2] rfl ?_
  exact tX5_withNow_53  (x2) (x1) M hk5 H
set_option maxRecDepth 100000 in
theorem tX5_withNow_5 {l : Launch} {E : Env5}   {k5 : Int32 → Int32 → Option Int32} (x1 : Int32) (x2 : Int32) (M : Mem) {v9 : Int32} (hk5 : ∀ (x1 : Int32) (x2 : Int32), k5 x1 x2 = some v9 → Z l E RX5 cX5_withNow 3 (some .int) 0 5 [(0, .ref (eA E (42))), (1, .int (x1)), (2, .int (x2))] [] M (PR (some (.int v9)) M)) (H : fX5_withNow_5B k5 x1 x2 M = some v9) : Z l E RX5 cX5_withNow 3 (some .int) 0 5 [(0, .ref (eA E (42))), (1, .int (x1)), (2, .int (x2))] [] M (PR (some (.int v9)) M) := by
  unfold fX5_withNow_5B at H
  refine Z.iload_n dX5_withNow_5 2 rfl ?_
  refine Z.aload_n dX5_withNow_6 0 rfl ?_
  refine Z.get dX5_withNow_7 inX5 (hc := rfl) (by decide) c5 8 (by decide) kw687 rfl rfl ?_
  refine Z.iconst (v := 0) dX5_withNow_10 (by decide) ?_
  refine Z.ialdH dX5_withNow_11 a5_pictures H (fun v1 H => ?_)
  refine Z.icmp_geH dX5_withNow_12 H (fun br12 H => ?_) (fun br12 H => ?_)
  · refine Z.iload_n dX5_withNow_60 1 rfl ?_
    exact Z.iret rfl dX5_withNow_61 (retR H)
  · refine Z.aload_n dX5_withNow_15 0 rfl ?_
    refine Z.get dX5_withNow_16 inX5 (hc := rfl) (by decide) c5 30 (by decide) kw709 rfl rfl ?_
    refine Z.iload_n dX5_withNow_19 2 rfl ?_
    refine Z.ialdH dX5_withNow_20 a5_hats H (fun v2 H => ?_)
    refine Z.iconst (v := 1) dX5_withNow_21 (by decide) ?_
    refine Z.icmp_neH dX5_withNow_22 H (fun br22 H => ?_) (fun br22 H => ?_)
    · refine Z.sub [0, 1, 2] rfl ?_
      exact tX5_withNow_52  (x1) (x2) M hk5 H
    · refine Z.aload_n dX5_withNow_25 0 rfl ?_
      refine Z.get dX5_withNow_26 inX5 (hc := rfl) (by decide) c5 9 (by decide) kw688 rfl rfl ?_
      refine Z.iconst (v := 5) dX5_withNow_29 (by decide) ?_
      refine Z.iload_n dX5_withNow_30 2 rfl ?_
      refine Z.imul dX5_withNow_31 ?_
      refine Z.iconst (v := 4) dX5_withNow_32 (by decide) ?_
      refine Z.iadd dX5_withNow_33 ?_
      refine Z.ialdH dX5_withNow_34 a5_picture H (fun v3 H => ?_)
      refine Z.iload_n dX5_withNow_35 1 rfl ?_
      refine Z.icmp_leH dX5_withNow_36 H (fun br36 H => ?_) (fun br36 H => ?_)
      · refine Z.sub [0, 1, 2] rfl ?_
        exact tX5_withNow_52  (x1) (x2) M hk5 H
      · refine Z.aload_n dX5_withNow_39 0 rfl ?_
        refine Z.get dX5_withNow_40 inX5 (hc := rfl) (by decide) c5 9 (by decide) kw688 rfl rfl ?_
        refine Z.iconst (v := 5) dX5_withNow_43 (by decide) ?_
        refine Z.iload_n dX5_withNow_44 2 rfl ?_
        refine Z.imul dX5_withNow_45 ?_
        refine Z.iconst (v := 4) dX5_withNow_46 (by decide) ?_
        refine Z.iadd dX5_withNow_47 ?_
        refine Z.ialdH dX5_withNow_48 a5_picture H (fun v4 H => ?_)
        refine Z.goto dX5_withNow_49 ?_
        refine Z.sub [0, 2] rfl ?_
        exact tX5_withNow_53  (x2) (v4) M hk5 H
theorem tX5_withNow_5L {l : Launch} {E : Env5}    (M : Mem) {v9 : Int32}  : ∀ (n : Nat) (x1 : Int32) (x2 : Int32), fX5_withNow_5L   M n x1 x2 = some v9 → Z l E RX5 cX5_withNow 3 (some .int) 0 5 [(0, .ref (eA E (42))), (1, .int (x1)), (2, .int (x2))] [] M (PR (some (.int v9)) M) := by
  intro n
  induction n with
  | zero => intro x1 x2 H; exact absurd H (by simp [fX5_withNow_5L])
  | succ n ih => intro x1 x2 H; exact tX5_withNow_5  x1 x2 M  (fun x1 x2 H => ih x1 x2 H) H
set_option maxRecDepth 100000 in
theorem tX5_withNow_0 {l : Launch} {E : Env5}     (M : Mem) {v9 : Int32}  (H : fX5_withNow   M = some v9) : Z l E RX5 cX5_withNow 3 (some .int) 0 0 [(0, .ref (eA E (42)))] [] M (PR (some (.int v9)) M) := by
  unfold fX5_withNow at H
  refine Z.bipush (v := (-9)) dX5_withNow_0 (by decide) ?_
  refine Z.istore_n (lv' := [(1, .int ((-9))), (0, .ref (eA E (42)))]) dX5_withNow_2 (by decide) rfl ?_
  refine Z.iconst (v := 0) dX5_withNow_3 (by decide) ?_
  refine Z.istore_n (lv' := [(2, .int (0)), (1, .int ((-9))), (0, .ref (eA E (42)))]) dX5_withNow_4 (by decide) rfl ?_
  refine Z.sub [2, 1, 0] rfl ?_
  exact tX5_withNow_5L  M  FU ((-9)) (0) H
theorem kX5_withNow {l : Launch} {E : Env5}    (M : Mem) {v9 : Int32} (H : fX5_withNow  M = some v9) : Cn l E yX5_withNow cX5_withNow 3 (some .int) 0 [.ref (eA E (42))] M (PR (some (.int v9)) M) := Cn.ofZ rfl (Nat.le_of_ble_eq_true rfl) rfl (tX5_withNow_0   M H)
theorem hdX5_withNow : yX5_withNow.cls ≠ "java/lang/invoke/MethodHandle" ∧ yX5_withNow.cls ≠ "java/lang/invoke/VarHandle" ∧ (parseMethodDescriptor yX5_withNow.desc).map (fun d => d.parameters.length) = some 0 := by decide +kernel

set_option maxRecDepth 100000 in
theorem tX5_withoutNow_65 {l : Launch} {E : Env5}   {k10 : Int32 → Int32 → Int32 → Option Int32} (x1 : Int32) (x3 : Int32) (s0 : Int32) (M : Mem) {v9 : Int32} (hk10 : ∀ (x1 : Int32) (x2 : Int32) (x3 : Int32), k10 x1 x2 x3 = some v9 → Z l E RX5 cX5_withoutNow 5 (some .int) 1 10 [(0, .ref (eA E (42))), (1, .int (x1)), (2, .int (x2)), (3, .int (x3))] [] M (PR (some (.int v9)) M)) (H : fX5_withoutNow_65 k10 x1 x3 s0 M = some v9) : Z l E RX5 cX5_withoutNow 5 (some .int) 1 65 [(0, .ref (eA E (42))), (1, .int (x1)), (3, .int (x3))] [.int (s0)] M (PR (some (.int v9)) M) := by
  unfold fX5_withoutNow_65 at H
  refine Z.istore_n (lv' := [(2, .int (s0)), (0, .ref (eA E (42))), (1, .int (x1)), (3, .int (x3))]) dX5_withoutNow_65 (by decide) rfl ?_
  refine Z.iinc (v := x3 + 1) (lv' := [(3, .int (x3 + 1)), (2, .int (s0)), (0, .ref (eA E (42))), (1, .int (x1))]) dX5_withoutNow_66 3 rfl rfl (by decide) rfl ?_
  refine Z.goto dX5_withoutNow_69 ?_
  refine Z.sub [2, 3, 1, 0] rfl ?_
  exact hk10 (x1) (s0) (x3 + 1) H
set_option maxRecDepth 100000 in
theorem tX5_withoutNow_64 {l : Launch} {E : Env5}   {k10 : Int32 → Int32 → Int32 → Option Int32} (x1 : Int32) (x2 : Int32) (x3 : Int32) (M : Mem) {v9 : Int32} (hk10 : ∀ (x1 : Int32) (x2 : Int32) (x3 : Int32), k10 x1 x2 x3 = some v9 → Z l E RX5 cX5_withoutNow 5 (some .int) 1 10 [(0, .ref (eA E (42))), (1, .int (x1)), (2, .int (x2)), (3, .int (x3))] [] M (PR (some (.int v9)) M)) (H : fX5_withoutNow_64 k10 x1 x2 x3 M = some v9) : Z l E RX5 cX5_withoutNow 5 (some .int) 1 64 [(0, .ref (eA E (42))), (1, .int (x1)), (2, .int (x2)), (3, .int (x3))] [] M (PR (some (.int v9)) M) := by
  unfold fX5_withoutNow_64 at H
  refine Z.iload_n dX5_withoutNow_64 2 rfl ?_
  refine Z.sub [0, 1, 3] rfl ?_
  exact tX5_withoutNow_65  (x1) (x3) (x2) M hk10 H
set_option maxRecDepth 100000 in
theorem tX5_withoutNow_59 {l : Launch} {E : Env5}   {k10 : Int32 → Int32 → Int32 → Option Int32} (x1 : Int32) (x3 : Int32) (x4 : Int32) (M : Mem) {v9 : Int32} (hk10 : ∀ (x1 : Int32) (x2 : Int32) (x3 : Int32), k10 x1 x2 x3 = some v9 → Z l E RX5 cX5_withoutNow 5 (some .int) 1 10 [(0, .ref (eA E (42))), (1, .int (x1)), (2, .int (x2)), (3, .int (x3))] [] M (PR (some (.int v9)) M)) (H : fX5_withoutNow_59 k10 x1 x3 x4 M = some v9) : Z l E RX5 cX5_withoutNow 5 (some .int) 1 59 [(0, .ref (eA E (42))), (1, .int (x1)), (3, .int (x3)), (4, .int (x4))] [] M (PR (some (.int v9)) M) := by
  unfold fX5_withoutNow_59 at H
  refine Z.iload dX5_withoutNow_59 3 rfl ?_
  refine Z.goto dX5_withoutNow_61 ?_
  refine Z.sub [0, 1, 2] rfl ?_
  exact tX5_withoutNow_65  (x1) (x3) (x4) M hk10 H
set_option maxRecDepth 100000 in
theorem tX5_withoutNow_10 {l : Launch} {E : Env5}   {k10 : Int32 → Int32 → Int32 → Option Int32} (x1 : Int32) (x2 : Int32) (x3 : Int32) (M : Mem) {v9 : Int32} (hk10 : ∀ (x1 : Int32) (x2 : Int32) (x3 : Int32), k10 x1 x2 x3 = some v9 → Z l E RX5 cX5_withoutNow 5 (some .int) 1 10 [(0, .ref (eA E (42))), (1, .int (x1)), (2, .int (x2)), (3, .int (x3))] [] M (PR (some (.int v9)) M)) (H : fX5_withoutNow_10B k10 x1 x2 x3 M = some v9) : Z l E RX5 cX5_withoutNow 5 (some .int) 1 10 [(0, .ref (eA E (42))), (1, .int (x1)), (2, .int (x2)), (3, .int (x3))] [] M (PR (some (.int v9)) M) := by
  unfold fX5_withoutNow_10B at H
  refine Z.iload_n dX5_withoutNow_10 3 rfl ?_
  refine Z.aload_n dX5_withoutNow_11 0 rfl ?_
  refine Z.get dX5_withoutNow_12 inX5 (hc := rfl) (by decide) c5 8 (by decide) kw687 rfl rfl ?_
  refine Z.iconst (v := 0) dX5_withoutNow_15 (by decide) ?_
  refine Z.ialdH dX5_withoutNow_16 a5_pictures H (fun v1 H => ?_)
  refine Z.icmp_geH dX5_withoutNow_17 H (fun br17 H => ?_) (fun br17 H => ?_)
  · refine Z.iload_n dX5_withoutNow_72 2 rfl ?_
    exact Z.iret rfl dX5_withoutNow_73 (retR H)
  · refine Z.aload_n dX5_withoutNow_20 0 rfl ?_
    refine Z.get dX5_withoutNow_21 inX5 (hc := rfl) (by decide) c5 9 (by decide) kw688 rfl rfl ?_
    refine Z.iconst (v := 5) dX5_withoutNow_24 (by decide) ?_
    refine Z.iload_n dX5_withoutNow_25 3 rfl ?_
    refine Z.imul dX5_withoutNow_26 ?_
    refine Z.iconst (v := 4) dX5_withoutNow_27 (by decide) ?_
    refine Z.iadd dX5_withoutNow_28 ?_
    refine Z.ialdH dX5_withoutNow_29 a5_picture H (fun v2 H => ?_)
    refine Z.istore (lv' := [(4, .int (v2)), (0, .ref (eA E (42))), (1, .int (x1)), (2, .int (x2)), (3, .int (x3))]) dX5_withoutNow_30 (by decide) rfl ?_
    refine Z.aload_n dX5_withoutNow_32 1 rfl ?_
    refine Z.get dX5_withoutNow_33 inX5 (hc := rfl) (by decide) c5 30 (by decide) kw709 rfl rfl ?_
    refine Z.iload_n dX5_withoutNow_36 4 rfl ?_
    refine Z.ialdH dX5_withoutNow_37 a5_hats H (fun v3 H => ?_)
    refine Z.if_neH dX5_withoutNow_38 H (fun br38 H => ?_) (fun br38 H => ?_)
    · refine Z.sub [1, 2, 3, 4] rfl ?_
      exact tX5_withoutNow_64  (x1) (x2) (x3) M hk10 H
    · refine Z.iload dX5_withoutNow_41 0 rfl ?_
      refine Z.iload_n dX5_withoutNow_43 2 rfl ?_
      refine Z.icmp_leH dX5_withoutNow_44 H (fun br44 H => ?_) (fun br44 H => ?_)
      · refine Z.sub [1, 2, 3, 4] rfl ?_
        exact tX5_withoutNow_64  (x1) (x2) (x3) M hk10 H
      · refine Z.iload_n dX5_withoutNow_47 3 rfl ?_
        refine Z.bipush (v := (-9)) dX5_withoutNow_48 (by decide) ?_
        refine Z.icmp_eqH dX5_withoutNow_50 H (fun br50 H => ?_) (fun br50 H => ?_)
        · refine Z.sub [1, 2, 4, 0] rfl ?_
          exact tX5_withoutNow_59  (x1) (x3) (v2) M hk10 H
        · refine Z.iload dX5_withoutNow_53 0 rfl ?_
          refine Z.iload_n dX5_withoutNow_55 3 rfl ?_
          refine Z.icmp_geH dX5_withoutNow_56 H (fun br56 H => ?_) (fun br56 H => ?_)
          · refine Z.sub [1, 2, 3, 4] rfl ?_
            exact tX5_withoutNow_64  (x1) (x2) (x3) M hk10 H
          · refine Z.sub [1, 2, 4, 0] rfl ?_
            exact tX5_withoutNow_59  (x1) (x3) (v2) M hk10 H
theorem tX5_withoutNow_10L {l : Launch} {E : Env5}    (M : Mem) {v9 : Int32}  : ∀ (n : Nat) (x1 : Int32) (x2 : Int32) (x3 : Int32), fX5_withoutNow_10L   M n x1 x2 x3 = some v9 → Z l E RX5 cX5_withoutNow 5 (some .int) 1 10 [(0, .ref (eA E (42))), (1, .int (x1)), (2, .int (x2)), (3, .int (x3))] [] M (PR (some (.int v9)) M) := by
  intro n
  induction n with
  | zero => intro x1 x2 x3 H; exact absurd H (by simp [fX5_withoutNow_10L])
  | succ n ih => intro x1 x2 x3 H; exact tX5_withoutNow_10  x1 x2 x3 M  (fun x1 x2 x3 H => ih x1 x2 x3 H) H
set_option maxRecDepth 100000 in
theorem tX5_withoutNow_0 {l : Launch} {E : Env5}     (M : Mem) {v9 : Int32}  (H : fX5_withoutNow   M = some v9) : Z l E RX5 cX5_withoutNow 5 (some .int) 1 0 [(0, .ref (eA E (42)))] [] M (PR (some (.int v9)) M) := by
  unfold fX5_withoutNow at H
  refine Z.aload_n dX5_withoutNow_0 0 rfl ?_
  refine bindC H (fun v1 hv1 H => ?_)
  refine Z.callV (As := []) (rest := []) (st' := [.int (v1)]) dX5_withoutNow_1 (kX5_withNow   M hv1) kw991 kw993 ks55 kw7 kw994 hdX5_withNow (by decide) c5 (hc := rfl) (by decide) (by decide) rfl rfl (Nat.le_of_ble_eq_true rfl) rfl ?_
  refine Z.istore_n (lv' := [(1, .int (v1)), (0, .ref (eA E (42)))]) dX5_withoutNow_4 (by decide) rfl ?_
  refine Z.bipush (v := (-9)) dX5_withoutNow_5 (by decide) ?_
  refine Z.istore_n (lv' := [(2, .int ((-9))), (1, .int (v1)), (0, .ref (eA E (42)))]) dX5_withoutNow_7 (by decide) rfl ?_
  refine Z.iconst (v := 0) dX5_withoutNow_8 (by decide) ?_
  refine Z.istore_n (lv' := [(3, .int (0)), (2, .int ((-9))), (1, .int (v1)), (0, .ref (eA E (42)))]) dX5_withoutNow_9 (by decide) rfl ?_
  refine Z.sub [3, 2, 1, 0] rfl ?_
  exact tX5_withoutNow_10L  M  FU (v1) ((-9)) (0) H
theorem kX5_withoutNow {l : Launch} {E : Env5}    (M : Mem) {v9 : Int32} (H : fX5_withoutNow  M = some v9) : Cn l E yX5_withoutNow cX5_withoutNow 5 (some .int) 1 [.ref (eA E (42))] M (PR (some (.int v9)) M) := Cn.ofZ rfl (Nat.le_of_ble_eq_true rfl) rfl (tX5_withoutNow_0   M H)
theorem hdX5_withoutNow : yX5_withoutNow.cls ≠ "java/lang/invoke/MethodHandle" ∧ yX5_withoutNow.cls ≠ "java/lang/invoke/VarHandle" ∧ (parseMethodDescriptor yX5_withoutNow.desc).map (fun d => d.parameters.length) = some 0 := by decide +kernel

set_option maxRecDepth 100000 in
theorem tX5_hat_0 {l : Launch} {E : Env5}    (x1 : Int32) (M : Mem) {v9 : Int32}  (H : fX5_hat  x1 M = some v9) : Z l E RX5 cX5_hat 2 (some .int) 2 0 [(0, .ref (eA E (42))), (1, .int (x1))] [] M (PR (some (.int v9)) M) := by
  unfold fX5_hat at H
  refine Z.iload_n dX5_hat_0 1 rfl ?_
  refine Z.if_neH dX5_hat_1 H (fun br1 H => ?_) (fun br1 H => ?_)
  · refine Z.iload_n dX5_hat_11 1 rfl ?_
    refine Z.iconst (v := 1) dX5_hat_12 (by decide) ?_
    refine Z.icmp_neH dX5_hat_13 H (fun br13 H => ?_) (fun br13 H => ?_)
    · refine Z.iconst (v := (-1)) dX5_hat_23 (by decide) ?_
      exact Z.iret rfl dX5_hat_24 (retR H)
    · refine Z.aload_n dX5_hat_16 0 rfl ?_
      refine bindC H (fun v1 hv1 H => ?_)
      refine Z.callV (As := []) (rest := []) (st' := [.int (v1)]) dX5_hat_17 (kX5_withoutNow   M hv1) kw995 kw997 ks56 kw7 kw998 hdX5_withoutNow (by decide) c5 (hc := rfl) (by decide) (by decide) rfl rfl (Nat.le_of_ble_eq_true rfl) rfl ?_
      refine Z.goto dX5_hat_20 ?_
      exact Z.iret rfl dX5_hat_24 (retR H)
  · refine Z.aload_n dX5_hat_4 0 rfl ?_
    refine bindC H (fun v2 hv2 H => ?_)
    refine Z.callV (As := []) (rest := []) (st' := [.int (v2)]) dX5_hat_5 (kX5_withNow   M hv2) kw991 kw993 ks55 kw7 kw994 hdX5_withNow (by decide) c5 (hc := rfl) (by decide) (by decide) rfl rfl (Nat.le_of_ble_eq_true rfl) rfl ?_
    refine Z.goto dX5_hat_8 ?_
    exact Z.iret rfl dX5_hat_24 (retR H)
theorem kX5_hat {l : Launch} {E : Env5}   (x1 : Int32) (M : Mem) {v9 : Int32} (H : fX5_hat x1 M = some v9) : Cn l E yX5_hat cX5_hat 2 (some .int) 2 [.ref (eA E (42)), .int (x1)] M (PR (some (.int v9)) M) := Cn.ofZ rfl (Nat.le_of_ble_eq_true rfl) rfl (tX5_hat_0  x1 M H)
theorem hdX5_hat : yX5_hat.cls ≠ "java/lang/invoke/MethodHandle" ∧ yX5_hat.cls ≠ "java/lang/invoke/VarHandle" ∧ (parseMethodDescriptor yX5_hat.desc).map (fun d => d.parameters.length) = some 1 := by decide +kernel

set_option maxRecDepth 100000 in
theorem tX5_near_141 {l : Launch} {E : Env5}   {k57 : Int32 → Int32 → Int32 → Int32 → Int32 → Int32 → Option Int32} {k67 : Int32 → Int32 → Int32 → Int32 → Int32 → Int32 → Int32 → Option Int32} (x1 : Int32) (x2 : Int32) (x3 : Int32) (x5 : Int32) (x7 : Int32) (x8 : Int32) (s0 : Int32) (s1 : Int32) (M : Mem) {v9 : Int32} (hk57 : ∀ (x1 : Int32) (x2 : Int32) (x3 : Int32) (x5 : Int32) (x6 : Int32) (x7 : Int32), k57 x1 x2 x3 x5 x6 x7 = some v9 → Z l E RX5 cX5_near 10 (some .int) 4 57 [(0, .ref (eA E (42))), (1, .int (x1)), (2, .int (x2)), (3, .int (x3)), (5, .int (x5)), (6, .int (x6)), (7, .int (x7))] [] M (PR (some (.int v9)) M)) (hk67 : ∀ (x1 : Int32) (x2 : Int32) (x3 : Int32) (x5 : Int32) (x6 : Int32) (x7 : Int32) (x8 : Int32), k67 x1 x2 x3 x5 x6 x7 x8 = some v9 → Z l E RX5 cX5_near 10 (some .int) 4 67 [(0, .ref (eA E (42))), (1, .int (x1)), (2, .int (x2)), (3, .int (x3)), (5, .int (x5)), (6, .int (x6)), (7, .int (x7)), (8, .int (x8))] [] M (PR (some (.int v9)) M)) (H : fX5_near_141 k57 k67 x1 x2 x3 x5 x7 x8 s0 s1 M = some v9) : Z l E RX5 cX5_near 10 (some .int) 4 141 [(0, .ref (eA E (42))), (1, .int (x1)), (2, .int (x2)), (3, .int (x3)), (5, .int (x5)), (7, .int (x7)), (8, .int (x8))] [.int (s0), .int (s1)] M (PR (some (.int v9)) M) := by
  unfold fX5_near_141 at H
  refine Z.ior dX5_near_141 ?_
  refine Z.istore (lv' := [(6, .int (s1 ||| s0)), (0, .ref (eA E (42))), (1, .int (x1)), (2, .int (x2)), (3, .int (x3)), (5, .int (x5)), (7, .int (x7)), (8, .int (x8))]) dX5_near_142 (by decide) rfl ?_
  refine Z.iinc (v := x8 + 1) (lv' := [(8, .int (x8 + 1)), (6, .int (s1 ||| s0)), (0, .ref (eA E (42))), (1, .int (x1)), (2, .int (x2)), (3, .int (x3)), (5, .int (x5)), (7, .int (x7))]) dX5_near_144 7 rfl rfl (by decide) rfl ?_
  refine Z.goto dX5_near_147 ?_
  refine Z.sub [2, 3, 4, 5, 6, 1, 7, 0] rfl ?_
  exact hk67 (x1) (x2) (x3) (x5) (s1 ||| s0) (x7) (x8 + 1) H
set_option maxRecDepth 100000 in
theorem tX5_near_140 {l : Launch} {E : Env5}   {k57 : Int32 → Int32 → Int32 → Int32 → Int32 → Int32 → Option Int32} {k67 : Int32 → Int32 → Int32 → Int32 → Int32 → Int32 → Int32 → Option Int32} (x1 : Int32) (x2 : Int32) (x3 : Int32) (x5 : Int32) (x7 : Int32) (x8 : Int32) (s0 : Int32) (M : Mem) {v9 : Int32} (hk57 : ∀ (x1 : Int32) (x2 : Int32) (x3 : Int32) (x5 : Int32) (x6 : Int32) (x7 : Int32), k57 x1 x2 x3 x5 x6 x7 = some v9 → Z l E RX5 cX5_near 10 (some .int) 4 57 [(0, .ref (eA E (42))), (1, .int (x1)), (2, .int (x2)), (3, .int (x3)), (5, .int (x5)), (6, .int (x6)), (7, .int (x7))] [] M (PR (some (.int v9)) M)) (hk67 : ∀ (x1 : Int32) (x2 : Int32) (x3 : Int32) (x5 : Int32) (x6 : Int32) (x7 : Int32) (x8 : Int32), k67 x1 x2 x3 x5 x6 x7 x8 = some v9 → Z l E RX5 cX5_near 10 (some .int) 4 67 [(0, .ref (eA E (42))), (1, .int (x1)), (2, .int (x2)), (3, .int (x3)), (5, .int (x5)), (6, .int (x6)), (7, .int (x7)), (8, .int (x8))] [] M (PR (some (.int v9)) M)) (H : fX5_near_140 k57 k67 x1 x2 x3 x5 x7 x8 s0 M = some v9) : Z l E RX5 cX5_near 10 (some .int) 4 140 [(0, .ref (eA E (42))), (1, .int (x1)), (2, .int (x2)), (3, .int (x3)), (5, .int (x5)), (7, .int (x7)), (8, .int (x8))] [.int (s0)] M (PR (some (.int v9)) M) := by
  unfold fX5_near_140 at H
  refine Z.iconst (v := 0) dX5_near_140 (by decide) ?_
  refine Z.sub [0, 1, 2, 3, 4, 5, 6] rfl ?_
  exact tX5_near_141  (x1) (x2) (x3) (x5) (x7) (x8) (0) (s0) M hk57 hk67 H
set_option maxRecDepth 100000 in
theorem tX5_near_67 {l : Launch} {E : Env5}   {k57 : Int32 → Int32 → Int32 → Int32 → Int32 → Int32 → Option Int32} {k67 : Int32 → Int32 → Int32 → Int32 → Int32 → Int32 → Int32 → Option Int32} (x1 : Int32) (x2 : Int32) (x3 : Int32) (x5 : Int32) (x6 : Int32) (x7 : Int32) (x8 : Int32) (M : Mem) {v9 : Int32} (hk57 : ∀ (x1 : Int32) (x2 : Int32) (x3 : Int32) (x5 : Int32) (x6 : Int32) (x7 : Int32), k57 x1 x2 x3 x5 x6 x7 = some v9 → Z l E RX5 cX5_near 10 (some .int) 4 57 [(0, .ref (eA E (42))), (1, .int (x1)), (2, .int (x2)), (3, .int (x3)), (5, .int (x5)), (6, .int (x6)), (7, .int (x7))] [] M (PR (some (.int v9)) M)) (hk67 : ∀ (x1 : Int32) (x2 : Int32) (x3 : Int32) (x5 : Int32) (x6 : Int32) (x7 : Int32) (x8 : Int32), k67 x1 x2 x3 x5 x6 x7 x8 = some v9 → Z l E RX5 cX5_near 10 (some .int) 4 67 [(0, .ref (eA E (42))), (1, .int (x1)), (2, .int (x2)), (3, .int (x3)), (5, .int (x5)), (6, .int (x6)), (7, .int (x7)), (8, .int (x8))] [] M (PR (some (.int v9)) M)) (H : fX5_near_67B k57 k67 x1 x2 x3 x5 x6 x7 x8 M = some v9) : Z l E RX5 cX5_near 10 (some .int) 4 67 [(0, .ref (eA E (42))), (1, .int (x1)), (2, .int (x2)), (3, .int (x3)), (5, .int (x5)), (6, .int (x6)), (7, .int (x7)), (8, .int (x8))] [] M (PR (some (.int v9)) M) := by
  unfold fX5_near_67B at H
  refine Z.iload dX5_near_67 7 rfl ?_
  refine Z.aload_n dX5_near_69 0 rfl ?_
  refine Z.get dX5_near_70 inX5 (hc := rfl) (by decide) c5 6 (by decide) kw685 rfl rfl ?_
  refine Z.iconst (v := 0) dX5_near_73 (by decide) ?_
  refine Z.ialdH dX5_near_74 a5_people H (fun v1 H => ?_)
  refine Z.icmp_geH dX5_near_75 H (fun br75 H => ?_) (fun br75 H => ?_)
  · refine Z.iinc (v := x7 + 1) (lv' := [(7, .int (x7 + 1)), (0, .ref (eA E (42))), (1, .int (x1)), (2, .int (x2)), (3, .int (x3)), (5, .int (x5)), (6, .int (x6)), (8, .int (x8))]) dX5_near_150 6 rfl rfl (by decide) rfl ?_
    refine Z.goto dX5_near_153 ?_
    refine Z.sub [1, 2, 3, 4, 5, 6, 0] rfl ?_
    exact hk57 (x1) (x2) (x3) (x5) (x6) (x7 + 1) H
  · refine Z.aload_n dX5_near_78 0 rfl ?_
    refine Z.iload dX5_near_79 7 rfl ?_
    refine Z.iload dX5_near_81 6 rfl ?_
    refine bindC H (fun v2 hv2 H => ?_)
    refine Z.callV (As := [.int (x8), .int (x7)]) (rest := []) (st' := [.int (v2)]) dX5_near_83 (kX5_cellOf  (x8) (x7) M hv2) kw866 kw868 ks41 kw7 kw869 hdX5_cellOf (by decide) c5 (hc := rfl) (by decide) (by decide) rfl rfl (Nat.le_of_ble_eq_true rfl) rfl ?_
    refine Z.istore (lv' := [(9, .int (v2)), (0, .ref (eA E (42))), (1, .int (x1)), (2, .int (x2)), (3, .int (x3)), (5, .int (x5)), (6, .int (x6)), (7, .int (x7)), (8, .int (x8))]) dX5_near_86 (by decide) rfl ?_
    refine Z.iload dX5_near_88 6 rfl ?_
    refine Z.iload dX5_near_90 0 rfl ?_
    refine Z.bipush (v := (-9)) dX5_near_92 (by decide) ?_
    refine Z.icmp_eqH dX5_near_94 H (fun br94 H => ?_) (fun br94 H => ?_)
    · refine Z.sub [1, 2, 3, 4, 5, 7, 8] rfl ?_
      exact tX5_near_140  (x1) (x2) (x3) (x5) (x7) (x8) (x6) M hk57 hk67 H
    · refine Z.iload dX5_near_97 0 rfl ?_
      refine Z.aload_n dX5_near_99 1 rfl ?_
      refine Z.get dX5_near_100 inX5 (hc := rfl) (by decide) c5 3 (by decide) kw682 rfl rfl ?_
      refine Z.iconst (v := 0) dX5_near_103 (by decide) ?_
      refine Z.ialdH dX5_near_104 a5_wides H (fun v3 H => ?_)
      refine Z.iremH dX5_near_105 H (fun v4 H => ?_)
      refine Z.iload_n dX5_near_106 2 rfl ?_
      refine Z.isub dX5_near_107 ?_
      refine bindC H (fun v5 hv5 H => ?_)
      refine Z.callS (As := [.int (v4 - x1)]) (rest := [.int (x6)]) (st' := [.int (v5), .int (x6)]) dX5_near_108 (kX5_size  (v4 - x1) M hv5) kw966 kw967 kw7 kw968 hdX5_size (by decide) (by decide) rfl rfl (Nat.le_of_ble_eq_true rfl) rfl ?_
      refine Z.iload_n dX5_near_111 4 rfl ?_
      refine Z.icmp_gtH dX5_near_112 H (fun br112 H => ?_) (fun br112 H => ?_)
      · refine Z.sub [1, 2, 3, 4, 5, 7, 8] rfl ?_
        exact tX5_near_140  (x1) (x2) (x3) (x5) (x7) (x8) (x6) M hk57 hk67 H
      · refine Z.iload dX5_near_115 0 rfl ?_
        refine Z.aload_n dX5_near_117 1 rfl ?_
        refine Z.get dX5_near_118 inX5 (hc := rfl) (by decide) c5 3 (by decide) kw682 rfl rfl ?_
        refine Z.iconst (v := 0) dX5_near_121 (by decide) ?_
        refine Z.ialdH dX5_near_122 a5_wides H (fun v6 H => ?_)
        refine Z.idivH dX5_near_123 H (fun v7 H => ?_)
        refine Z.iload_n dX5_near_124 3 rfl ?_
        refine Z.isub dX5_near_125 ?_
        refine bindC H (fun v8 hv8 H => ?_)
        refine Z.callS (As := [.int (v7 - x2)]) (rest := [.int (x6)]) (st' := [.int (v8), .int (x6)]) dX5_near_126 (kX5_size  (v7 - x2) M hv8) kw966 kw967 kw7 kw968 hdX5_size (by decide) (by decide) rfl rfl (Nat.le_of_ble_eq_true rfl) rfl ?_
        refine Z.iload_n dX5_near_129 4 rfl ?_
        refine Z.icmp_gtH dX5_near_130 H (fun br130 H => ?_) (fun br130 H => ?_)
        · refine Z.sub [1, 2, 3, 4, 5, 7, 8] rfl ?_
          exact tX5_near_140  (x1) (x2) (x3) (x5) (x7) (x8) (x6) M hk57 hk67 H
        · refine Z.iconst (v := 1) dX5_near_133 (by decide) ?_
          refine Z.iload dX5_near_134 8 rfl ?_
          refine Z.ishl dX5_near_136 ?_
          refine Z.goto dX5_near_137 ?_
          refine Z.sub [1, 2, 3, 4, 5, 7, 8] rfl ?_
          exact tX5_near_141  (x1) (x2) (x3) (x5) (x7) (x8) (1 <<< (x8 &&& 31)) (x6) M hk57 hk67 H
theorem tX5_near_67L {l : Launch} {E : Env5}   {k57 : Int32 → Int32 → Int32 → Int32 → Int32 → Int32 → Option Int32} (M : Mem) {v9 : Int32} (hk57 : ∀ (x1 : Int32) (x2 : Int32) (x3 : Int32) (x5 : Int32) (x6 : Int32) (x7 : Int32), k57 x1 x2 x3 x5 x6 x7 = some v9 → Z l E RX5 cX5_near 10 (some .int) 4 57 [(0, .ref (eA E (42))), (1, .int (x1)), (2, .int (x2)), (3, .int (x3)), (5, .int (x5)), (6, .int (x6)), (7, .int (x7))] [] M (PR (some (.int v9)) M)) : ∀ (n : Nat) (x1 : Int32) (x2 : Int32) (x3 : Int32) (x5 : Int32) (x6 : Int32) (x7 : Int32) (x8 : Int32), fX5_near_67L k57  M n x1 x2 x3 x5 x6 x7 x8 = some v9 → Z l E RX5 cX5_near 10 (some .int) 4 67 [(0, .ref (eA E (42))), (1, .int (x1)), (2, .int (x2)), (3, .int (x3)), (5, .int (x5)), (6, .int (x6)), (7, .int (x7)), (8, .int (x8))] [] M (PR (some (.int v9)) M) := by
  intro n
  induction n with
  | zero => intro x1 x2 x3 x5 x6 x7 x8 H; exact absurd H (by simp [fX5_near_67L])
  | succ n ih => intro x1 x2 x3 x5 x6 x7 x8 H; exact tX5_near_67  x1 x2 x3 x5 x6 x7 x8 M hk57 (fun x1 x2 x3 x5 x6 x7 x8 H => ih x1 x2 x3 x5 x6 x7 x8 H) H
set_option maxRecDepth 100000 in
theorem tX5_near_57 {l : Launch} {E : Env5}   {k57 : Int32 → Int32 → Int32 → Int32 → Int32 → Int32 → Option Int32} (x1 : Int32) (x2 : Int32) (x3 : Int32) (x5 : Int32) (x6 : Int32) (x7 : Int32) (M : Mem) {v9 : Int32} (hk57 : ∀ (x1 : Int32) (x2 : Int32) (x3 : Int32) (x5 : Int32) (x6 : Int32) (x7 : Int32), k57 x1 x2 x3 x5 x6 x7 = some v9 → Z l E RX5 cX5_near 10 (some .int) 4 57 [(0, .ref (eA E (42))), (1, .int (x1)), (2, .int (x2)), (3, .int (x3)), (5, .int (x5)), (6, .int (x6)), (7, .int (x7))] [] M (PR (some (.int v9)) M)) (H : fX5_near_57B k57 x1 x2 x3 x5 x6 x7 M = some v9) : Z l E RX5 cX5_near 10 (some .int) 4 57 [(0, .ref (eA E (42))), (1, .int (x1)), (2, .int (x2)), (3, .int (x3)), (5, .int (x5)), (6, .int (x6)), (7, .int (x7))] [] M (PR (some (.int v9)) M) := by
  unfold fX5_near_57B at H
  refine Z.iload dX5_near_57 6 rfl ?_
  refine Z.iload dX5_near_59 4 rfl ?_
  refine Z.icmp_gtH dX5_near_61 H (fun br61 H => ?_) (fun br61 H => ?_)
  · refine Z.iload dX5_near_156 5 rfl ?_
    exact Z.iret rfl dX5_near_158 (retR H)
  · refine Z.iconst (v := 0) dX5_near_64 (by decide) ?_
    refine Z.istore (lv' := [(8, .int (0)), (0, .ref (eA E (42))), (1, .int (x1)), (2, .int (x2)), (3, .int (x3)), (5, .int (x5)), (6, .int (x6)), (7, .int (x7))]) dX5_near_65 (by decide) rfl ?_
    refine Z.sub [1, 2, 3, 4, 5, 6, 7, 0] rfl ?_
    exact tX5_near_67L  M hk57 FU (x1) (x2) (x3) (x5) (x6) (x7) (0) H
theorem tX5_near_57L {l : Launch} {E : Env5}    (M : Mem) {v9 : Int32}  : ∀ (n : Nat) (x1 : Int32) (x2 : Int32) (x3 : Int32) (x5 : Int32) (x6 : Int32) (x7 : Int32), fX5_near_57L   M n x1 x2 x3 x5 x6 x7 = some v9 → Z l E RX5 cX5_near 10 (some .int) 4 57 [(0, .ref (eA E (42))), (1, .int (x1)), (2, .int (x2)), (3, .int (x3)), (5, .int (x5)), (6, .int (x6)), (7, .int (x7))] [] M (PR (some (.int v9)) M) := by
  intro n
  induction n with
  | zero => intro x1 x2 x3 x5 x6 x7 H; exact absurd H (by simp [fX5_near_57L])
  | succ n ih => intro x1 x2 x3 x5 x6 x7 H; exact tX5_near_57  x1 x2 x3 x5 x6 x7 M  (fun x1 x2 x3 x5 x6 x7 H => ih x1 x2 x3 x5 x6 x7 H) H
set_option maxRecDepth 100000 in
theorem tX5_near_0 {l : Launch} {E : Env5}    (x1 : Int32) (x2 : Int32) (x3 : Int32) (M : Mem) {v9 : Int32}  (H : fX5_near  x1 x2 x3 M = some v9) : Z l E RX5 cX5_near 10 (some .int) 4 0 [(0, .ref (eA E (42))), (1, .int (x1)), (2, .int (x2)), (3, .int (x3))] [] M (PR (some (.int v9)) M) := by
  unfold fX5_near at H
  refine Z.aload_n dX5_near_0 0 rfl ?_
  refine Z.iload_n dX5_near_1 1 rfl ?_
  refine Z.iload_n dX5_near_2 2 rfl ?_
  refine bindC H (fun v1 hv1 H => ?_)
  refine Z.callV (As := [.int (x1), .int (x2)]) (rest := []) (st' := [.int (v1)]) dX5_near_3 (kX5_isOn  (x1) (x2) M hv1) kw838 kw840 ks37 kw7 kw841 hdX5_isOn (by decide) c5 (hc := rfl) (by decide) (by decide) rfl rfl (Nat.le_of_ble_eq_true rfl) rfl ?_
  refine Z.if_eqH dX5_near_6 H (fun br6 H => ?_) (fun br6 H => ?_)
  · refine Z.iconst (v := (-1)) dX5_near_19 (by decide) ?_
    exact Z.iret rfl dX5_near_20 (retR H)
  · refine Z.iload_n dX5_near_9 3 rfl ?_
    refine Z.iconst (v := 0) dX5_near_10 (by decide) ?_
    refine Z.bipush (v := 11) dX5_near_11 (by decide) ?_
    refine bindC H (fun v2 hv2 H => ?_)
    refine Z.callS (As := [.int (x3), .int (0), .int (11)]) (rest := []) (st' := [.int (v2)]) dX5_near_13 (kX5_in  (x3) (0) (11) M hv2) kw798 kw799 kw7 kw800 hdX5_in (by decide) (by decide) rfl rfl (Nat.le_of_ble_eq_true rfl) rfl ?_
    refine Z.if_neH dX5_near_16 H (fun br16 H => ?_) (fun br16 H => ?_)
    · refine Z.aload_n dX5_near_21 0 rfl ?_
      refine bindC H (fun v3 hv3 H => ?_)
      refine Z.callV (As := []) (rest := []) (st' := [.int (v3)]) dX5_near_22 (kX5_withNow   M hv3) kw991 kw993 ks55 kw7 kw994 hdX5_withNow (by decide) c5 (hc := rfl) (by decide) (by decide) rfl rfl (Nat.le_of_ble_eq_true rfl) rfl ?_
      refine Z.istore (lv' := [(4, .int (v3)), (0, .ref (eA E (42))), (1, .int (x1)), (2, .int (x2)), (3, .int (x3))]) dX5_near_25 (by decide) rfl ?_
      refine Z.aload_n dX5_near_27 1 rfl ?_
      refine bindC H (fun v4 hv4 H => ?_)
      refine Z.callV (As := []) (rest := []) (st' := [.int (v4)]) dX5_near_28 (kX5_withoutNow   M hv4) kw995 kw997 ks56 kw7 kw998 hdX5_withoutNow (by decide) c5 (hc := rfl) (by decide) (by decide) rfl rfl (Nat.le_of_ble_eq_true rfl) rfl ?_
      refine Z.istore (lv' := [(5, .int (v4)), (4, .int (v3)), (0, .ref (eA E (42))), (1, .int (x1)), (2, .int (x2)), (3, .int (x3))]) dX5_near_31 (by decide) rfl ?_
      refine Z.iload dX5_near_33 1 rfl ?_
      refine Z.bipush (v := (-9)) dX5_near_35 (by decide) ?_
      refine Z.icmp_eqH dX5_near_37 H (fun br37 H => ?_) (fun br37 H => ?_)
      · refine Z.bipush (v := (-2)) dX5_near_47 (by decide) ?_
        exact Z.iret rfl dX5_near_49 (retR H)
      · refine Z.iload dX5_near_40 0 rfl ?_
        refine Z.bipush (v := (-9)) dX5_near_42 (by decide) ?_
        refine Z.icmp_neH dX5_near_44 H (fun br44 H => ?_) (fun br44 H => ?_)
        · refine Z.iconst (v := 0) dX5_near_50 (by decide) ?_
          refine Z.istore (lv' := [(6, .int (0)), (5, .int (v4)), (4, .int (v3)), (0, .ref (eA E (42))), (1, .int (x1)), (2, .int (x2)), (3, .int (x3))]) dX5_near_51 (by decide) rfl ?_
          refine Z.iload dX5_near_53 2 rfl ?_
          refine Z.istore (lv' := [(7, .int (v3)), (6, .int (0)), (5, .int (v4)), (4, .int (v3)), (0, .ref (eA E (42))), (1, .int (x1)), (2, .int (x2)), (3, .int (x3))]) dX5_near_55 (by decide) rfl ?_
          refine Z.sub [4, 5, 6, 7, 2, 1, 0] rfl ?_
          exact tX5_near_57L  M  FU (x1) (x2) (x3) (v4) (0) (v3) H
        · refine Z.bipush (v := (-2)) dX5_near_47 (by decide) ?_
          exact Z.iret rfl dX5_near_49 (retR H)
    · refine Z.iconst (v := (-1)) dX5_near_19 (by decide) ?_
      exact Z.iret rfl dX5_near_20 (retR H)
theorem kX5_near {l : Launch} {E : Env5}   (x1 : Int32) (x2 : Int32) (x3 : Int32) (M : Mem) {v9 : Int32} (H : fX5_near x1 x2 x3 M = some v9) : Cn l E yX5_near cX5_near 10 (some .int) 4 [.ref (eA E (42)), .int (x1), .int (x2), .int (x3)] M (PR (some (.int v9)) M) := Cn.ofZ rfl (Nat.le_of_ble_eq_true rfl) rfl (tX5_near_0  x1 x2 x3 M H)
theorem hdX5_near : yX5_near.cls ≠ "java/lang/invoke/MethodHandle" ∧ yX5_near.cls ≠ "java/lang/invoke/VarHandle" ∧ (parseMethodDescriptor yX5_near.desc).map (fun d => d.parameters.length) = some 3 := by decide +kernel

set_option maxRecDepth 100000 in
theorem tX5_isAlike_45 {l : Launch} {E : Env5}   {k5 : Int32 → Int32 → Int32 → Int32 → Option Int32} (x1 : Int32) (x2 : Int32) (x4 : Int32) (s0 : Int32) (M : Mem) {v9 : Int32} (hk5 : ∀ (x1 : Int32) (x2 : Int32) (x3 : Int32) (x4 : Int32), k5 x1 x2 x3 x4 = some v9 → Z l E RX5 cX5_isAlike 5 (some .boolean) 0 5 [(0, .ref (eA E (42))), (1, .int (x1)), (2, .int (x2)), (3, .int (x3)), (4, .int (x4))] [] M (PR (some (.int v9)) M)) (H : fX5_isAlike_45 k5 x1 x2 x4 s0 M = some v9) : Z l E RX5 cX5_isAlike 5 (some .boolean) 0 45 [(0, .ref (eA E (42))), (1, .int (x1)), (2, .int (x2)), (4, .int (x4))] [.int (s0)] M (PR (some (.int v9)) M) := by
  unfold fX5_isAlike_45 at H
  refine Z.istore_n (lv' := [(3, .int (s0)), (0, .ref (eA E (42))), (1, .int (x1)), (2, .int (x2)), (4, .int (x4))]) dX5_isAlike_45 (by decide) rfl ?_
  refine Z.iinc (v := x4 + 1) (lv' := [(4, .int (x4 + 1)), (3, .int (s0)), (0, .ref (eA E (42))), (1, .int (x1)), (2, .int (x2))]) dX5_isAlike_46 4 rfl rfl (by decide) rfl ?_
  refine Z.goto dX5_isAlike_49 ?_
  refine Z.sub [2, 3, 4, 1, 0] rfl ?_
  exact hk5 (x1) (x2) (s0) (x4 + 1) H
set_option maxRecDepth 100000 in
theorem tX5_isAlike_44 {l : Launch} {E : Env5}   {k5 : Int32 → Int32 → Int32 → Int32 → Option Int32} (x1 : Int32) (x2 : Int32) (x4 : Int32) (M : Mem) {v9 : Int32} (hk5 : ∀ (x1 : Int32) (x2 : Int32) (x3 : Int32) (x4 : Int32), k5 x1 x2 x3 x4 = some v9 → Z l E RX5 cX5_isAlike 5 (some .boolean) 0 5 [(0, .ref (eA E (42))), (1, .int (x1)), (2, .int (x2)), (3, .int (x3)), (4, .int (x4))] [] M (PR (some (.int v9)) M)) (H : fX5_isAlike_44 k5 x1 x2 x4 M = some v9) : Z l E RX5 cX5_isAlike 5 (some .boolean) 0 44 [(0, .ref (eA E (42))), (1, .int (x1)), (2, .int (x2)), (4, .int (x4))] [] M (PR (some (.int v9)) M) := by
  unfold fX5_isAlike_44 at H
  refine Z.iconst (v := 0) dX5_isAlike_44 (by decide) ?_
  refine Z.sub [0, 1, 2, 3] rfl ?_
  exact tX5_isAlike_45  (x1) (x2) (x4) (0) M hk5 H
set_option maxRecDepth 100000 in
theorem tX5_isAlike_5 {l : Launch} {E : Env5}   {k5 : Int32 → Int32 → Int32 → Int32 → Option Int32} (x1 : Int32) (x2 : Int32) (x3 : Int32) (x4 : Int32) (M : Mem) {v9 : Int32} (hk5 : ∀ (x1 : Int32) (x2 : Int32) (x3 : Int32) (x4 : Int32), k5 x1 x2 x3 x4 = some v9 → Z l E RX5 cX5_isAlike 5 (some .boolean) 0 5 [(0, .ref (eA E (42))), (1, .int (x1)), (2, .int (x2)), (3, .int (x3)), (4, .int (x4))] [] M (PR (some (.int v9)) M)) (H : fX5_isAlike_5B k5 x1 x2 x3 x4 M = some v9) : Z l E RX5 cX5_isAlike 5 (some .boolean) 0 5 [(0, .ref (eA E (42))), (1, .int (x1)), (2, .int (x2)), (3, .int (x3)), (4, .int (x4))] [] M (PR (some (.int v9)) M) := by
  unfold fX5_isAlike_5B at H
  refine Z.iload dX5_isAlike_5 4 rfl ?_
  refine Z.iconst (v := 4) dX5_isAlike_7 (by decide) ?_
  refine Z.icmp_geH dX5_isAlike_8 H (fun br8 H => ?_) (fun br8 H => ?_)
  · refine Z.iload_n dX5_isAlike_52 3 rfl ?_
    refine gBE H (fun gb H => ?_)
    exact Z.zret rfl gb dX5_isAlike_53 (retR H)
  · refine Z.iload_n dX5_isAlike_11 3 rfl ?_
    refine Z.if_eqH dX5_isAlike_12 H (fun br12 H => ?_) (fun br12 H => ?_)
    · refine Z.sub [0, 1, 2, 4] rfl ?_
      exact tX5_isAlike_44  (x1) (x2) (x4) M hk5 H
    · refine Z.aload_n dX5_isAlike_15 0 rfl ?_
      refine Z.get dX5_isAlike_16 inX5 (hc := rfl) (by decide) c5 9 (by decide) kw688 rfl rfl ?_
      refine Z.iconst (v := 5) dX5_isAlike_19 (by decide) ?_
      refine Z.iload_n dX5_isAlike_20 1 rfl ?_
      refine Z.imul dX5_isAlike_21 ?_
      refine Z.iload dX5_isAlike_22 4 rfl ?_
      refine Z.iadd dX5_isAlike_24 ?_
      refine Z.ialdH dX5_isAlike_25 a5_picture H (fun v1 H => ?_)
      refine Z.aload_n dX5_isAlike_26 0 rfl ?_
      refine Z.get dX5_isAlike_27 inX5 (hc := rfl) (by decide) c5 9 (by decide) kw688 rfl rfl ?_
      refine Z.iconst (v := 5) dX5_isAlike_30 (by decide) ?_
      refine Z.iload_n dX5_isAlike_31 2 rfl ?_
      refine Z.imul dX5_isAlike_32 ?_
      refine Z.iload dX5_isAlike_33 4 rfl ?_
      refine Z.iadd dX5_isAlike_35 ?_
      refine Z.ialdH dX5_isAlike_36 a5_picture H (fun v2 H => ?_)
      refine Z.icmp_neH dX5_isAlike_37 H (fun br37 H => ?_) (fun br37 H => ?_)
      · refine Z.sub [0, 1, 2, 4] rfl ?_
        exact tX5_isAlike_44  (x1) (x2) (x4) M hk5 H
      · refine Z.iconst (v := 1) dX5_isAlike_40 (by decide) ?_
        refine Z.goto dX5_isAlike_41 ?_
        refine Z.sub [0, 1, 2, 4] rfl ?_
        exact tX5_isAlike_45  (x1) (x2) (x4) (1) M hk5 H
theorem tX5_isAlike_5L {l : Launch} {E : Env5}    (M : Mem) {v9 : Int32}  : ∀ (n : Nat) (x1 : Int32) (x2 : Int32) (x3 : Int32) (x4 : Int32), fX5_isAlike_5L   M n x1 x2 x3 x4 = some v9 → Z l E RX5 cX5_isAlike 5 (some .boolean) 0 5 [(0, .ref (eA E (42))), (1, .int (x1)), (2, .int (x2)), (3, .int (x3)), (4, .int (x4))] [] M (PR (some (.int v9)) M) := by
  intro n
  induction n with
  | zero => intro x1 x2 x3 x4 H; exact absurd H (by simp [fX5_isAlike_5L])
  | succ n ih => intro x1 x2 x3 x4 H; exact tX5_isAlike_5  x1 x2 x3 x4 M  (fun x1 x2 x3 x4 H => ih x1 x2 x3 x4 H) H
set_option maxRecDepth 100000 in
theorem tX5_isAlike_0 {l : Launch} {E : Env5}    (x1 : Int32) (x2 : Int32) (M : Mem) {v9 : Int32}  (H : fX5_isAlike  x1 x2 M = some v9) : Z l E RX5 cX5_isAlike 5 (some .boolean) 0 0 [(0, .ref (eA E (42))), (1, .int (x1)), (2, .int (x2))] [] M (PR (some (.int v9)) M) := by
  unfold fX5_isAlike at H
  refine Z.iconst (v := 1) dX5_isAlike_0 (by decide) ?_
  refine Z.istore_n (lv' := [(3, .int (1)), (0, .ref (eA E (42))), (1, .int (x1)), (2, .int (x2))]) dX5_isAlike_1 (by decide) rfl ?_
  refine Z.iconst (v := 0) dX5_isAlike_2 (by decide) ?_
  refine Z.istore (lv' := [(4, .int (0)), (3, .int (1)), (0, .ref (eA E (42))), (1, .int (x1)), (2, .int (x2))]) dX5_isAlike_3 (by decide) rfl ?_
  refine Z.sub [2, 3, 4, 1, 0] rfl ?_
  exact tX5_isAlike_5L  M  FU (x1) (x2) (1) (0) H
theorem kX5_isAlike {l : Launch} {E : Env5}   (x1 : Int32) (x2 : Int32) (M : Mem) {v9 : Int32} (H : fX5_isAlike x1 x2 M = some v9) : Cn l E yX5_isAlike cX5_isAlike 5 (some .boolean) 0 [.ref (eA E (42)), .int (x1), .int (x2)] M (PR (some (.int v9)) M) := Cn.ofZ rfl (Nat.le_of_ble_eq_true rfl) rfl (tX5_isAlike_0  x1 x2 M H)
theorem hdX5_isAlike : yX5_isAlike.cls ≠ "java/lang/invoke/MethodHandle" ∧ yX5_isAlike.cls ≠ "java/lang/invoke/VarHandle" ∧ (parseMethodDescriptor yX5_isAlike.desc).map (fun d => d.parameters.length) = some 2 := by decide +kernel

set_option maxRecDepth 100000 in
theorem tX5_freeIn_90 {l : Launch} {E : Env5}   {k6 : Int32 → Int32 → Int32 → Int32 → Int32 → Mem → Option (Int32 × Mem)} (x1 : Int32) (x2 : Int32) (x3 : Int32) (x4 : Int32) (x5 : Int32) (M : Mem) {v9 : Int32} {M9 : Mem} (hk6 : ∀ (x1 : Int32) (x2 : Int32) (x3 : Int32) (x4 : Int32) (x5 : Int32) (M : Mem), k6 x1 x2 x3 x4 x5 M = some (v9, M9) → Z l E RX5 cX5_freeIn 6 (some .int) 6 6 [(0, .ref (eA E (42))), (1, .int (x1)), (2, .int (x2)), (3, .int (x3)), (4, .int (x4)), (5, .int (x5))] [] M (PR (some (.int v9)) M9)) (H : fX5_freeIn_90 k6 x1 x2 x3 x4 x5 M = some (v9, M9)) : Z l E RX5 cX5_freeIn 6 (some .int) 6 90 [(0, .ref (eA E (42))), (1, .int (x1)), (2, .int (x2)), (3, .int (x3)), (4, .int (x4)), (5, .int (x5))] [] M (PR (some (.int v9)) M9) := by
  unfold fX5_freeIn_90 at H
  refine Z.iinc (v := x5 + 1) (lv' := [(5, .int (x5 + 1)), (0, .ref (eA E (42))), (1, .int (x1)), (2, .int (x2)), (3, .int (x3)), (4, .int (x4))]) dX5_freeIn_90 5 rfl rfl (by decide) rfl ?_
  refine Z.goto dX5_freeIn_93 ?_
  refine Z.sub [1, 2, 3, 4, 5, 0] rfl ?_
  exact hk6 (x1) (x2) (x3) (x4) (x5 + 1) M  H
set_option maxRecDepth 100000 in
theorem tX5_freeIn_87 {l : Launch} {E : Env5}   {k6 : Int32 → Int32 → Int32 → Int32 → Int32 → Mem → Option (Int32 × Mem)} (x1 : Int32) (x2 : Int32) (x3 : Int32) (x5 : Int32) (s0 : Int32) (s1 : Int32) (M : Mem) {v9 : Int32} {M9 : Mem} (hk6 : ∀ (x1 : Int32) (x2 : Int32) (x3 : Int32) (x4 : Int32) (x5 : Int32) (M : Mem), k6 x1 x2 x3 x4 x5 M = some (v9, M9) → Z l E RX5 cX5_freeIn 6 (some .int) 6 6 [(0, .ref (eA E (42))), (1, .int (x1)), (2, .int (x2)), (3, .int (x3)), (4, .int (x4)), (5, .int (x5))] [] M (PR (some (.int v9)) M9)) (H : fX5_freeIn_87 k6 x1 x2 x3 x5 s0 s1 M = some (v9, M9)) : Z l E RX5 cX5_freeIn 6 (some .int) 6 87 [(0, .ref (eA E (42))), (1, .int (x1)), (2, .int (x2)), (3, .int (x3)), (5, .int (x5))] [.int (s0), .int (s1)] M (PR (some (.int v9)) M9) := by
  unfold fX5_freeIn_87 at H
  refine Z.ior dX5_freeIn_87 ?_
  refine Z.istore (lv' := [(4, .int (s1 ||| s0)), (0, .ref (eA E (42))), (1, .int (x1)), (2, .int (x2)), (3, .int (x3)), (5, .int (x5))]) dX5_freeIn_88 (by decide) rfl ?_
  refine Z.sub [1, 2, 3, 4, 0, 5] rfl ?_
  exact tX5_freeIn_90  (x1) (x2) (x3) (s1 ||| s0) (x5) M hk6 H
set_option maxRecDepth 100000 in
theorem tX5_freeIn_86 {l : Launch} {E : Env5}   {k6 : Int32 → Int32 → Int32 → Int32 → Int32 → Mem → Option (Int32 × Mem)} (x1 : Int32) (x2 : Int32) (x3 : Int32) (x5 : Int32) (s0 : Int32) (M : Mem) {v9 : Int32} {M9 : Mem} (hk6 : ∀ (x1 : Int32) (x2 : Int32) (x3 : Int32) (x4 : Int32) (x5 : Int32) (M : Mem), k6 x1 x2 x3 x4 x5 M = some (v9, M9) → Z l E RX5 cX5_freeIn 6 (some .int) 6 6 [(0, .ref (eA E (42))), (1, .int (x1)), (2, .int (x2)), (3, .int (x3)), (4, .int (x4)), (5, .int (x5))] [] M (PR (some (.int v9)) M9)) (H : fX5_freeIn_86 k6 x1 x2 x3 x5 s0 M = some (v9, M9)) : Z l E RX5 cX5_freeIn 6 (some .int) 6 86 [(0, .ref (eA E (42))), (1, .int (x1)), (2, .int (x2)), (3, .int (x3)), (5, .int (x5))] [.int (s0)] M (PR (some (.int v9)) M9) := by
  unfold fX5_freeIn_86 at H
  refine Z.iconst (v := 0) dX5_freeIn_86 (by decide) ?_
  refine Z.sub [0, 1, 2, 3, 4] rfl ?_
  exact tX5_freeIn_87  (x1) (x2) (x3) (x5) (0) (s0) M hk6 H
set_option maxRecDepth 100000 in
theorem tX5_freeIn_6 {l : Launch} {E : Env5}   {k6 : Int32 → Int32 → Int32 → Int32 → Int32 → Mem → Option (Int32 × Mem)} (x1 : Int32) (x2 : Int32) (x3 : Int32) (x4 : Int32) (x5 : Int32) (M : Mem) {v9 : Int32} {M9 : Mem} (hk6 : ∀ (x1 : Int32) (x2 : Int32) (x3 : Int32) (x4 : Int32) (x5 : Int32) (M : Mem), k6 x1 x2 x3 x4 x5 M = some (v9, M9) → Z l E RX5 cX5_freeIn 6 (some .int) 6 6 [(0, .ref (eA E (42))), (1, .int (x1)), (2, .int (x2)), (3, .int (x3)), (4, .int (x4)), (5, .int (x5))] [] M (PR (some (.int v9)) M9)) (H : fX5_freeIn_6B k6 x1 x2 x3 x4 x5 M = some (v9, M9)) : Z l E RX5 cX5_freeIn 6 (some .int) 6 6 [(0, .ref (eA E (42))), (1, .int (x1)), (2, .int (x2)), (3, .int (x3)), (4, .int (x4)), (5, .int (x5))] [] M (PR (some (.int v9)) M9) := by
  unfold fX5_freeIn_6B at H
  refine Z.iload dX5_freeIn_6 5 rfl ?_
  refine Z.aload_n dX5_freeIn_8 0 rfl ?_
  refine Z.get dX5_freeIn_9 inX5 (hc := rfl) (by decide) c5 8 (by decide) kw687 rfl rfl ?_
  refine Z.iconst (v := 0) dX5_freeIn_12 (by decide) ?_
  refine Z.ialdH dX5_freeIn_13 a5_pictures H (fun v1 H => ?_)
  refine Z.icmp_geH dX5_freeIn_14 H (fun br14 H => ?_) (fun br14 H => ?_)
  · refine Z.iload dX5_freeIn_96 4 rfl ?_
    exact Z.iret rfl dX5_freeIn_98 (retW H)
  · refine Z.aload_n dX5_freeIn_17 0 rfl ?_
    refine Z.iload_n dX5_freeIn_18 1 rfl ?_
    refine Z.iload dX5_freeIn_19 5 rfl ?_
    refine bindC H (fun v2 hv2 H => ?_)
    refine Z.callV (As := [.int (x1), .int (x5)]) (rest := []) (st' := [.int (v2)]) dX5_freeIn_21 (kX5_isAlike  (x1) (x5) M hv2) kw1015 kw1017 ks59 kw7 kw1018 hdX5_isAlike (by decide) c5 (hc := rfl) (by decide) (by decide) rfl rfl (Nat.le_of_ble_eq_true rfl) rfl ?_
    refine Z.if_eqH dX5_freeIn_24 H (fun br24 H => ?_) (fun br24 H => ?_)
    · refine Z.sub [0, 1, 2, 3, 4, 5] rfl ?_
      exact tX5_freeIn_90  (x1) (x2) (x3) (x4) (x5) M hk6 H
    · refine Z.aload_n dX5_freeIn_27 0 rfl ?_
      refine Z.iload dX5_freeIn_28 5 rfl ?_
      refine Z.aload_n dX5_freeIn_30 0 rfl ?_
      refine Z.get dX5_freeIn_31 inX5 (hc := rfl) (by decide) c5 9 (by decide) kw688 rfl rfl ?_
      refine Z.iconst (v := 5) dX5_freeIn_34 (by decide) ?_
      refine Z.iload dX5_freeIn_35 5 rfl ?_
      refine Z.imul dX5_freeIn_37 ?_
      refine Z.iconst (v := 4) dX5_freeIn_38 (by decide) ?_
      refine Z.iadd dX5_freeIn_39 ?_
      refine Z.ialdH dX5_freeIn_40 a5_picture H (fun v3 H => ?_)
      refine bindC H (fun v4 hv4 H => ?_)
      refine Z.callV (As := [.int (x5), .int (v3)]) (rest := []) (st' := []) dX5_freeIn_41 (kX5_lookAs  (x5) (v3) M hv4) kw892 kw894 ks44 kw7 kw895 hdX5_lookAs (by decide) c5 (hc := rfl) (by decide) (by decide) rfl rfl (Nat.le_of_ble_eq_true rfl) rfl ?_
      refine Z.iload dX5_freeIn_44 4 rfl ?_
      refine Z.aload_n dX5_freeIn_46 0 rfl ?_
      refine Z.aload_n dX5_freeIn_47 0 rfl ?_
      refine Z.iload_n dX5_freeIn_48 2 rfl ?_
      refine Z.iload_n dX5_freeIn_49 3 rfl ?_
      refine bindC H (fun v5 hv5 H => ?_)
      refine Z.callV (As := [.int (x2), .int (x3)]) (rest := [.ref (eA E (42)), .int (x4)]) (st' := [.int (v5), .ref (eA E (42)), .int (x4)]) dX5_freeIn_50 (kX5_xAt  (x2) (x3) v4 hv5) kw904 kw906 ks47 kw7 kw907 hdX5_xAt (by decide) c5 (hc := rfl) (by decide) (by decide) rfl rfl (Nat.le_of_ble_eq_true rfl) rfl ?_
      refine Z.aload_n dX5_freeIn_53 0 rfl ?_
      refine Z.iload_n dX5_freeIn_54 2 rfl ?_
      refine Z.iload_n dX5_freeIn_55 3 rfl ?_
      refine bindC H (fun v6 hv6 H => ?_)
      refine Z.callV (As := [.int (x2), .int (x3)]) (rest := [.int (v5), .ref (eA E (42)), .int (x4)]) (st' := [.int (v6), .int (v5), .ref (eA E (42)), .int (x4)]) dX5_freeIn_56 (kX5_yAt  (x2) (x3) v4 hv6) kw908 kw910 ks48 kw7 kw911 hdX5_yAt (by decide) c5 (hc := rfl) (by decide) (by decide) rfl rfl (Nat.le_of_ble_eq_true rfl) rfl ?_
      refine Z.aload_n dX5_freeIn_59 0 rfl ?_
      refine Z.get dX5_freeIn_60 inX5 (hc := rfl) (by decide) c5 18 (by decide) kw697 rfl rfl ?_
      refine bindC H (fun v7 hv7 H => ?_)
      refine Z.callV (As := [.int (v5), .int (v6), .int (v4.1 42 18)]) (rest := [.int (x4)]) (st' := [.int (v7), .int (x4)]) dX5_freeIn_63 (kX5_thoseOn  (v5) (v6) (v4.1 42 18) v4 hv7) kw880 kw882 ks42 kw7 kw883 hdX5_thoseOn (by decide) c5 (hc := rfl) (by decide) (by decide) rfl rfl (Nat.le_of_ble_eq_true rfl) rfl ?_
      refine Z.if_neH dX5_freeIn_66 H (fun br66 H => ?_) (fun br66 H => ?_)
      · refine Z.sub [0, 1, 2, 3, 5] rfl ?_
        exact tX5_freeIn_86  (x1) (x2) (x3) (x5) (x4) v4 hk6 H
      · refine Z.aload_n dX5_freeIn_69 0 rfl ?_
        refine Z.iload_n dX5_freeIn_70 2 rfl ?_
        refine Z.iload_n dX5_freeIn_71 3 rfl ?_
        refine bindC H (fun v8 hv8 H => ?_)
        refine Z.callV (As := [.int (x2), .int (x3)]) (rest := [.int (x4)]) (st' := [.int (v8), .int (x4)]) dX5_freeIn_72 (kX5_hides  (x2) (x3) v4 hv8) kw912 kw914 ks49 kw7 kw915 hdX5_hides (by decide) c5 (hc := rfl) (by decide) (by decide) rfl rfl (Nat.le_of_ble_eq_true rfl) rfl ?_
        refine Z.iconst (v := 1) dX5_freeIn_75 (by decide) ?_
        refine Z.icmp_neH dX5_freeIn_76 H (fun br76 H => ?_) (fun br76 H => ?_)
        · refine Z.sub [0, 1, 2, 3, 5] rfl ?_
          exact tX5_freeIn_86  (x1) (x2) (x3) (x5) (x4) v4 hk6 H
        · refine Z.iconst (v := 1) dX5_freeIn_79 (by decide) ?_
          refine Z.iload dX5_freeIn_80 5 rfl ?_
          refine Z.ishl dX5_freeIn_82 ?_
          refine Z.goto dX5_freeIn_83 ?_
          refine Z.sub [0, 1, 2, 3, 5] rfl ?_
          exact tX5_freeIn_87  (x1) (x2) (x3) (x5) (1 <<< (x5 &&& 31)) (x4) v4 hk6 H
theorem tX5_freeIn_6L {l : Launch} {E : Env5}     {v9 : Int32} {M9 : Mem}  : ∀ (n : Nat) (x1 : Int32) (x2 : Int32) (x3 : Int32) (x4 : Int32) (x5 : Int32) (M : Mem), fX5_freeIn_6L   n x1 x2 x3 x4 x5 M = some (v9, M9) → Z l E RX5 cX5_freeIn 6 (some .int) 6 6 [(0, .ref (eA E (42))), (1, .int (x1)), (2, .int (x2)), (3, .int (x3)), (4, .int (x4)), (5, .int (x5))] [] M (PR (some (.int v9)) M9) := by
  intro n
  induction n with
  | zero => intro x1 x2 x3 x4 x5 M H; exact absurd H (by simp [fX5_freeIn_6L])
  | succ n ih => intro x1 x2 x3 x4 x5 M H; exact tX5_freeIn_6  x1 x2 x3 x4 x5 M  (fun x1 x2 x3 x4 x5 M H => ih x1 x2 x3 x4 x5 M H) H
set_option maxRecDepth 100000 in
theorem tX5_freeIn_0 {l : Launch} {E : Env5}    (x1 : Int32) (x2 : Int32) (x3 : Int32) (M : Mem) {v9 : Int32} {M9 : Mem}  (H : fX5_freeIn  x1 x2 x3 M = some (v9, M9)) : Z l E RX5 cX5_freeIn 6 (some .int) 6 0 [(0, .ref (eA E (42))), (1, .int (x1)), (2, .int (x2)), (3, .int (x3))] [] M (PR (some (.int v9)) M9) := by
  unfold fX5_freeIn at H
  refine Z.iconst (v := 0) dX5_freeIn_0 (by decide) ?_
  refine Z.istore (lv' := [(4, .int (0)), (0, .ref (eA E (42))), (1, .int (x1)), (2, .int (x2)), (3, .int (x3))]) dX5_freeIn_1 (by decide) rfl ?_
  refine Z.iconst (v := 0) dX5_freeIn_3 (by decide) ?_
  refine Z.istore (lv' := [(5, .int (0)), (4, .int (0)), (0, .ref (eA E (42))), (1, .int (x1)), (2, .int (x2)), (3, .int (x3))]) dX5_freeIn_4 (by decide) rfl ?_
  refine Z.sub [2, 3, 4, 5, 1, 0] rfl ?_
  exact tX5_freeIn_6L   FU (x1) (x2) (x3) (0) (0) M H
theorem kX5_freeIn {l : Launch} {E : Env5}   (x1 : Int32) (x2 : Int32) (x3 : Int32) (M : Mem) {v9 : Int32} {M9 : Mem} (H : fX5_freeIn x1 x2 x3 M = some (v9, M9)) : Cn l E yX5_freeIn cX5_freeIn 6 (some .int) 6 [.ref (eA E (42)), .int (x1), .int (x2), .int (x3)] M (PR (some (.int v9)) M9) := Cn.ofZ rfl (Nat.le_of_ble_eq_true rfl) rfl (tX5_freeIn_0  x1 x2 x3 M H)
theorem hdX5_freeIn : yX5_freeIn.cls ≠ "java/lang/invoke/MethodHandle" ∧ yX5_freeIn.cls ≠ "java/lang/invoke/VarHandle" ∧ (parseMethodDescriptor yX5_freeIn.desc).map (fun d => d.parameters.length) = some 3 := by decide +kernel

set_option maxRecDepth 100000 in
theorem tX5_findFree_103 {l : Launch} {E : Env5}   {k13 : Int32 → Int32 → Mem → Option Mem} {k32 : Int32 → Int32 → Int32 → Mem → Option Mem} (x1 : Int32) (x2 : Int32) (x3 : Int32) (M : Mem) {M9 : Mem} (hk13 : ∀ (x1 : Int32) (x2 : Int32) (M : Mem), k13 x1 x2 M = some M9 → Z l E RX5 cX5_findFree 4 none 7 13 [(0, .ref (eA E (42))), (1, .int (x1)), (2, .int (x2))] [] M (PR none M9)) (hk32 : ∀ (x1 : Int32) (x2 : Int32) (x3 : Int32) (M : Mem), k32 x1 x2 x3 M = some M9 → Z l E RX5 cX5_findFree 4 none 7 32 [(0, .ref (eA E (42))), (1, .int (x1)), (2, .int (x2)), (3, .int (x3))] [] M (PR none M9)) (H : fX5_findFree_103 k13 k32 x1 x2 x3 M = some M9) : Z l E RX5 cX5_findFree 4 none 7 103 [(0, .ref (eA E (42))), (1, .int (x1)), (2, .int (x2)), (3, .int (x3))] [] M (PR none M9) := by
  unfold fX5_findFree_103 at H
  refine Z.iinc (v := x3 + 1) (lv' := [(3, .int (x3 + 1)), (0, .ref (eA E (42))), (1, .int (x1)), (2, .int (x2))]) dX5_findFree_103 3 rfl rfl (by decide) rfl ?_
  refine Z.goto dX5_findFree_106 ?_
  refine Z.sub [1, 2, 3, 0] rfl ?_
  exact hk32 (x1) (x2) (x3 + 1) M  H
set_option maxRecDepth 100000 in
theorem tX5_findFree_32 {l : Launch} {E : Env5}   {k13 : Int32 → Int32 → Mem → Option Mem} {k32 : Int32 → Int32 → Int32 → Mem → Option Mem} (x1 : Int32) (x2 : Int32) (x3 : Int32) (M : Mem) {M9 : Mem} (hk13 : ∀ (x1 : Int32) (x2 : Int32) (M : Mem), k13 x1 x2 M = some M9 → Z l E RX5 cX5_findFree 4 none 7 13 [(0, .ref (eA E (42))), (1, .int (x1)), (2, .int (x2))] [] M (PR none M9)) (hk32 : ∀ (x1 : Int32) (x2 : Int32) (x3 : Int32) (M : Mem), k32 x1 x2 x3 M = some M9 → Z l E RX5 cX5_findFree 4 none 7 32 [(0, .ref (eA E (42))), (1, .int (x1)), (2, .int (x2)), (3, .int (x3))] [] M (PR none M9)) (H : fX5_findFree_32B k13 k32 x1 x2 x3 M = some M9) : Z l E RX5 cX5_findFree 4 none 7 32 [(0, .ref (eA E (42))), (1, .int (x1)), (2, .int (x2)), (3, .int (x3))] [] M (PR none M9) := by
  unfold fX5_findFree_32B at H
  refine Z.iload_n dX5_findFree_32 3 rfl ?_
  refine Z.iload_n dX5_findFree_33 2 rfl ?_
  refine Z.iconst (v := 2) dX5_findFree_34 (by decide) ?_
  refine Z.idiv dX5_findFree_35 (by decide) ?_
  refine Z.icmp_gtH dX5_findFree_36 H (fun br36 H => ?_) (fun br36 H => ?_)
  · refine Z.iinc (v := x2 + 1) (lv' := [(2, .int (x2 + 1)), (0, .ref (eA E (42))), (1, .int (x1)), (3, .int (x3))]) dX5_findFree_109 2 rfl rfl (by decide) rfl ?_
    refine Z.goto dX5_findFree_112 ?_
    refine Z.sub [1, 2, 0] rfl ?_
    exact hk13 (x1) (x2 + 1) M  H
  · refine Z.aload_n dX5_findFree_39 0 rfl ?_
    refine Z.aload_n dX5_findFree_40 0 rfl ?_
    refine Z.iload_n dX5_findFree_41 2 rfl ?_
    refine Z.iload_n dX5_findFree_42 3 rfl ?_
    refine bindC H (fun v1 hv1 H => ?_)
    refine Z.callV (As := [.int (x2), .int (x3)]) (rest := [.ref (eA E (42))]) (st' := [.int (v1), .ref (eA E (42))]) dX5_findFree_43 (kX5_xAt  (x2) (x3) M hv1) kw904 kw906 ks47 kw7 kw907 hdX5_xAt (by decide) c5 (hc := rfl) (by decide) (by decide) rfl rfl (Nat.le_of_ble_eq_true rfl) rfl ?_
    refine Z.aload_n dX5_findFree_46 0 rfl ?_
    refine Z.iload_n dX5_findFree_47 2 rfl ?_
    refine Z.iload_n dX5_findFree_48 3 rfl ?_
    refine bindC H (fun v2 hv2 H => ?_)
    refine Z.callV (As := [.int (x2), .int (x3)]) (rest := [.int (v1), .ref (eA E (42))]) (st' := [.int (v2), .int (v1), .ref (eA E (42))]) dX5_findFree_49 (kX5_yAt  (x2) (x3) M hv2) kw908 kw910 ks48 kw7 kw911 hdX5_yAt (by decide) c5 (hc := rfl) (by decide) (by decide) rfl rfl (Nat.le_of_ble_eq_true rfl) rfl ?_
    refine bindC H (fun v3 hv3 H => ?_)
    refine Z.callV (As := [.int (v1), .int (v2)]) (rest := []) (st' := [.int (v3)]) dX5_findFree_52 (kX5_isOn  (v1) (v2) M hv3) kw838 kw840 ks37 kw7 kw841 hdX5_isOn (by decide) c5 (hc := rfl) (by decide) (by decide) rfl rfl (Nat.le_of_ble_eq_true rfl) rfl ?_
    refine Z.if_eqH dX5_findFree_55 H (fun br55 H => ?_) (fun br55 H => ?_)
    · refine Z.sub [0, 1, 2, 3] rfl ?_
      exact tX5_findFree_103  (x1) (x2) (x3) M hk13 hk32 H
    · refine Z.aload_n dX5_findFree_58 0 rfl ?_
      refine Z.aload_n dX5_findFree_59 0 rfl ?_
      refine Z.iload_n dX5_findFree_60 2 rfl ?_
      refine Z.iload_n dX5_findFree_61 3 rfl ?_
      refine bindC H (fun v4 hv4 H => ?_)
      refine Z.callV (As := [.int (x2), .int (x3)]) (rest := [.ref (eA E (42))]) (st' := [.int (v4), .ref (eA E (42))]) dX5_findFree_62 (kX5_xAt  (x2) (x3) M hv4) kw904 kw906 ks47 kw7 kw907 hdX5_xAt (by decide) c5 (hc := rfl) (by decide) (by decide) rfl rfl (Nat.le_of_ble_eq_true rfl) rfl ?_
      refine Z.aload_n dX5_findFree_65 0 rfl ?_
      refine Z.iload_n dX5_findFree_66 2 rfl ?_
      refine Z.iload_n dX5_findFree_67 3 rfl ?_
      refine bindC H (fun v5 hv5 H => ?_)
      refine Z.callV (As := [.int (x2), .int (x3)]) (rest := [.int (v4), .ref (eA E (42))]) (st' := [.int (v5), .int (v4), .ref (eA E (42))]) dX5_findFree_68 (kX5_yAt  (x2) (x3) M hv5) kw908 kw910 ks48 kw7 kw911 hdX5_yAt (by decide) c5 (hc := rfl) (by decide) (by decide) rfl rfl (Nat.le_of_ble_eq_true rfl) rfl ?_
      refine bindC H (fun v6 hv6 H => ?_)
      refine Z.callV (As := [.int (v4), .int (v5)]) (rest := []) (st' := [.int (v6)]) dX5_findFree_71 (kX5_isWall  (v4) (v5) M hv6) kw842 kw844 ks38 kw7 kw845 hdX5_isWall (by decide) c5 (hc := rfl) (by decide) (by decide) rfl rfl (Nat.le_of_ble_eq_true rfl) rfl ?_
      refine Z.if_neH dX5_findFree_74 H (fun br74 H => ?_) (fun br74 H => ?_)
      · refine Z.sub [0, 1, 2, 3] rfl ?_
        exact tX5_findFree_103  (x1) (x2) (x3) M hk13 hk32 H
      · refine Z.aload_n dX5_findFree_77 0 rfl ?_
        refine Z.get dX5_findFree_78 inX5 (hc := rfl) (by decide) c5 35 (by decide) kw714 rfl rfl ?_
        refine Z.aload_n dX5_findFree_81 0 rfl ?_
        refine Z.get dX5_findFree_82 inX5 (hc := rfl) (by decide) c5 36 (by decide) kw715 rfl rfl ?_
        refine Z.aload_n dX5_findFree_85 0 rfl ?_
        refine Z.iload_n dX5_findFree_86 1 rfl ?_
        refine Z.iload_n dX5_findFree_87 2 rfl ?_
        refine Z.iload_n dX5_findFree_88 3 rfl ?_
        refine bindC H (fun v7 hv7 H => ?_)
        refine Z.callV (As := [.int (x1), .int (x2), .int (x3)]) (rest := [.int (M.1 42 36), .ref (eA E (66))]) (st' := [.int (v7.1), .int (M.1 42 36), .ref (eA E (66))]) dX5_findFree_89 (kX5_freeIn  (x1) (x2) (x3) M hv7) kw1011 kw1013 ks58 kw7 kw1014 hdX5_freeIn (by decide) c5 (hc := rfl) (by decide) (by decide) rfl rfl (Nat.le_of_ble_eq_true rfl) rfl ?_
        refine Z.iastH dX5_findFree_92 a5_free H (fun M8 H => ?_)
        refine Z.aload_n dX5_findFree_93 0 rfl ?_
        refine Z.dup dX5_findFree_94 rfl ?_
        refine Z.get dX5_findFree_95 inX5 (hc := rfl) (by decide) c5 36 (by decide) kw715 rfl rfl ?_
        refine Z.iconst (v := 1) dX5_findFree_98 (by decide) ?_
        refine Z.iadd dX5_findFree_99 ?_
        refine wE H (fun M9 eM9 H => ?_)
        refine Z.put (ty := .int) (M' := M9) dX5_findFree_100 inX5 tyX5_ok nmX5 (hc := rfl) (by decide) c5 36 (by decide) kw715 rfl rfl (by decide +kernel) rfl rfl (Nat.le_of_ble_eq_true rfl) (by rw [← eM9, c5, sI_k]; exact congrArg (fun q => Sum.inr (5, q)) u5_cells) (by rw [← eM9]; exact sI_o) (by rw [← eM9]; exact (fun q => q)) ?_
        refine Z.sub [0, 1, 2, 3] rfl ?_
        exact tX5_findFree_103  (x1) (x2) (x3) M9 hk13 hk32 H
theorem tX5_findFree_32L {l : Launch} {E : Env5}   {k13 : Int32 → Int32 → Mem → Option Mem}  {M9 : Mem} (hk13 : ∀ (x1 : Int32) (x2 : Int32) (M : Mem), k13 x1 x2 M = some M9 → Z l E RX5 cX5_findFree 4 none 7 13 [(0, .ref (eA E (42))), (1, .int (x1)), (2, .int (x2))] [] M (PR none M9)) : ∀ (n : Nat) (x1 : Int32) (x2 : Int32) (x3 : Int32) (M : Mem), fX5_findFree_32L k13  n x1 x2 x3 M = some M9 → Z l E RX5 cX5_findFree 4 none 7 32 [(0, .ref (eA E (42))), (1, .int (x1)), (2, .int (x2)), (3, .int (x3))] [] M (PR none M9) := by
  intro n
  induction n with
  | zero => intro x1 x2 x3 M H; exact absurd H (by simp [fX5_findFree_32L])
  | succ n ih => intro x1 x2 x3 M H; exact tX5_findFree_32  x1 x2 x3 M hk13 (fun x1 x2 x3 M H => ih x1 x2 x3 M H) H
set_option maxRecDepth 100000 in
theorem tX5_findFree_13 {l : Launch} {E : Env5}   {k13 : Int32 → Int32 → Mem → Option Mem} (x1 : Int32) (x2 : Int32) (M : Mem) {M9 : Mem} (hk13 : ∀ (x1 : Int32) (x2 : Int32) (M : Mem), k13 x1 x2 M = some M9 → Z l E RX5 cX5_findFree 4 none 7 13 [(0, .ref (eA E (42))), (1, .int (x1)), (2, .int (x2))] [] M (PR none M9)) (H : fX5_findFree_13B k13 x1 x2 M = some M9) : Z l E RX5 cX5_findFree 4 none 7 13 [(0, .ref (eA E (42))), (1, .int (x1)), (2, .int (x2))] [] M (PR none M9) := by
  unfold fX5_findFree_13B at H
  refine Z.iload_n dX5_findFree_13 2 rfl ?_
  refine Z.aload_n dX5_findFree_14 0 rfl ?_
  refine Z.get dX5_findFree_15 inX5 (hc := rfl) (by decide) c5 9 (by decide) kw688 rfl rfl ?_
  refine Z.iconst (v := 5) dX5_findFree_18 (by decide) ?_
  refine Z.iload_n dX5_findFree_19 1 rfl ?_
  refine Z.imul dX5_findFree_20 ?_
  refine Z.iconst (v := 3) dX5_findFree_21 (by decide) ?_
  refine Z.iadd dX5_findFree_22 ?_
  refine Z.ialdH dX5_findFree_23 a5_picture H (fun v1 H => ?_)
  refine Z.icmp_gtH dX5_findFree_24 H (fun br24 H => ?_) (fun br24 H => ?_)
  · exact Z.vret rfl dX5_findFree_115 (retV H)
  · refine Z.iload_n dX5_findFree_27 2 rfl ?_
    refine Z.iconst (v := 2) dX5_findFree_28 (by decide) ?_
    refine Z.idiv dX5_findFree_29 (by decide) ?_
    refine Z.ineg dX5_findFree_30 ?_
    refine Z.istore_n (lv' := [(3, .int (-(x2 / 2))), (0, .ref (eA E (42))), (1, .int (x1)), (2, .int (x2))]) dX5_findFree_31 (by decide) rfl ?_
    refine Z.sub [1, 2, 3, 0] rfl ?_
    exact tX5_findFree_32L  hk13 FU (x1) (x2) (-(x2 / 2)) M H
theorem tX5_findFree_13L {l : Launch} {E : Env5}     {M9 : Mem}  : ∀ (n : Nat) (x1 : Int32) (x2 : Int32) (M : Mem), fX5_findFree_13L   n x1 x2 M = some M9 → Z l E RX5 cX5_findFree 4 none 7 13 [(0, .ref (eA E (42))), (1, .int (x1)), (2, .int (x2))] [] M (PR none M9) := by
  intro n
  induction n with
  | zero => intro x1 x2 M H; exact absurd H (by simp [fX5_findFree_13L])
  | succ n ih => intro x1 x2 M H; exact tX5_findFree_13  x1 x2 M  (fun x1 x2 M H => ih x1 x2 M H) H
set_option maxRecDepth 100000 in
theorem tX5_findFree_0 {l : Launch} {E : Env5}    (x1 : Int32) (M : Mem) {M9 : Mem}  (H : fX5_findFree  x1 M = some M9) : Z l E RX5 cX5_findFree 4 none 7 0 [(0, .ref (eA E (42))), (1, .int (x1))] [] M (PR none M9) := by
  unfold fX5_findFree at H
  refine Z.aload_n dX5_findFree_0 0 rfl ?_
  refine Z.iconst (v := 0) dX5_findFree_1 (by decide) ?_
  refine wE H (fun M1 eM1 H => ?_)
  refine Z.put (ty := .int) (M' := M1) dX5_findFree_2 inX5 tyX5_ok nmX5 (hc := rfl) (by decide) c5 36 (by decide) kw715 rfl rfl (by decide +kernel) rfl rfl (Nat.le_of_ble_eq_true rfl) (by rw [← eM1, c5, sI_k]; exact congrArg (fun q => Sum.inr (5, q)) u5_cells) (by rw [← eM1]; exact sI_o) (by rw [← eM1]; exact (fun q => q)) ?_
  refine Z.aload_n dX5_findFree_5 0 rfl ?_
  refine Z.iload_n dX5_findFree_6 1 rfl ?_
  refine Z.iconst (v := 0) dX5_findFree_7 (by decide) ?_
  refine bindC H (fun v2 hv2 H => ?_)
  refine Z.callV (As := [.int (x1), .int (0)]) (rest := []) (st' := []) dX5_findFree_8 (kX5_lookAs  (x1) (0) M1 hv2) kw892 kw894 ks44 kw7 kw895 hdX5_lookAs (by decide) c5 (hc := rfl) (by decide) (by decide) rfl rfl (Nat.le_of_ble_eq_true rfl) rfl ?_
  refine Z.iconst (v := 1) dX5_findFree_11 (by decide) ?_
  refine Z.istore_n (lv' := [(2, .int (1)), (0, .ref (eA E (42))), (1, .int (x1))]) dX5_findFree_12 (by decide) rfl ?_
  refine Z.sub [1, 2, 0] rfl ?_
  exact tX5_findFree_13L   FU (x1) (1) v2 H
theorem kX5_findFree {l : Launch} {E : Env5}   (x1 : Int32) (M : Mem) {M9 : Mem} (H : fX5_findFree x1 M = some M9) : Cn l E yX5_findFree cX5_findFree 4 none 7 [.ref (eA E (42)), .int (x1)] M (PR none M9) := Cn.ofZ rfl (Nat.le_of_ble_eq_true rfl) rfl (tX5_findFree_0  x1 M H)
theorem hdX5_findFree : yX5_findFree.cls ≠ "java/lang/invoke/MethodHandle" ∧ yX5_findFree.cls ≠ "java/lang/invoke/VarHandle" ∧ (parseMethodDescriptor yX5_findFree.desc).map (fun d => d.parameters.length) = some 1 := by decide +kernel

set_option maxRecDepth 100000 in
theorem tX5_empty_231 {l : Launch} {E : Env5}   {k122 : Int32 → Int32 → Int32 → Int32 → Mem → Option (Int32 × Mem)} (x3 : Int32) (x4 : Int32) (x6 : Int32) (s0 : Int32) (M : Mem) {v9 : Int32} {M9 : Mem} (hk122 : ∀ (x3 : Int32) (x4 : Int32) (x5 : Int32) (x6 : Int32) (M : Mem), k122 x3 x4 x5 x6 M = some (v9, M9) → Z l E RX5 cX5_empty 9 (some .int) 8 122 [(0, .ref (eA E (42))), (3, .int (x3)), (4, .int (x4)), (5, .int (x5)), (6, .int (x6))] [] M (PR (some (.int v9)) M9)) (H : fX5_empty_231 k122 x3 x4 x6 s0 M = some (v9, M9)) : Z l E RX5 cX5_empty 9 (some .int) 8 231 [(0, .ref (eA E (42))), (3, .int (x3)), (4, .int (x4)), (6, .int (x6))] [.int (s0)] M (PR (some (.int v9)) M9) := by
  unfold fX5_empty_231 at H
  refine Z.istore (lv' := [(5, .int (s0)), (0, .ref (eA E (42))), (3, .int (x3)), (4, .int (x4)), (6, .int (x6))]) dX5_empty_231 (by decide) rfl ?_
  refine Z.iinc (v := x6 + 1) (lv' := [(6, .int (x6 + 1)), (5, .int (s0)), (0, .ref (eA E (42))), (3, .int (x3)), (4, .int (x4))]) dX5_empty_233 4 rfl rfl (by decide) rfl ?_
  refine Z.goto dX5_empty_236 ?_
  refine Z.sub [2, 3, 4, 1, 0] rfl ?_
  exact hk122 (x3) (x4) (s0) (x6 + 1) M  H
set_option maxRecDepth 100000 in
theorem tX5_empty_219 {l : Launch} {E : Env5}   {k122 : Int32 → Int32 → Int32 → Int32 → Mem → Option (Int32 × Mem)} (x3 : Int32) (x4 : Int32) (x5 : Int32) (x6 : Int32) (x7 : Int32) (M : Mem) {v9 : Int32} {M9 : Mem} (hk122 : ∀ (x3 : Int32) (x4 : Int32) (x5 : Int32) (x6 : Int32) (M : Mem), k122 x3 x4 x5 x6 M = some (v9, M9) → Z l E RX5 cX5_empty 9 (some .int) 8 122 [(0, .ref (eA E (42))), (3, .int (x3)), (4, .int (x4)), (5, .int (x5)), (6, .int (x6))] [] M (PR (some (.int v9)) M9)) (H : fX5_empty_219 k122 x3 x4 x5 x6 x7 M = some (v9, M9)) : Z l E RX5 cX5_empty 9 (some .int) 8 219 [(0, .ref (eA E (42))), (3, .int (x3)), (4, .int (x4)), (5, .int (x5)), (6, .int (x6)), (7, .int (x7))] [] M (PR (some (.int v9)) M9) := by
  unfold fX5_empty_219 at H
  refine Z.iload dX5_empty_219 5 rfl ?_
  refine Z.if_eqH dX5_empty_221 H (fun br221 H => ?_) (fun br221 H => ?_)
  · refine Z.iload dX5_empty_229 3 rfl ?_
    refine Z.sub [0, 1, 2, 4] rfl ?_
    exact tX5_empty_231  (x3) (x4) (x6) (x5) M hk122 H
  · refine Z.iload dX5_empty_224 4 rfl ?_
    refine Z.goto dX5_empty_226 ?_
    refine Z.sub [0, 1, 2, 4] rfl ?_
    exact tX5_empty_231  (x3) (x4) (x6) (x6) M hk122 H
set_option maxRecDepth 100000 in
theorem tX5_empty_211 {l : Launch} {E : Env5}   {k122 : Int32 → Int32 → Int32 → Int32 → Mem → Option (Int32 × Mem)} {k179 : Int32 → Int32 → Int32 → Int32 → Int32 → Int32 → Mem → Option (Int32 × Mem)} (x3 : Int32) (x4 : Int32) (x5 : Int32) (x6 : Int32) (x8 : Int32) (s0 : Int32) (M : Mem) {v9 : Int32} {M9 : Mem} (hk122 : ∀ (x3 : Int32) (x4 : Int32) (x5 : Int32) (x6 : Int32) (M : Mem), k122 x3 x4 x5 x6 M = some (v9, M9) → Z l E RX5 cX5_empty 9 (some .int) 8 122 [(0, .ref (eA E (42))), (3, .int (x3)), (4, .int (x4)), (5, .int (x5)), (6, .int (x6))] [] M (PR (some (.int v9)) M9)) (hk179 : ∀ (x3 : Int32) (x4 : Int32) (x5 : Int32) (x6 : Int32) (x7 : Int32) (x8 : Int32) (M : Mem), k179 x3 x4 x5 x6 x7 x8 M = some (v9, M9) → Z l E RX5 cX5_empty 9 (some .int) 8 179 [(0, .ref (eA E (42))), (3, .int (x3)), (4, .int (x4)), (5, .int (x5)), (6, .int (x6)), (7, .int (x7)), (8, .int (x8))] [] M (PR (some (.int v9)) M9)) (H : fX5_empty_211 k122 k179 x3 x4 x5 x6 x8 s0 M = some (v9, M9)) : Z l E RX5 cX5_empty 9 (some .int) 8 211 [(0, .ref (eA E (42))), (3, .int (x3)), (4, .int (x4)), (5, .int (x5)), (6, .int (x6)), (8, .int (x8))] [.int (s0)] M (PR (some (.int v9)) M9) := by
  unfold fX5_empty_211 at H
  refine Z.istore (lv' := [(7, .int (s0)), (0, .ref (eA E (42))), (3, .int (x3)), (4, .int (x4)), (5, .int (x5)), (6, .int (x6)), (8, .int (x8))]) dX5_empty_211 (by decide) rfl ?_
  refine Z.iinc (v := x8 + 1) (lv' := [(8, .int (x8 + 1)), (7, .int (s0)), (0, .ref (eA E (42))), (3, .int (x3)), (4, .int (x4)), (5, .int (x5)), (6, .int (x6))]) dX5_empty_213 6 rfl rfl (by decide) rfl ?_
  refine Z.goto dX5_empty_216 ?_
  refine Z.sub [2, 3, 4, 5, 6, 1, 0] rfl ?_
  exact hk179 (x3) (x4) (x5) (x6) (s0) (x8 + 1) M  H
set_option maxRecDepth 100000 in
theorem tX5_empty_179 {l : Launch} {E : Env5}   {k122 : Int32 → Int32 → Int32 → Int32 → Mem → Option (Int32 × Mem)} {k179 : Int32 → Int32 → Int32 → Int32 → Int32 → Int32 → Mem → Option (Int32 × Mem)} (x3 : Int32) (x4 : Int32) (x5 : Int32) (x6 : Int32) (x7 : Int32) (x8 : Int32) (M : Mem) {v9 : Int32} {M9 : Mem} (hk122 : ∀ (x3 : Int32) (x4 : Int32) (x5 : Int32) (x6 : Int32) (M : Mem), k122 x3 x4 x5 x6 M = some (v9, M9) → Z l E RX5 cX5_empty 9 (some .int) 8 122 [(0, .ref (eA E (42))), (3, .int (x3)), (4, .int (x4)), (5, .int (x5)), (6, .int (x6))] [] M (PR (some (.int v9)) M9)) (hk179 : ∀ (x3 : Int32) (x4 : Int32) (x5 : Int32) (x6 : Int32) (x7 : Int32) (x8 : Int32) (M : Mem), k179 x3 x4 x5 x6 x7 x8 M = some (v9, M9) → Z l E RX5 cX5_empty 9 (some .int) 8 179 [(0, .ref (eA E (42))), (3, .int (x3)), (4, .int (x4)), (5, .int (x5)), (6, .int (x6)), (7, .int (x7)), (8, .int (x8))] [] M (PR (some (.int v9)) M9)) (H : fX5_empty_179B k122 k179 x3 x4 x5 x6 x7 x8 M = some (v9, M9)) : Z l E RX5 cX5_empty 9 (some .int) 8 179 [(0, .ref (eA E (42))), (3, .int (x3)), (4, .int (x4)), (5, .int (x5)), (6, .int (x6)), (7, .int (x7)), (8, .int (x8))] [] M (PR (some (.int v9)) M9) := by
  unfold fX5_empty_179B at H
  refine Z.iload dX5_empty_179 6 rfl ?_
  refine Z.aload_n dX5_empty_181 0 rfl ?_
  refine Z.get dX5_empty_182 inX5 (hc := rfl) (by decide) c5 36 (by decide) kw715 rfl rfl ?_
  refine Z.icmp_geH dX5_empty_185 H (fun br185 H => ?_) (fun br185 H => ?_)
  · refine Z.sub [0, 1, 2, 3, 4, 5] rfl ?_
    exact tX5_empty_219  (x3) (x4) (x5) (x6) (x7) M hk122 H
  · refine Z.iload dX5_empty_188 5 rfl ?_
    refine Z.if_eqH dX5_empty_190 H (fun br190 H => ?_) (fun br190 H => ?_)
    · refine Z.sub [0, 1, 2, 3, 4, 5] rfl ?_
      exact tX5_empty_219  (x3) (x4) (x5) (x6) (x7) M hk122 H
    · refine Z.aload_n dX5_empty_193 0 rfl ?_
      refine Z.get dX5_empty_194 inX5 (hc := rfl) (by decide) c5 35 (by decide) kw714 rfl rfl ?_
      refine Z.iload dX5_empty_197 6 rfl ?_
      refine Z.ialdH dX5_empty_199 a5_free H (fun v1 H => ?_)
      refine Z.iload dX5_empty_200 4 rfl ?_
      refine Z.iand dX5_empty_202 ?_
      refine Z.if_eqH dX5_empty_203 H (fun br203 H => ?_) (fun br203 H => ?_)
      · refine Z.iconst (v := 0) dX5_empty_210 (by decide) ?_
        refine Z.sub [0, 1, 2, 3, 4, 6] rfl ?_
        exact tX5_empty_211  (x3) (x4) (x5) (x6) (x8) (0) M hk122 hk179 H
      · refine Z.iconst (v := 1) dX5_empty_206 (by decide) ?_
        refine Z.goto dX5_empty_207 ?_
        refine Z.sub [0, 1, 2, 3, 4, 6] rfl ?_
        exact tX5_empty_211  (x3) (x4) (x5) (x6) (x8) (1) M hk122 hk179 H
theorem tX5_empty_179L {l : Launch} {E : Env5}   {k122 : Int32 → Int32 → Int32 → Int32 → Mem → Option (Int32 × Mem)}  {v9 : Int32} {M9 : Mem} (hk122 : ∀ (x3 : Int32) (x4 : Int32) (x5 : Int32) (x6 : Int32) (M : Mem), k122 x3 x4 x5 x6 M = some (v9, M9) → Z l E RX5 cX5_empty 9 (some .int) 8 122 [(0, .ref (eA E (42))), (3, .int (x3)), (4, .int (x4)), (5, .int (x5)), (6, .int (x6))] [] M (PR (some (.int v9)) M9)) : ∀ (n : Nat) (x3 : Int32) (x4 : Int32) (x5 : Int32) (x6 : Int32) (x7 : Int32) (x8 : Int32) (M : Mem), fX5_empty_179L k122  n x3 x4 x5 x6 x7 x8 M = some (v9, M9) → Z l E RX5 cX5_empty 9 (some .int) 8 179 [(0, .ref (eA E (42))), (3, .int (x3)), (4, .int (x4)), (5, .int (x5)), (6, .int (x6)), (7, .int (x7)), (8, .int (x8))] [] M (PR (some (.int v9)) M9) := by
  intro n
  induction n with
  | zero => intro x3 x4 x5 x6 x7 x8 M H; exact absurd H (by simp [fX5_empty_179L])
  | succ n ih => intro x3 x4 x5 x6 x7 x8 M H; exact tX5_empty_179  x3 x4 x5 x6 x7 x8 M hk122 (fun x3 x4 x5 x6 x7 x8 M H => ih x3 x4 x5 x6 x7 x8 M H) H
set_option maxRecDepth 100000 in
theorem tX5_empty_174 {l : Launch} {E : Env5}   {k122 : Int32 → Int32 → Int32 → Int32 → Mem → Option (Int32 × Mem)} (x3 : Int32) (x4 : Int32) (x5 : Int32) (x6 : Int32) (s0 : Int32) (M : Mem) {v9 : Int32} {M9 : Mem} (hk122 : ∀ (x3 : Int32) (x4 : Int32) (x5 : Int32) (x6 : Int32) (M : Mem), k122 x3 x4 x5 x6 M = some (v9, M9) → Z l E RX5 cX5_empty 9 (some .int) 8 122 [(0, .ref (eA E (42))), (3, .int (x3)), (4, .int (x4)), (5, .int (x5)), (6, .int (x6))] [] M (PR (some (.int v9)) M9)) (H : fX5_empty_174 k122 x3 x4 x5 x6 s0 M = some (v9, M9)) : Z l E RX5 cX5_empty 9 (some .int) 8 174 [(0, .ref (eA E (42))), (3, .int (x3)), (4, .int (x4)), (5, .int (x5)), (6, .int (x6))] [.int (s0)] M (PR (some (.int v9)) M9) := by
  unfold fX5_empty_174 at H
  refine Z.istore (lv' := [(7, .int (s0)), (0, .ref (eA E (42))), (3, .int (x3)), (4, .int (x4)), (5, .int (x5)), (6, .int (x6))]) dX5_empty_174 (by decide) rfl ?_
  refine Z.iconst (v := 0) dX5_empty_176 (by decide) ?_
  refine Z.istore (lv' := [(8, .int (0)), (7, .int (s0)), (0, .ref (eA E (42))), (3, .int (x3)), (4, .int (x4)), (5, .int (x5)), (6, .int (x6))]) dX5_empty_177 (by decide) rfl ?_
  refine Z.sub [2, 3, 4, 5, 6, 1, 0] rfl ?_
  exact tX5_empty_179L  hk122 FU (x3) (x4) (x5) (x6) (s0) (0) M H
set_option maxRecDepth 100000 in
theorem tX5_empty_173 {l : Launch} {E : Env5}   {k122 : Int32 → Int32 → Int32 → Int32 → Mem → Option (Int32 × Mem)} (x3 : Int32) (x4 : Int32) (x5 : Int32) (x6 : Int32) (M : Mem) {v9 : Int32} {M9 : Mem} (hk122 : ∀ (x3 : Int32) (x4 : Int32) (x5 : Int32) (x6 : Int32) (M : Mem), k122 x3 x4 x5 x6 M = some (v9, M9) → Z l E RX5 cX5_empty 9 (some .int) 8 122 [(0, .ref (eA E (42))), (3, .int (x3)), (4, .int (x4)), (5, .int (x5)), (6, .int (x6))] [] M (PR (some (.int v9)) M9)) (H : fX5_empty_173 k122 x3 x4 x5 x6 M = some (v9, M9)) : Z l E RX5 cX5_empty 9 (some .int) 8 173 [(0, .ref (eA E (42))), (3, .int (x3)), (4, .int (x4)), (5, .int (x5)), (6, .int (x6))] [] M (PR (some (.int v9)) M9) := by
  unfold fX5_empty_173 at H
  refine Z.iconst (v := 0) dX5_empty_173 (by decide) ?_
  refine Z.sub [0, 1, 2, 3, 4] rfl ?_
  exact tX5_empty_174  (x3) (x4) (x5) (x6) (0) M hk122 H
set_option maxRecDepth 100000 in
theorem tX5_empty_169 {l : Launch} {E : Env5}   {k122 : Int32 → Int32 → Int32 → Int32 → Mem → Option (Int32 × Mem)} (x3 : Int32) (x4 : Int32) (x5 : Int32) (x6 : Int32) (M : Mem) {v9 : Int32} {M9 : Mem} (hk122 : ∀ (x3 : Int32) (x4 : Int32) (x5 : Int32) (x6 : Int32) (M : Mem), k122 x3 x4 x5 x6 M = some (v9, M9) → Z l E RX5 cX5_empty 9 (some .int) 8 122 [(0, .ref (eA E (42))), (3, .int (x3)), (4, .int (x4)), (5, .int (x5)), (6, .int (x6))] [] M (PR (some (.int v9)) M9)) (H : fX5_empty_169 k122 x3 x4 x5 x6 M = some (v9, M9)) : Z l E RX5 cX5_empty 9 (some .int) 8 169 [(0, .ref (eA E (42))), (3, .int (x3)), (4, .int (x4)), (5, .int (x5)), (6, .int (x6))] [] M (PR (some (.int v9)) M9) := by
  unfold fX5_empty_169 at H
  refine Z.iconst (v := 1) dX5_empty_169 (by decide) ?_
  refine Z.goto dX5_empty_170 ?_
  refine Z.sub [0, 1, 2, 3, 4] rfl ?_
  exact tX5_empty_174  (x3) (x4) (x5) (x6) (1) M hk122 H
set_option maxRecDepth 100000 in
theorem tX5_empty_122 {l : Launch} {E : Env5}   {k122 : Int32 → Int32 → Int32 → Int32 → Mem → Option (Int32 × Mem)} (x3 : Int32) (x4 : Int32) (x5 : Int32) (x6 : Int32) (M : Mem) {v9 : Int32} {M9 : Mem} (hk122 : ∀ (x3 : Int32) (x4 : Int32) (x5 : Int32) (x6 : Int32) (M : Mem), k122 x3 x4 x5 x6 M = some (v9, M9) → Z l E RX5 cX5_empty 9 (some .int) 8 122 [(0, .ref (eA E (42))), (3, .int (x3)), (4, .int (x4)), (5, .int (x5)), (6, .int (x6))] [] M (PR (some (.int v9)) M9)) (H : fX5_empty_122B k122 x3 x4 x5 x6 M = some (v9, M9)) : Z l E RX5 cX5_empty 9 (some .int) 8 122 [(0, .ref (eA E (42))), (3, .int (x3)), (4, .int (x4)), (5, .int (x5)), (6, .int (x6))] [] M (PR (some (.int v9)) M9) := by
  unfold fX5_empty_122B at H
  refine Z.iload dX5_empty_122 4 rfl ?_
  refine Z.iconst (v := 1) dX5_empty_124 (by decide) ?_
  refine Z.aload_n dX5_empty_125 0 rfl ?_
  refine Z.get dX5_empty_126 inX5 (hc := rfl) (by decide) c5 8 (by decide) kw687 rfl rfl ?_
  refine Z.iconst (v := 0) dX5_empty_129 (by decide) ?_
  refine Z.ialdH dX5_empty_130 a5_pictures H (fun v1 H => ?_)
  refine Z.ishl dX5_empty_131 ?_
  refine Z.icmp_geH dX5_empty_132 H (fun br132 H => ?_) (fun br132 H => ?_)
  · refine Z.iload dX5_empty_239 3 rfl ?_
    exact Z.iret rfl dX5_empty_241 (retW H)
  · refine Z.iload_n dX5_empty_135 1 rfl ?_
    refine Z.if_neH dX5_empty_136 H (fun br136 H => ?_) (fun br136 H => ?_)
    · refine Z.iload dX5_empty_239 3 rfl ?_
      exact Z.iret rfl dX5_empty_241 (retW H)
    · refine Z.iload dX5_empty_139 4 rfl ?_
      refine Z.iload dX5_empty_141 2 rfl ?_
      refine Z.iconst (v := (-1)) dX5_empty_143 (by decide) ?_
      refine Z.ixor dX5_empty_144 ?_
      refine Z.iand dX5_empty_145 ?_
      refine Z.if_neH dX5_empty_146 H (fun br146 H => ?_) (fun br146 H => ?_)
      · refine Z.sub [0, 1, 2, 3, 4] rfl ?_
        exact tX5_empty_173  (x3) (x4) (x5) (x6) M hk122 H
      · refine Z.iload dX5_empty_149 3 rfl ?_
        refine Z.bipush (v := (-9)) dX5_empty_151 (by decide) ?_
        refine Z.icmp_eqH dX5_empty_153 H (fun br153 H => ?_) (fun br153 H => ?_)
        · refine Z.sub [0, 1, 2, 3, 4] rfl ?_
          exact tX5_empty_169  (x3) (x4) (x5) (x6) M hk122 H
        · refine Z.iload dX5_empty_156 4 rfl ?_
          refine bindC H (fun v2 hv2 H => ?_)
          refine Z.callS (As := [.int (x6)]) (rest := []) (st' := [.int (v2)]) dX5_empty_158 (kX5_bitsIn  (x6) M hv2) kw977 kw978 kw7 kw979 hdX5_bitsIn (by decide) (by decide) rfl rfl (Nat.le_of_ble_eq_true rfl) rfl ?_
          refine Z.iload dX5_empty_161 3 rfl ?_
          refine bindC H (fun v3 hv3 H => ?_)
          refine Z.callS (As := [.int (x5)]) (rest := [.int (v2)]) (st' := [.int (v3), .int (v2)]) dX5_empty_163 (kX5_bitsIn  (x5) M hv3) kw977 kw978 kw7 kw979 hdX5_bitsIn (by decide) (by decide) rfl rfl (Nat.le_of_ble_eq_true rfl) rfl ?_
          refine Z.icmp_geH dX5_empty_166 H (fun br166 H => ?_) (fun br166 H => ?_)
          · refine Z.sub [0, 1, 2, 3, 4] rfl ?_
            exact tX5_empty_173  (x3) (x4) (x5) (x6) M hk122 H
          · refine Z.sub [0, 1, 2, 3, 4] rfl ?_
            exact tX5_empty_169  (x3) (x4) (x5) (x6) M hk122 H
theorem tX5_empty_122L {l : Launch} {E : Env5}     {v9 : Int32} {M9 : Mem}  : ∀ (n : Nat) (x3 : Int32) (x4 : Int32) (x5 : Int32) (x6 : Int32) (M : Mem), fX5_empty_122L   n x3 x4 x5 x6 M = some (v9, M9) → Z l E RX5 cX5_empty 9 (some .int) 8 122 [(0, .ref (eA E (42))), (3, .int (x3)), (4, .int (x4)), (5, .int (x5)), (6, .int (x6))] [] M (PR (some (.int v9)) M9) := by
  intro n
  induction n with
  | zero => intro x3 x4 x5 x6 M H; exact absurd H (by simp [fX5_empty_122L])
  | succ n ih => intro x3 x4 x5 x6 M H; exact tX5_empty_122  x3 x4 x5 x6 M  (fun x3 x4 x5 x6 M H => ih x3 x4 x5 x6 M H) H
set_option maxRecDepth 100000 in
theorem tX5_empty_106 {l : Launch} {E : Env5}   {k75 : Int32 → Int32 → Int32 → Int32 → Mem → Option (Int32 × Mem)} (x1 : Int32) (x3 : Int32) (x5 : Int32) (s0 : Int32) (s1 : Int32) (M : Mem) {v9 : Int32} {M9 : Mem} (hk75 : ∀ (x1 : Int32) (x3 : Int32) (x4 : Int32) (x5 : Int32) (M : Mem), k75 x1 x3 x4 x5 M = some (v9, M9) → Z l E RX5 cX5_empty 9 (some .int) 8 75 [(0, .ref (eA E (42))), (1, .int (x1)), (3, .int (x3)), (4, .int (x4)), (5, .int (x5))] [] M (PR (some (.int v9)) M9)) (H : fX5_empty_106 k75 x1 x3 x5 s0 s1 M = some (v9, M9)) : Z l E RX5 cX5_empty 9 (some .int) 8 106 [(0, .ref (eA E (42))), (1, .int (x1)), (3, .int (x3)), (5, .int (x5))] [.int (s0), .int (s1)] M (PR (some (.int v9)) M9) := by
  unfold fX5_empty_106 at H
  refine Z.ior dX5_empty_106 ?_
  refine Z.istore (lv' := [(4, .int (s1 ||| s0)), (0, .ref (eA E (42))), (1, .int (x1)), (3, .int (x3)), (5, .int (x5))]) dX5_empty_107 (by decide) rfl ?_
  refine Z.iinc (v := x5 + 1) (lv' := [(5, .int (x5 + 1)), (4, .int (s1 ||| s0)), (0, .ref (eA E (42))), (1, .int (x1)), (3, .int (x3))]) dX5_empty_109 4 rfl rfl (by decide) rfl ?_
  refine Z.goto dX5_empty_112 ?_
  refine Z.sub [2, 3, 4, 1, 0] rfl ?_
  exact hk75 (x1) (x3) (s1 ||| s0) (x5 + 1) M  H
set_option maxRecDepth 100000 in
theorem tX5_empty_75 {l : Launch} {E : Env5}   {k75 : Int32 → Int32 → Int32 → Int32 → Mem → Option (Int32 × Mem)} (x1 : Int32) (x3 : Int32) (x4 : Int32) (x5 : Int32) (M : Mem) {v9 : Int32} {M9 : Mem} (hk75 : ∀ (x1 : Int32) (x3 : Int32) (x4 : Int32) (x5 : Int32) (M : Mem), k75 x1 x3 x4 x5 M = some (v9, M9) → Z l E RX5 cX5_empty 9 (some .int) 8 75 [(0, .ref (eA E (42))), (1, .int (x1)), (3, .int (x3)), (4, .int (x4)), (5, .int (x5))] [] M (PR (some (.int v9)) M9)) (H : fX5_empty_75B k75 x1 x3 x4 x5 M = some (v9, M9)) : Z l E RX5 cX5_empty 9 (some .int) 8 75 [(0, .ref (eA E (42))), (1, .int (x1)), (3, .int (x3)), (4, .int (x4)), (5, .int (x5))] [] M (PR (some (.int v9)) M9) := by
  unfold fX5_empty_75B at H
  refine Z.iload dX5_empty_75 4 rfl ?_
  refine Z.aload_n dX5_empty_77 0 rfl ?_
  refine Z.get dX5_empty_78 inX5 (hc := rfl) (by decide) c5 8 (by decide) kw687 rfl rfl ?_
  refine Z.iconst (v := 0) dX5_empty_81 (by decide) ?_
  refine Z.ialdH dX5_empty_82 a5_pictures H (fun v1 H => ?_)
  refine Z.icmp_geH dX5_empty_83 H (fun br83 H => ?_) (fun br83 H => ?_)
  · refine Z.bipush (v := (-9)) dX5_empty_115 (by decide) ?_
    refine Z.istore (lv' := [(5, .int ((-9))), (0, .ref (eA E (42))), (1, .int (x1)), (3, .int (x3)), (4, .int (x4))]) dX5_empty_117 (by decide) rfl ?_
    refine Z.iconst (v := 0) dX5_empty_119 (by decide) ?_
    refine Z.istore (lv' := [(6, .int (0)), (5, .int ((-9))), (0, .ref (eA E (42))), (1, .int (x1)), (3, .int (x3)), (4, .int (x4))]) dX5_empty_120 (by decide) rfl ?_
    refine Z.sub [2, 4, 5, 1, 0] rfl ?_
    exact tX5_empty_122L   FU (x3) (x4) ((-9)) (0) M H
  · refine Z.iload dX5_empty_86 3 rfl ?_
    refine Z.aload_n dX5_empty_88 0 rfl ?_
    refine Z.iload_n dX5_empty_89 1 rfl ?_
    refine Z.iload dX5_empty_90 4 rfl ?_
    refine bindC H (fun v2 hv2 H => ?_)
    refine Z.callV (As := [.int (x1), .int (x5)]) (rest := [.int (x4)]) (st' := [.int (v2), .int (x4)]) dX5_empty_92 (kX5_isAlike  (x1) (x5) M hv2) kw1015 kw1017 ks59 kw7 kw1018 hdX5_isAlike (by decide) c5 (hc := rfl) (by decide) (by decide) rfl rfl (Nat.le_of_ble_eq_true rfl) rfl ?_
    refine Z.if_eqH dX5_empty_95 H (fun br95 H => ?_) (fun br95 H => ?_)
    · refine Z.iconst (v := 0) dX5_empty_105 (by decide) ?_
      refine Z.sub [0, 1, 2, 4] rfl ?_
      exact tX5_empty_106  (x1) (x3) (x5) (0) (x4) M hk75 H
    · refine Z.iconst (v := 1) dX5_empty_98 (by decide) ?_
      refine Z.iload dX5_empty_99 4 rfl ?_
      refine Z.ishl dX5_empty_101 ?_
      refine Z.goto dX5_empty_102 ?_
      refine Z.sub [0, 1, 2, 4] rfl ?_
      exact tX5_empty_106  (x1) (x3) (x5) (1 <<< (x5 &&& 31)) (x4) M hk75 H
theorem tX5_empty_75L {l : Launch} {E : Env5}     {v9 : Int32} {M9 : Mem}  : ∀ (n : Nat) (x1 : Int32) (x3 : Int32) (x4 : Int32) (x5 : Int32) (M : Mem), fX5_empty_75L   n x1 x3 x4 x5 M = some (v9, M9) → Z l E RX5 cX5_empty 9 (some .int) 8 75 [(0, .ref (eA E (42))), (1, .int (x1)), (3, .int (x3)), (4, .int (x4)), (5, .int (x5))] [] M (PR (some (.int v9)) M9) := by
  intro n
  induction n with
  | zero => intro x1 x3 x4 x5 M H; exact absurd H (by simp [fX5_empty_75L])
  | succ n ih => intro x1 x3 x4 x5 M H; exact tX5_empty_75  x1 x3 x4 x5 M  (fun x1 x3 x4 x5 M H => ih x1 x3 x4 x5 M H) H
set_option maxRecDepth 100000 in
theorem tX5_empty_54 {l : Launch} {E : Env5}   {k29 : Int32 → Int32 → Int32 → Int32 → Mem → Option (Int32 × Mem)} (x1 : Int32) (x2 : Int32) (x4 : Int32) (s0 : Int32) (s1 : Int32) (M : Mem) {v9 : Int32} {M9 : Mem} (hk29 : ∀ (x1 : Int32) (x2 : Int32) (x3 : Int32) (x4 : Int32) (M : Mem), k29 x1 x2 x3 x4 M = some (v9, M9) → Z l E RX5 cX5_empty 9 (some .int) 8 29 [(0, .ref (eA E (42))), (1, .int (x1)), (2, .int (x2)), (3, .int (x3)), (4, .int (x4))] [] M (PR (some (.int v9)) M9)) (H : fX5_empty_54 k29 x1 x2 x4 s0 s1 M = some (v9, M9)) : Z l E RX5 cX5_empty 9 (some .int) 8 54 [(0, .ref (eA E (42))), (1, .int (x1)), (2, .int (x2)), (4, .int (x4))] [.int (s0), .int (s1)] M (PR (some (.int v9)) M9) := by
  unfold fX5_empty_54 at H
  refine Z.iadd dX5_empty_54 ?_
  refine Z.istore_n (lv' := [(3, .int (s1 + s0)), (0, .ref (eA E (42))), (1, .int (x1)), (2, .int (x2)), (4, .int (x4))]) dX5_empty_55 (by decide) rfl ?_
  refine Z.iinc (v := x4 + 1) (lv' := [(4, .int (x4 + 1)), (3, .int (s1 + s0)), (0, .ref (eA E (42))), (1, .int (x1)), (2, .int (x2))]) dX5_empty_56 4 rfl rfl (by decide) rfl ?_
  refine Z.goto dX5_empty_59 ?_
  refine Z.sub [2, 3, 4, 1, 0] rfl ?_
  exact hk29 (x1) (x2) (s1 + s0) (x4 + 1) M  H
set_option maxRecDepth 100000 in
theorem tX5_empty_29 {l : Launch} {E : Env5}   {k29 : Int32 → Int32 → Int32 → Int32 → Mem → Option (Int32 × Mem)} (x1 : Int32) (x2 : Int32) (x3 : Int32) (x4 : Int32) (M : Mem) {v9 : Int32} {M9 : Mem} (hk29 : ∀ (x1 : Int32) (x2 : Int32) (x3 : Int32) (x4 : Int32) (M : Mem), k29 x1 x2 x3 x4 M = some (v9, M9) → Z l E RX5 cX5_empty 9 (some .int) 8 29 [(0, .ref (eA E (42))), (1, .int (x1)), (2, .int (x2)), (3, .int (x3)), (4, .int (x4))] [] M (PR (some (.int v9)) M9)) (H : fX5_empty_29B k29 x1 x2 x3 x4 M = some (v9, M9)) : Z l E RX5 cX5_empty 9 (some .int) 8 29 [(0, .ref (eA E (42))), (1, .int (x1)), (2, .int (x2)), (3, .int (x3)), (4, .int (x4))] [] M (PR (some (.int v9)) M9) := by
  unfold fX5_empty_29B at H
  refine Z.iload dX5_empty_29 4 rfl ?_
  refine Z.aload_n dX5_empty_31 0 rfl ?_
  refine Z.get dX5_empty_32 inX5 (hc := rfl) (by decide) c5 36 (by decide) kw715 rfl rfl ?_
  refine Z.icmp_geH dX5_empty_35 H (fun br35 H => ?_) (fun br35 H => ?_)
  · refine Z.iload_n dX5_empty_62 2 rfl ?_
    refine Z.iconst (v := 1) dX5_empty_63 (by decide) ?_
    refine Z.icmp_neH dX5_empty_64 H (fun br64 H => ?_) (fun br64 H => ?_)
    · refine Z.iconst (v := 0) dX5_empty_69 (by decide) ?_
      refine Z.istore (lv' := [(4, .int (0)), (0, .ref (eA E (42))), (1, .int (x1)), (2, .int (x2)), (3, .int (x3))]) dX5_empty_70 (by decide) rfl ?_
      refine Z.iconst (v := 0) dX5_empty_72 (by decide) ?_
      refine Z.istore (lv' := [(5, .int (0)), (4, .int (0)), (0, .ref (eA E (42))), (1, .int (x1)), (2, .int (x2)), (3, .int (x3))]) dX5_empty_73 (by decide) rfl ?_
      refine Z.sub [2, 3, 5, 1, 0] rfl ?_
      exact tX5_empty_75L   FU (x1) (x3) (0) (0) M H
    · refine Z.iload_n dX5_empty_67 3 rfl ?_
      exact Z.iret rfl dX5_empty_68 (retW H)
  · refine Z.iload_n dX5_empty_38 3 rfl ?_
    refine Z.aload_n dX5_empty_39 0 rfl ?_
    refine Z.get dX5_empty_40 inX5 (hc := rfl) (by decide) c5 35 (by decide) kw714 rfl rfl ?_
    refine Z.iload dX5_empty_43 4 rfl ?_
    refine Z.ialdH dX5_empty_45 a5_free H (fun v1 H => ?_)
    refine Z.if_neH dX5_empty_46 H (fun br46 H => ?_) (fun br46 H => ?_)
    · refine Z.iconst (v := 0) dX5_empty_53 (by decide) ?_
      refine Z.sub [0, 1, 2, 4] rfl ?_
      exact tX5_empty_54  (x1) (x2) (x4) (0) (x3) M hk29 H
    · refine Z.iconst (v := 1) dX5_empty_49 (by decide) ?_
      refine Z.goto dX5_empty_50 ?_
      refine Z.sub [0, 1, 2, 4] rfl ?_
      exact tX5_empty_54  (x1) (x2) (x4) (1) (x3) M hk29 H
theorem tX5_empty_29L {l : Launch} {E : Env5}     {v9 : Int32} {M9 : Mem}  : ∀ (n : Nat) (x1 : Int32) (x2 : Int32) (x3 : Int32) (x4 : Int32) (M : Mem), fX5_empty_29L   n x1 x2 x3 x4 M = some (v9, M9) → Z l E RX5 cX5_empty 9 (some .int) 8 29 [(0, .ref (eA E (42))), (1, .int (x1)), (2, .int (x2)), (3, .int (x3)), (4, .int (x4))] [] M (PR (some (.int v9)) M9) := by
  intro n
  induction n with
  | zero => intro x1 x2 x3 x4 M H; exact absurd H (by simp [fX5_empty_29L])
  | succ n ih => intro x1 x2 x3 x4 M H; exact tX5_empty_29  x1 x2 x3 x4 M  (fun x1 x2 x3 x4 M H => ih x1 x2 x3 x4 M H) H
set_option maxRecDepth 100000 in
theorem tX5_empty_0 {l : Launch} {E : Env5}    (x1 : Int32) (x2 : Int32) (M : Mem) {v9 : Int32} {M9 : Mem}  (H : fX5_empty  x1 x2 M = some (v9, M9)) : Z l E RX5 cX5_empty 9 (some .int) 8 0 [(0, .ref (eA E (42))), (1, .int (x1)), (2, .int (x2))] [] M (PR (some (.int v9)) M9) := by
  unfold fX5_empty at H
  refine Z.aload_n dX5_empty_0 0 rfl ?_
  refine Z.iload_n dX5_empty_1 1 rfl ?_
  refine bindC H (fun v1 hv1 H => ?_)
  refine Z.callV (As := [.int (x1)]) (rest := []) (st' := [.int (v1)]) dX5_empty_2 (kX5_isPicture  (x1) M hv1) kw858 kw860 ks40 kw7 kw861 hdX5_isPicture (by decide) c5 (hc := rfl) (by decide) (by decide) rfl rfl (Nat.le_of_ble_eq_true rfl) rfl ?_
  refine Z.if_eqH dX5_empty_5 H (fun br5 H => ?_) (fun br5 H => ?_)
  · refine Z.iconst (v := (-1)) dX5_empty_17 (by decide) ?_
    exact Z.iret rfl dX5_empty_18 (retW H)
  · refine Z.iload_n dX5_empty_8 2 rfl ?_
    refine Z.iconst (v := 0) dX5_empty_9 (by decide) ?_
    refine Z.iconst (v := 1) dX5_empty_10 (by decide) ?_
    refine bindC H (fun v2 hv2 H => ?_)
    refine Z.callS (As := [.int (x2), .int (0), .int (1)]) (rest := []) (st' := [.int (v2)]) dX5_empty_11 (kX5_in  (x2) (0) (1) M hv2) kw798 kw799 kw7 kw800 hdX5_in (by decide) (by decide) rfl rfl (Nat.le_of_ble_eq_true rfl) rfl ?_
    refine Z.if_neH dX5_empty_14 H (fun br14 H => ?_) (fun br14 H => ?_)
    · refine Z.aload_n dX5_empty_19 0 rfl ?_
      refine Z.iload_n dX5_empty_20 1 rfl ?_
      refine bindC H (fun v3 hv3 H => ?_)
      refine Z.callV (As := [.int (x1)]) (rest := []) (st' := []) dX5_empty_21 (kX5_findFree  (x1) M hv3) kw1007 kw1009 ks57 kw7 kw1010 hdX5_findFree (by decide) c5 (hc := rfl) (by decide) (by decide) rfl rfl (Nat.le_of_ble_eq_true rfl) rfl ?_
      refine Z.iconst (v := 0) dX5_empty_24 (by decide) ?_
      refine Z.istore_n (lv' := [(3, .int (0)), (0, .ref (eA E (42))), (1, .int (x1)), (2, .int (x2))]) dX5_empty_25 (by decide) rfl ?_
      refine Z.iconst (v := 0) dX5_empty_26 (by decide) ?_
      refine Z.istore (lv' := [(4, .int (0)), (3, .int (0)), (0, .ref (eA E (42))), (1, .int (x1)), (2, .int (x2))]) dX5_empty_27 (by decide) rfl ?_
      refine Z.sub [2, 3, 4, 1, 0] rfl ?_
      exact tX5_empty_29L   FU (x1) (x2) (0) (0) v3 H
    · refine Z.iconst (v := (-1)) dX5_empty_17 (by decide) ?_
      exact Z.iret rfl dX5_empty_18 (retW H)
theorem kX5_empty {l : Launch} {E : Env5}   (x1 : Int32) (x2 : Int32) (M : Mem) {v9 : Int32} {M9 : Mem} (H : fX5_empty x1 x2 M = some (v9, M9)) : Cn l E yX5_empty cX5_empty 9 (some .int) 8 [.ref (eA E (42)), .int (x1), .int (x2)] M (PR (some (.int v9)) M9) := Cn.ofZ rfl (Nat.le_of_ble_eq_true rfl) rfl (tX5_empty_0  x1 x2 M H)
theorem hdX5_empty : yX5_empty.cls ≠ "java/lang/invoke/MethodHandle" ∧ yX5_empty.cls ≠ "java/lang/invoke/VarHandle" ∧ (parseMethodDescriptor yX5_empty.desc).map (fun d => d.parameters.length) = some 2 := by decide +kernel

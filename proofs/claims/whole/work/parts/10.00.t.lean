set_option maxRecDepth 100000 in
theorem tJ7_fill_53178_5 {l : Launch} {E : Env5} {a0 : Nat} {n0 : Nat} (ha0 : iA a0 n0) {k5 : Int32 → Int32 → Int32 → Mem → Option Mem} (x1 : Int32) (x2 : Int32) (x3 : Int32) (M : Mem) {M9 : Mem} (hk5 : ∀ (x1 : Int32) (x2 : Int32) (x3 : Int32) (M : Mem), k5 x1 x2 x3 M = some M9 → Z l E RJ7 cJ7_fill_53178 4 none 0 5 [(0, .ref (eA E (a0))), (1, .int (x1)), (2, .int (x2)), (3, .int (x3))] [] M (PR none M9)) (H : fJ7_fill_53178_5B k5 a0 n0 x1 x2 x3 M = some M9) : Z l E RJ7 cJ7_fill_53178 4 none 0 5 [(0, .ref (eA E (a0))), (1, .int (x1)), (2, .int (x2)), (3, .int (x3))] [] M (PR none M9) := by
  unfold fJ7_fill_53178_5B at H
  refine Z.iload_n dJ7_fill_53178_5 2 rfl ?_
  refine Z.iload_n dJ7_fill_53178_6 3 rfl ?_
  refine Z.icmp_geH dJ7_fill_53178_7 H (fun br7 H => ?_) (fun br7 H => ?_)
  · exact Z.vret rfl dJ7_fill_53178_20 (retV H)
  · refine Z.aload_n dJ7_fill_53178_10 0 rfl ?_
    refine Z.iload_n dJ7_fill_53178_11 2 rfl ?_
    refine Z.iload_n dJ7_fill_53178_12 1 rfl ?_
    refine Z.iastH dJ7_fill_53178_13 ha0 H (fun M1 H => ?_)
    refine Z.iinc (v := x2 + 1) (lv' := [(2, .int (x2 + 1)), (0, .ref (eA E (a0))), (1, .int (x1)), (3, .int (x3))]) dJ7_fill_53178_14 2 rfl rfl (by decide) rfl ?_
    refine Z.goto dJ7_fill_53178_17 ?_
    refine Z.sub [1, 2, 0, 3] rfl ?_
    exact hk5 (x1) (x2 + 1) (x3) M1  H
theorem tJ7_fill_53178_5L {l : Launch} {E : Env5} {a0 : Nat} {n0 : Nat} (ha0 : iA a0 n0)   {M9 : Mem}  : ∀ (n : Nat) (x1 : Int32) (x2 : Int32) (x3 : Int32) (M : Mem), fJ7_fill_53178_5L  a0 n0 n x1 x2 x3 M = some M9 → Z l E RJ7 cJ7_fill_53178 4 none 0 5 [(0, .ref (eA E (a0))), (1, .int (x1)), (2, .int (x2)), (3, .int (x3))] [] M (PR none M9) := by
  intro n
  induction n with
  | zero => intro x1 x2 x3 M H; exact absurd H (by simp [fJ7_fill_53178_5L])
  | succ n ih => intro x1 x2 x3 M H; exact tJ7_fill_53178_5 ha0 x1 x2 x3 M  (fun x1 x2 x3 M H => ih x1 x2 x3 M H) H
set_option maxRecDepth 100000 in
theorem tJ7_fill_53178_0 {l : Launch} {E : Env5} {a0 : Nat} {n0 : Nat} (ha0 : iA a0 n0)  (x1 : Int32) (M : Mem) {M9 : Mem}  (H : fJ7_fill_53178  a0 n0 x1 M = some M9) : Z l E RJ7 cJ7_fill_53178 4 none 0 0 [(0, .ref (eA E (a0))), (1, .int (x1))] [] M (PR none M9) := by
  unfold fJ7_fill_53178 at H
  refine Z.iconst (v := 0) dJ7_fill_53178_0 (by decide) ?_
  refine Z.istore_n (lv' := [(2, .int (0)), (0, .ref (eA E (a0))), (1, .int (x1))]) dJ7_fill_53178_1 (by decide) rfl ?_
  refine Z.aload_n dJ7_fill_53178_2 1 rfl ?_
  refine Z.alen (v := Int32.ofNat n0) dJ7_fill_53178_3 ha0 rfl ?_
  refine Z.istore_n (lv' := [(3, .int (Int32.ofNat n0)), (2, .int (0)), (0, .ref (eA E (a0))), (1, .int (x1))]) dJ7_fill_53178_4 (by decide) rfl ?_
  refine Z.sub [2, 3, 1, 0] rfl ?_
  exact tJ7_fill_53178_5L ha0  FU (x1) (0) (Int32.ofNat n0) M H
theorem kJ7_fill_53178 {l : Launch} {E : Env5} {a0 : Nat} {n0 : Nat} (ha0 : iA a0 n0) (x1 : Int32) (M : Mem) {M9 : Mem} (H : fJ7_fill_53178 a0 n0 x1 M = some M9) : Cn l E yJ7_fill_53178 cJ7_fill_53178 4 none 0 [.ref (eA E (a0)), .int (x1)] M (PR none M9) := Cn.ofZ rfl (Nat.le_of_ble_eq_true rfl) rfl (tJ7_fill_53178_0 ha0 x1 M H)
theorem hdJ7_fill_53178 : yJ7_fill_53178.cls ≠ "java/lang/invoke/MethodHandle" ∧ yJ7_fill_53178.cls ≠ "java/lang/invoke/VarHandle" ∧ (parseMethodDescriptor yJ7_fill_53178.desc).map (fun d => d.parameters.length) = some 2 := by decide +kernel

set_option maxRecDepth 100000 in
theorem tX1_ofFact_0 {l : Launch} {E : Env5} {b : Nat} (hb : isNt b)  (x1 : Int32) (x2 : Int32) (M : Mem) {v9 : Int32}  (H : fX1_ofFact  b x1 x2 M = some v9) : Z l E RX1 cX1_ofFact 3 (some .int) 0 0 [(0, .ref (eA E (b))), (1, .int (x1)), (2, .int (x2))] [] M (PR (some (.int v9)) M) := by
  unfold fX1_ofFact at H
  refine Z.aload_n dX1_ofFact_0 0 rfl ?_
  refine Z.get dX1_ofFact_1 inX1 (hc := rfl) (cN hb) (c1 hb) 0 (by decide) kw60 rfl rfl ?_
  refine Z.iconst (v := 4) dX1_ofFact_4 (by decide) ?_
  refine Z.iload_n dX1_ofFact_5 1 rfl ?_
  refine Z.imul dX1_ofFact_6 ?_
  refine Z.iload_n dX1_ofFact_7 2 rfl ?_
  refine Z.iadd dX1_ofFact_8 ?_
  refine Z.ialdH dX1_ofFact_9 (a1_facts hb) H (fun v1 H => ?_)
  exact Z.iret rfl dX1_ofFact_10 (retR H)
theorem kX1_ofFact {l : Launch} {E : Env5} {b : Nat} (hb : isNt b) (x1 : Int32) (x2 : Int32) (M : Mem) {v9 : Int32} (H : fX1_ofFact b x1 x2 M = some v9) : Cn l E yX1_ofFact cX1_ofFact 3 (some .int) 0 [.ref (eA E (b)), .int (x1), .int (x2)] M (PR (some (.int v9)) M) := Cn.ofZ rfl (Nat.le_of_ble_eq_true rfl) rfl (tX1_ofFact_0 hb x1 x2 M H)
theorem hdX1_ofFact : yX1_ofFact.cls ≠ "java/lang/invoke/MethodHandle" ∧ yX1_ofFact.cls ≠ "java/lang/invoke/VarHandle" ∧ (parseMethodDescriptor yX1_ofFact.desc).map (fun d => d.parameters.length) = some 2 := by decide +kernel

set_option maxRecDepth 100000 in
theorem tX4_isBetween_0 {l : Launch} {E : Env5}    (x0 : Int32) (x1 : Int32) (x2 : Int32) (M : Mem) {v9 : Int32}  (H : fX4_isBetween  x0 x1 x2 = some v9) : Z l E RX4 cX4_isBetween 3 (some .boolean) 0 0 [(0, .int (x0)), (1, .int (x1)), (2, .int (x2))] [] M (PR (some (.int v9)) M) := by
  unfold fX4_isBetween at H
  refine Z.iload_n dX4_isBetween_0 0 rfl ?_
  refine Z.iload_n dX4_isBetween_1 1 rfl ?_
  refine Z.icmp_ltH dX4_isBetween_2 H (fun br2 H => ?_) (fun br2 H => ?_)
  · refine Z.iconst (v := 0) dX4_isBetween_14 (by decide) ?_
    exact Z.zret rfl rfl dX4_isBetween_15 (retR H)
  · refine Z.iload_n dX4_isBetween_5 0 rfl ?_
    refine Z.iload_n dX4_isBetween_6 2 rfl ?_
    refine Z.icmp_gtH dX4_isBetween_7 H (fun br7 H => ?_) (fun br7 H => ?_)
    · refine Z.iconst (v := 0) dX4_isBetween_14 (by decide) ?_
      exact Z.zret rfl rfl dX4_isBetween_15 (retR H)
    · refine Z.iconst (v := 1) dX4_isBetween_10 (by decide) ?_
      refine Z.goto dX4_isBetween_11 ?_
      exact Z.zret rfl rfl dX4_isBetween_15 (retR H)
theorem kX4_isBetween {l : Launch} {E : Env5}   (x0 : Int32) (x1 : Int32) (x2 : Int32) (M : Mem) {v9 : Int32} (H : fX4_isBetween x0 x1 x2 = some v9) : Cn l E yX4_isBetween cX4_isBetween 3 (some .boolean) 0 [.int (x0), .int (x1), .int (x2)] M (PR (some (.int v9)) M) := Cn.ofZ rfl (Nat.le_of_ble_eq_true rfl) rfl (tX4_isBetween_0  x0 x1 x2 M H)
theorem hdX4_isBetween : yX4_isBetween.cls ≠ "java/lang/invoke/MethodHandle" ∧ yX4_isBetween.cls ≠ "java/lang/invoke/VarHandle" ∧ (parseMethodDescriptor yX4_isBetween.desc).map (fun d => d.parameters.length) = some 3 := by decide +kernel

set_option maxRecDepth 100000 in
theorem tX0_tallyOf_0 {l : Launch} {E : Env5}    (x0 : Int32) (x1 : Int32) (x2 : Int32) (M : Mem) {v9 : Int32}  (H : fX0_tallyOf  x0 x1 x2 = some v9) : Z l E RX0 cX0_tallyOf 3 (some .int) 0 0 [(0, .int (x0)), (1, .int (x1)), (2, .int (x2))] [] M (PR (some (.int v9)) M) := by
  unfold fX0_tallyOf at H
  refine Z.iconst (v := 2) dX0_tallyOf_0 (by decide) ?_
  refine Z.iload_n dX0_tallyOf_1 0 rfl ?_
  refine Z.imul dX0_tallyOf_2 ?_
  refine Z.iload_n dX0_tallyOf_3 1 rfl ?_
  refine Z.iadd dX0_tallyOf_4 ?_
  refine Z.bipush (v := 81) dX0_tallyOf_5 (by decide) ?_
  refine Z.imul dX0_tallyOf_7 ?_
  refine Z.bipush (v := 40) dX0_tallyOf_8 (by decide) ?_
  refine Z.iadd dX0_tallyOf_10 ?_
  refine Z.iload_n dX0_tallyOf_11 2 rfl ?_
  refine Z.iadd dX0_tallyOf_12 ?_
  exact Z.iret rfl dX0_tallyOf_13 (retR H)
theorem kX0_tallyOf {l : Launch} {E : Env5}   (x0 : Int32) (x1 : Int32) (x2 : Int32) (M : Mem) {v9 : Int32} (H : fX0_tallyOf x0 x1 x2 = some v9) : Cn l E yX0_tallyOf cX0_tallyOf 3 (some .int) 0 [.int (x0), .int (x1), .int (x2)] M (PR (some (.int v9)) M) := Cn.ofZ rfl (Nat.le_of_ble_eq_true rfl) rfl (tX0_tallyOf_0  x0 x1 x2 M H)
theorem hdX0_tallyOf : yX0_tallyOf.cls ≠ "java/lang/invoke/MethodHandle" ∧ yX0_tallyOf.cls ≠ "java/lang/invoke/VarHandle" ∧ (parseMethodDescriptor yX0_tallyOf.desc).map (fun d => d.parameters.length) = some 3 := by decide +kernel

set_option maxRecDepth 100000 in
theorem tX0_countFact_0 {l : Launch} {E : Env5}    (x1 : Int32) (x2 : Int32) (x3 : Int32) (M : Mem) {M9 : Mem}  (H : fX0_countFact  x1 x2 x3 M = some M9) : Z l E RX0 cX0_countFact 4 none 1 0 [(0, .ref (eA E (21))), (1, .int (x1)), (2, .int (x2)), (3, .int (x3))] [] M (PR none M9) := by
  unfold fX0_countFact at H
  refine Z.iload_n dX0_countFact_0 3 rfl ?_
  refine Z.bipush (v := (-40)) dX0_countFact_1 (by decide) ?_
  refine Z.bipush (v := 40) dX0_countFact_3 (by decide) ?_
  refine bindC H (fun v1 hv1 H => ?_)
  refine Z.callSN (As := [.int (x3), .int ((-40)), .int (40)]) (rest := []) (st' := [.int (v1)]) dX0_countFact_5 (kX4_isBetween  (x3) ((-40)) (40) M hv1) kn439 kw197 kw1 kw198 hdX4_isBetween (by decide) (by decide) rfl rfl (Nat.le_of_ble_eq_true rfl) rfl ?_
  refine Z.if_eqH dX0_countFact_8 H (fun br8 H => ?_) (fun br8 H => ?_)
  · exact Z.vret rfl dX0_countFact_45 (retV H)
  · refine Z.aload_n dX0_countFact_11 0 rfl ?_
    refine Z.get dX0_countFact_12 inX0 (hc := rfl) (by decide) c0 0 (by decide) kw90 rfl rfl ?_
    refine Z.iload_n dX0_countFact_15 1 rfl ?_
    refine Z.iload_n dX0_countFact_16 2 rfl ?_
    refine Z.iload_n dX0_countFact_17 3 rfl ?_
    refine bindC H (fun v2 hv2 H => ?_)
    refine Z.callS (As := [.int (x1), .int (x2), .int (x3)]) (rest := [.ref (eA E (22))]) (st' := [.int (v2), .ref (eA E (22))]) dX0_countFact_18 (kX0_tallyOf  (x1) (x2) (x3) M hv2) kw440 kw441 kw5 kw442 hdX0_tallyOf (by decide) (by decide) rfl rfl (Nat.le_of_ble_eq_true rfl) rfl ?_
    refine Z.dup2 dX0_countFact_21 rfl rfl ?_
    refine Z.ialdH dX0_countFact_22 a0_tallies H (fun v3 H => ?_)
    refine Z.iconst (v := 1) dX0_countFact_23 (by decide) ?_
    refine Z.iadd dX0_countFact_24 ?_
    refine Z.iastH dX0_countFact_25 a0_tallies H (fun M4 H => ?_)
    refine Z.aload_n dX0_countFact_26 0 rfl ?_
    refine Z.dup dX0_countFact_27 rfl ?_
    refine Z.get dX0_countFact_28 inX0 (hc := rfl) (by decide) c0 2 (by decide) kw93 rfl rfl ?_
    refine Z.iload_n dX0_countFact_31 2 rfl ?_
    refine Z.iconst (v := 3) dX0_countFact_32 (by decide) ?_
    refine Z.icmp_neH dX0_countFact_33 H (fun br33 H => ?_) (fun br33 H => ?_)
    · refine Z.iconst (v := 0) dX0_countFact_40 (by decide) ?_
      refine Z.iadd dX0_countFact_41 ?_
      refine wE H (fun M5 eM5 H => ?_)
      refine Z.put (ty := .int) (M' := M5) dX0_countFact_42 inX0 tyX0_ok nmX0 (hc := rfl) (by decide) c0 2 (by decide) kw93 rfl rfl (by decide +kernel) rfl rfl (Nat.le_of_ble_eq_true rfl) (by rw [← eM5, c0, sI_k]; exact congrArg (fun q => Sum.inr (0, q)) u0_ofLastClock) (by rw [← eM5]; exact sI_o) (by rw [← eM5]; exact (fun q => q)) ?_
      exact Z.vret rfl dX0_countFact_45 (retV H)
    · refine Z.iconst (v := 1) dX0_countFact_36 (by decide) ?_
      refine Z.goto dX0_countFact_37 ?_
      refine Z.iadd dX0_countFact_41 ?_
      refine wE H (fun M6 eM6 H => ?_)
      refine Z.put (ty := .int) (M' := M6) dX0_countFact_42 inX0 tyX0_ok nmX0 (hc := rfl) (by decide) c0 2 (by decide) kw93 rfl rfl (by decide +kernel) rfl rfl (Nat.le_of_ble_eq_true rfl) (by rw [← eM6, c0, sI_k]; exact congrArg (fun q => Sum.inr (0, q)) u0_ofLastClock) (by rw [← eM6]; exact sI_o) (by rw [← eM6]; exact (fun q => q)) ?_
      exact Z.vret rfl dX0_countFact_45 (retV H)
theorem kX0_countFact {l : Launch} {E : Env5}   (x1 : Int32) (x2 : Int32) (x3 : Int32) (M : Mem) {M9 : Mem} (H : fX0_countFact x1 x2 x3 M = some M9) : Cn l E yX0_countFact cX0_countFact 4 none 1 [.ref (eA E (21)), .int (x1), .int (x2), .int (x3)] M (PR none M9) := Cn.ofZ rfl (Nat.le_of_ble_eq_true rfl) rfl (tX0_countFact_0  x1 x2 x3 M H)
theorem hdX0_countFact : yX0_countFact.cls ≠ "java/lang/invoke/MethodHandle" ∧ yX0_countFact.cls ≠ "java/lang/invoke/VarHandle" ∧ (parseMethodDescriptor yX0_countFact.desc).map (fun d => d.parameters.length) = some 3 := by decide +kernel

set_option maxRecDepth 100000 in
theorem tX0_countFacts_80 {l : Launch} {E : Env5} {o1 : Nat} (ho1 : isNt o1) {k15 : Int32 → Mem → Option Mem} (x2 : Int32) (s0 : Int32) (s1 : Int32) (s2 : Int32) (M : Mem) {M9 : Mem} (hk15 : ∀ (x2 : Int32) (M : Mem), k15 x2 M = some M9 → Z l E RX0 cX0_countFacts 6 none 2 15 [(0, .ref (eA E (21))), (1, .ref (eA E (o1))), (2, .int (x2))] [] M (PR none M9)) (H : fX0_countFacts_80 k15 o1 x2 s0 s1 s2 M = some M9) : Z l E RX0 cX0_countFacts 6 none 2 80 [(0, .ref (eA E (21))), (1, .ref (eA E (o1))), (2, .int (x2))] [.int (s0), .int (s1), .int (s2), .ref (eA E (21))] M (PR none M9) := by
  unfold fX0_countFacts_80 at H
  refine bindC H (fun v1 hv1 H => ?_)
  refine Z.callV (As := [.int (s2), .int (s1), .int (s0)]) (rest := []) (st' := []) dX0_countFacts_80 (kX0_countFact  (s2) (s1) (s0) M hv1) kw435 kw437 ks11 kw5 kw438 hdX0_countFact (by decide) c0 (hc := rfl) (by decide) (by decide) rfl rfl (Nat.le_of_ble_eq_true rfl) rfl ?_
  refine Z.iinc (v := x2 + 1) (lv' := [(2, .int (x2 + 1)), (0, .ref (eA E (21))), (1, .ref (eA E (o1)))]) dX0_countFacts_83 2 rfl rfl (by decide) rfl ?_
  refine Z.goto dX0_countFacts_86 ?_
  refine Z.sub [1, 2, 0] rfl ?_
  exact hk15 (x2 + 1) v1  H
set_option maxRecDepth 100000 in
theorem tX0_countFacts_15 {l : Launch} {E : Env5} {o1 : Nat} (ho1 : isNt o1) {k15 : Int32 → Mem → Option Mem} (x2 : Int32) (M : Mem) {M9 : Mem} (hk15 : ∀ (x2 : Int32) (M : Mem), k15 x2 M = some M9 → Z l E RX0 cX0_countFacts 6 none 2 15 [(0, .ref (eA E (21))), (1, .ref (eA E (o1))), (2, .int (x2))] [] M (PR none M9)) (H : fX0_countFacts_15B k15 o1 x2 M = some M9) : Z l E RX0 cX0_countFacts 6 none 2 15 [(0, .ref (eA E (21))), (1, .ref (eA E (o1))), (2, .int (x2))] [] M (PR none M9) := by
  unfold fX0_countFacts_15B at H
  refine Z.iload_n dX0_countFacts_15 2 rfl ?_
  refine Z.aload_n dX0_countFacts_16 1 rfl ?_
  refine Z.getN dX0_countFacts_17 inX1 (hc := rfl) (cN ho1) (c1 ho1) 4 (by decide) kn66 rfl rfl ?_
  refine Z.icmp_geH dX0_countFacts_20 H (fun br20 H => ?_) (fun br20 H => ?_)
  · exact Z.vret rfl dX0_countFacts_89 (retV H)
  · refine Z.aload_n dX0_countFacts_23 1 rfl ?_
    refine Z.iload_n dX0_countFacts_24 2 rfl ?_
    refine Z.iconst (v := 0) dX0_countFacts_25 (by decide) ?_
    refine bindC H (fun v1 hv1 H => ?_)
    refine Z.callV (As := [.int (x2), .int (0)]) (rest := []) (st' := [.int (v1)]) dX0_countFacts_26 (kX1_ofFact ho1 (x2) (0) M hv1) kw427 kw428 kw429 kw3 kw430 hdX1_ofFact (cN ho1) (c1 ho1) (hc := rfl) (by decide) (by decide) rfl rfl (Nat.le_of_ble_eq_true rfl) rfl ?_
    refine Z.istore_n (lv' := [(3, .int (v1)), (0, .ref (eA E (21))), (1, .ref (eA E (o1))), (2, .int (x2))]) dX0_countFacts_29 (by decide) rfl ?_
    refine Z.aload_n dX0_countFacts_30 2 rfl ?_
    refine Z.iload_n dX0_countFacts_31 3 rfl ?_
    refine Z.iconst (v := 2) dX0_countFacts_32 (by decide) ?_
    refine bindC H (fun v2 hv2 H => ?_)
    refine Z.callV (As := [.int (x2), .int (2)]) (rest := []) (st' := [.int (v2)]) dX0_countFacts_33 (kX1_ofFact ho1 (x2) (2) M hv2) kw427 kw428 kw429 kw3 kw430 hdX1_ofFact (cN ho1) (c1 ho1) (hc := rfl) (by decide) (by decide) rfl rfl (Nat.le_of_ble_eq_true rfl) rfl ?_
    refine Z.istore (lv' := [(4, .int (v2)), (3, .int (v1)), (0, .ref (eA E (21))), (1, .ref (eA E (o1))), (2, .int (x2))]) dX0_countFacts_36 (by decide) rfl ?_
    refine Z.aload_n dX0_countFacts_38 3 rfl ?_
    refine Z.iload_n dX0_countFacts_39 4 rfl ?_
    refine Z.iconst (v := 3) dX0_countFacts_40 (by decide) ?_
    refine bindC H (fun v3 hv3 H => ?_)
    refine Z.callV (As := [.int (x2), .int (3)]) (rest := []) (st' := [.int (v3)]) dX0_countFacts_41 (kX1_ofFact ho1 (x2) (3) M hv3) kw427 kw428 kw429 kw3 kw430 hdX1_ofFact (cN ho1) (c1 ho1) (hc := rfl) (by decide) (by decide) rfl rfl (Nat.le_of_ble_eq_true rfl) rfl ?_
    refine Z.aload_n dX0_countFacts_44 3 rfl ?_
    refine Z.iload_n dX0_countFacts_45 4 rfl ?_
    refine Z.iconst (v := 1) dX0_countFacts_46 (by decide) ?_
    refine bindC H (fun v4 hv4 H => ?_)
    refine Z.callV (As := [.int (x2), .int (1)]) (rest := [.int (v3)]) (st' := [.int (v4), .int (v3)]) dX0_countFacts_47 (kX1_ofFact ho1 (x2) (1) M hv4) kw427 kw428 kw429 kw3 kw430 hdX1_ofFact (cN ho1) (c1 ho1) (hc := rfl) (by decide) (by decide) rfl rfl (Nat.le_of_ble_eq_true rfl) rfl ?_
    refine Z.isub dX0_countFacts_50 ?_
    refine Z.istore (lv' := [(5, .int (v3 - v4)), (4, .int (v2)), (3, .int (v1)), (0, .ref (eA E (21))), (1, .ref (eA E (o1))), (2, .int (x2))]) dX0_countFacts_51 (by decide) rfl ?_
    refine Z.aload_n dX0_countFacts_53 3 rfl ?_
    refine Z.iload_n dX0_countFacts_54 2 rfl ?_
    refine Z.iload dX0_countFacts_55 1 rfl ?_
    refine Z.mmin dX0_countFacts_57 kw431 kw229 kw8 km_min (by decide) (Nat.le_of_ble_eq_true rfl) ?_
    refine Z.iload_n dX0_countFacts_60 2 rfl ?_
    refine Z.iload dX0_countFacts_61 1 rfl ?_
    refine Z.mmax dX0_countFacts_63 kw432 kw433 kw8 km_max (by decide) (Nat.le_of_ble_eq_true rfl) ?_
    refine Z.iload_n dX0_countFacts_66 2 rfl ?_
    refine Z.iload dX0_countFacts_67 1 rfl ?_
    refine Z.icmp_geH dX0_countFacts_69 H (fun br69 H => ?_) (fun br69 H => ?_)
    · refine Z.iload dX0_countFacts_77 0 rfl ?_
      refine Z.ineg dX0_countFacts_79 ?_
      refine Z.sub [3, 4, 5] rfl ?_
      exact tX0_countFacts_80 ho1 (x2) (-(v3 - v4)) (imax v1 v2) (imin v1 v2) M hk15 H
    · refine Z.iload dX0_countFacts_72 0 rfl ?_
      refine Z.goto dX0_countFacts_74 ?_
      refine Z.sub [3, 4, 5] rfl ?_
      exact tX0_countFacts_80 ho1 (x2) (v3 - v4) (imax v1 v2) (imin v1 v2) M hk15 H
theorem tX0_countFacts_15L {l : Launch} {E : Env5} {o1 : Nat} (ho1 : isNt o1)   {M9 : Mem}  : ∀ (n : Nat) (x2 : Int32) (M : Mem), fX0_countFacts_15L  o1 n x2 M = some M9 → Z l E RX0 cX0_countFacts 6 none 2 15 [(0, .ref (eA E (21))), (1, .ref (eA E (o1))), (2, .int (x2))] [] M (PR none M9) := by
  intro n
  induction n with
  | zero => intro x2 M H; exact absurd H (by simp [fX0_countFacts_15L])
  | succ n ih => intro x2 M H; exact tX0_countFacts_15 ho1 x2 M  (fun x2 M H => ih x2 M H) H
set_option maxRecDepth 100000 in
theorem tX0_countFacts_0 {l : Launch} {E : Env5} {o1 : Nat} (ho1 : isNt o1)   (M : Mem) {M9 : Mem}  (H : fX0_countFacts  o1 M = some M9) : Z l E RX0 cX0_countFacts 6 none 2 0 [(0, .ref (eA E (21))), (1, .ref (eA E (o1)))] [] M (PR none M9) := by
  unfold fX0_countFacts at H
  refine Z.aload_n dX0_countFacts_0 0 rfl ?_
  refine Z.get dX0_countFacts_1 inX0 (hc := rfl) (by decide) c0 0 (by decide) kw90 rfl rfl ?_
  refine Z.iconst (v := 0) dX0_countFacts_4 (by decide) ?_
  refine bindC H (fun v1 hv1 H => ?_)
  refine Z.callS (As := [.ref (eA E (22)), .int (0)]) (rest := []) (st' := []) dX0_countFacts_5 (kJ7_fill_53178 a0_tallies (0) M hv1) kw426 kw58 kw4 kw59 hdJ7_fill_53178 (by decide) (by decide) rfl rfl (Nat.le_of_ble_eq_true rfl) rfl ?_
  refine Z.aload_n dX0_countFacts_8 0 rfl ?_
  refine Z.iconst (v := 0) dX0_countFacts_9 (by decide) ?_
  refine wE H (fun M2 eM2 H => ?_)
  refine Z.put (ty := .int) (M' := M2) dX0_countFacts_10 inX0 tyX0_ok nmX0 (hc := rfl) (by decide) c0 2 (by decide) kw93 rfl rfl (by decide +kernel) rfl rfl (Nat.le_of_ble_eq_true rfl) (by rw [← eM2, c0, sI_k]; exact congrArg (fun q => Sum.inr (0, q)) u0_ofLastClock) (by rw [← eM2]; exact sI_o) (by rw [← eM2]; exact (fun q => q)) ?_
  refine Z.iconst (v := 0) dX0_countFacts_13 (by decide) ?_
  refine Z.istore_n (lv' := [(2, .int (0)), (0, .ref (eA E (21))), (1, .ref (eA E (o1)))]) dX0_countFacts_14 (by decide) rfl ?_
  refine Z.sub [1, 2, 0] rfl ?_
  exact tX0_countFacts_15L ho1  FU (0) M2 H
theorem kX0_countFacts {l : Launch} {E : Env5} {o1 : Nat} (ho1 : isNt o1)  (M : Mem) {M9 : Mem} (H : fX0_countFacts o1 M = some M9) : Cn l E yX0_countFacts cX0_countFacts 6 none 2 [.ref (eA E (21)), .ref (eA E (o1))] M (PR none M9) := Cn.ofZ rfl (Nat.le_of_ble_eq_true rfl) rfl (tX0_countFacts_0 ho1  M H)
theorem hdX0_countFacts : yX0_countFacts.cls ≠ "java/lang/invoke/MethodHandle" ∧ yX0_countFacts.cls ≠ "java/lang/invoke/VarHandle" ∧ (parseMethodDescriptor yX0_countFacts.desc).map (fun d => d.parameters.length) = some 1 := by decide +kernel

set_option maxRecDepth 100000 in
theorem tX0_tally_0 {l : Launch} {E : Env5}    (x1 : Int32) (x2 : Int32) (x3 : Int32) (M : Mem) {v9 : Int32}  (H : fX0_tally  x1 x2 x3 M = some v9) : Z l E RX0 cX0_tally 4 (some .int) 1 0 [(0, .ref (eA E (21))), (1, .int (x1)), (2, .int (x2)), (3, .int (x3))] [] M (PR (some (.int v9)) M) := by
  unfold fX0_tally at H
  refine Z.aload_n dX0_tally_0 0 rfl ?_
  refine Z.get dX0_tally_1 inX0 (hc := rfl) (by decide) c0 0 (by decide) kw90 rfl rfl ?_
  refine Z.iload_n dX0_tally_4 1 rfl ?_
  refine Z.iload_n dX0_tally_5 2 rfl ?_
  refine Z.iload_n dX0_tally_6 3 rfl ?_
  refine bindC H (fun v1 hv1 H => ?_)
  refine Z.callS (As := [.int (x1), .int (x2), .int (x3)]) (rest := [.ref (eA E (22))]) (st' := [.int (v1), .ref (eA E (22))]) dX0_tally_7 (kX0_tallyOf  (x1) (x2) (x3) M hv1) kw440 kw441 kw5 kw442 hdX0_tallyOf (by decide) (by decide) rfl rfl (Nat.le_of_ble_eq_true rfl) rfl ?_
  refine Z.ialdH dX0_tally_10 a0_tallies H (fun v2 H => ?_)
  exact Z.iret rfl dX0_tally_11 (retR H)
theorem kX0_tally {l : Launch} {E : Env5}   (x1 : Int32) (x2 : Int32) (x3 : Int32) (M : Mem) {v9 : Int32} (H : fX0_tally x1 x2 x3 M = some v9) : Cn l E yX0_tally cX0_tally 4 (some .int) 1 [.ref (eA E (21)), .int (x1), .int (x2), .int (x3)] M (PR (some (.int v9)) M) := Cn.ofZ rfl (Nat.le_of_ble_eq_true rfl) rfl (tX0_tally_0  x1 x2 x3 M H)
theorem hdX0_tally : yX0_tally.cls ≠ "java/lang/invoke/MethodHandle" ∧ yX0_tally.cls ≠ "java/lang/invoke/VarHandle" ∧ (parseMethodDescriptor yX0_tally.desc).map (fun d => d.parameters.length) = some 3 := by decide +kernel

set_option maxRecDepth 100000 in
theorem tX0_tryLastClock_82 {l : Launch} {E : Env5}   {k4 : Int32 → Int32 → Int32 → Int32 → Mem → Option Mem} (x1 : Int32) (x2 : Int32) (x3 : Int32) (x4 : Int32) (M : Mem) {M9 : Mem} (hk4 : ∀ (x1 : Int32) (x2 : Int32) (x3 : Int32) (x4 : Int32) (M : Mem), k4 x1 x2 x3 x4 M = some M9 → Z l E RX0 cX0_tryLastClock 6 none 2 4 [(0, .ref (eA E (21))), (1, .int (x1)), (2, .int (x2)), (3, .int (x3)), (4, .int (x4))] [] M (PR none M9)) (H : fX0_tryLastClock_82 k4 x1 x2 x3 x4 M = some M9) : Z l E RX0 cX0_tryLastClock 6 none 2 82 [(0, .ref (eA E (21))), (1, .int (x1)), (2, .int (x2)), (3, .int (x3)), (4, .int (x4))] [] M (PR none M9) := by
  unfold fX0_tryLastClock_82 at H
  refine Z.iinc (v := x4 + 1) (lv' := [(4, .int (x4 + 1)), (0, .ref (eA E (21))), (1, .int (x1)), (2, .int (x2)), (3, .int (x3))]) dX0_tryLastClock_82 4 rfl rfl (by decide) rfl ?_
  refine Z.goto dX0_tryLastClock_85 ?_
  refine Z.sub [1, 2, 3, 4, 0] rfl ?_
  exact hk4 (x1) (x2) (x3) (x4 + 1) M  H
set_option maxRecDepth 100000 in
theorem tX0_tryLastClock_4 {l : Launch} {E : Env5}   {k4 : Int32 → Int32 → Int32 → Int32 → Mem → Option Mem} (x1 : Int32) (x2 : Int32) (x3 : Int32) (x4 : Int32) (M : Mem) {M9 : Mem} (hk4 : ∀ (x1 : Int32) (x2 : Int32) (x3 : Int32) (x4 : Int32) (M : Mem), k4 x1 x2 x3 x4 M = some M9 → Z l E RX0 cX0_tryLastClock 6 none 2 4 [(0, .ref (eA E (21))), (1, .int (x1)), (2, .int (x2)), (3, .int (x3)), (4, .int (x4))] [] M (PR none M9)) (H : fX0_tryLastClock_4B k4 x1 x2 x3 x4 M = some M9) : Z l E RX0 cX0_tryLastClock 6 none 2 4 [(0, .ref (eA E (21))), (1, .int (x1)), (2, .int (x2)), (3, .int (x3)), (4, .int (x4))] [] M (PR none M9) := by
  unfold fX0_tryLastClock_4B at H
  refine Z.iload dX0_tryLastClock_4 4 rfl ?_
  refine Z.bipush (v := 20) dX0_tryLastClock_6 (by decide) ?_
  refine Z.icmp_gtH dX0_tryLastClock_8 H (fun br8 H => ?_) (fun br8 H => ?_)
  · exact Z.vret rfl dX0_tryLastClock_88 (retV H)
  · refine Z.iload_n dX0_tryLastClock_11 3 rfl ?_
    refine Z.aload_n dX0_tryLastClock_12 0 rfl ?_
    refine Z.iconst (v := 0) dX0_tryLastClock_13 (by decide) ?_
    refine Z.iconst (v := 3) dX0_tryLastClock_14 (by decide) ?_
    refine Z.iload dX0_tryLastClock_15 4 rfl ?_
    refine bindC H (fun v1 hv1 H => ?_)
    refine Z.callV (As := [.int (0), .int (3), .int (x4)]) (rest := [.int (x3)]) (st' := [.int (v1), .int (x3)]) dX0_tryLastClock_17 (kX0_tally  (0) (3) (x4) M hv1) kw443 kw445 ks12 kw5 kw446 hdX0_tally (by decide) c0 (hc := rfl) (by decide) (by decide) rfl rfl (Nat.le_of_ble_eq_true rfl) rfl ?_
    refine Z.iadd dX0_tryLastClock_20 ?_
    refine Z.aload_n dX0_tryLastClock_21 0 rfl ?_
    refine Z.iconst (v := 1) dX0_tryLastClock_22 (by decide) ?_
    refine Z.iconst (v := 3) dX0_tryLastClock_23 (by decide) ?_
    refine Z.iload dX0_tryLastClock_24 4 rfl ?_
    refine Z.iload_n dX0_tryLastClock_26 1 rfl ?_
    refine Z.isub dX0_tryLastClock_27 ?_
    refine bindC H (fun v2 hv2 H => ?_)
    refine Z.callV (As := [.int (1), .int (3), .int (x4 - x1)]) (rest := [.int (x3 + v1)]) (st' := [.int (v2), .int (x3 + v1)]) dX0_tryLastClock_28 (kX0_tally  (1) (3) (x4 - x1) M hv2) kw443 kw445 ks12 kw5 kw446 hdX0_tally (by decide) c0 (hc := rfl) (by decide) (by decide) rfl rfl (Nat.le_of_ble_eq_true rfl) rfl ?_
    refine Z.iadd dX0_tryLastClock_31 ?_
    refine Z.aload_n dX0_tryLastClock_32 0 rfl ?_
    refine Z.iconst (v := 2) dX0_tryLastClock_33 (by decide) ?_
    refine Z.iconst (v := 3) dX0_tryLastClock_34 (by decide) ?_
    refine Z.iload dX0_tryLastClock_35 4 rfl ?_
    refine Z.iload_n dX0_tryLastClock_37 2 rfl ?_
    refine Z.isub dX0_tryLastClock_38 ?_
    refine bindC H (fun v3 hv3 H => ?_)
    refine Z.callV (As := [.int (2), .int (3), .int (x4 - x2)]) (rest := [.int ((x3 + v1) + v2)]) (st' := [.int (v3), .int ((x3 + v1) + v2)]) dX0_tryLastClock_39 (kX0_tally  (2) (3) (x4 - x2) M hv3) kw443 kw445 ks12 kw5 kw446 hdX0_tally (by decide) c0 (hc := rfl) (by decide) (by decide) rfl rfl (Nat.le_of_ble_eq_true rfl) rfl ?_
    refine Z.iadd dX0_tryLastClock_42 ?_
    refine Z.istore (lv' := [(5, .int (((x3 + v1) + v2) + v3)), (0, .ref (eA E (21))), (1, .int (x1)), (2, .int (x2)), (3, .int (x3)), (4, .int (x4))]) dX0_tryLastClock_43 (by decide) rfl ?_
    refine Z.iload dX0_tryLastClock_45 0 rfl ?_
    refine Z.aload_n dX0_tryLastClock_47 1 rfl ?_
    refine Z.get dX0_tryLastClock_48 inX0 (hc := rfl) (by decide) c0 3 (by decide) kw94 rfl rfl ?_
    refine Z.icmp_leH dX0_tryLastClock_51 H (fun br51 H => ?_) (fun br51 H => ?_)
    · refine Z.sub [1, 2, 3, 4, 5] rfl ?_
      exact tX0_tryLastClock_82  (x1) (x2) (x3) (x4) M hk4 H
    · refine Z.aload_n dX0_tryLastClock_54 1 rfl ?_
      refine Z.iload dX0_tryLastClock_55 0 rfl ?_
      refine wE H (fun M4 eM4 H => ?_)
      refine Z.put (ty := .int) (M' := M4) dX0_tryLastClock_57 inX0 tyX0_ok nmX0 (hc := rfl) (by decide) c0 3 (by decide) kw94 rfl rfl (by decide +kernel) rfl rfl (Nat.le_of_ble_eq_true rfl) (by rw [← eM4, c0, sI_k]; exact congrArg (fun q => Sum.inr (0, q)) u0_held) (by rw [← eM4]; exact sI_o) (by rw [← eM4]; exact (fun q => q)) ?_
      refine Z.aload_n dX0_tryLastClock_60 1 rfl ?_
      refine Z.get dX0_tryLastClock_61 inX0 (hc := rfl) (by decide) c0 1 (by decide) kw91 rfl rfl ?_
      refine Z.iconst (v := 1) dX0_tryLastClock_64 (by decide) ?_
      refine Z.iload_n dX0_tryLastClock_65 2 rfl ?_
      refine Z.iastH dX0_tryLastClock_66 a0_ahead H (fun M5 H => ?_)
      refine Z.aload_n dX0_tryLastClock_67 1 rfl ?_
      refine Z.get dX0_tryLastClock_68 inX0 (hc := rfl) (by decide) c0 1 (by decide) kw91 rfl rfl ?_
      refine Z.iconst (v := 2) dX0_tryLastClock_71 (by decide) ?_
      refine Z.iload_n dX0_tryLastClock_72 3 rfl ?_
      refine Z.iastH dX0_tryLastClock_73 a0_ahead H (fun M6 H => ?_)
      refine Z.aload_n dX0_tryLastClock_74 1 rfl ?_
      refine Z.get dX0_tryLastClock_75 inX0 (hc := rfl) (by decide) c0 1 (by decide) kw91 rfl rfl ?_
      refine Z.iconst (v := 3) dX0_tryLastClock_78 (by decide) ?_
      refine Z.iload dX0_tryLastClock_79 5 rfl ?_
      refine Z.iastH dX0_tryLastClock_81 a0_ahead H (fun M7 H => ?_)
      refine Z.sub [1, 2, 3, 4, 5] rfl ?_
      exact tX0_tryLastClock_82  (x1) (x2) (x3) (x4) M7 hk4 H
theorem tX0_tryLastClock_4L {l : Launch} {E : Env5}     {M9 : Mem}  : ∀ (n : Nat) (x1 : Int32) (x2 : Int32) (x3 : Int32) (x4 : Int32) (M : Mem), fX0_tryLastClock_4L   n x1 x2 x3 x4 M = some M9 → Z l E RX0 cX0_tryLastClock 6 none 2 4 [(0, .ref (eA E (21))), (1, .int (x1)), (2, .int (x2)), (3, .int (x3)), (4, .int (x4))] [] M (PR none M9) := by
  intro n
  induction n with
  | zero => intro x1 x2 x3 x4 M H; exact absurd H (by simp [fX0_tryLastClock_4L])
  | succ n ih => intro x1 x2 x3 x4 M H; exact tX0_tryLastClock_4  x1 x2 x3 x4 M  (fun x1 x2 x3 x4 M H => ih x1 x2 x3 x4 M H) H
set_option maxRecDepth 100000 in
theorem tX0_tryLastClock_0 {l : Launch} {E : Env5}    (x1 : Int32) (x2 : Int32) (x3 : Int32) (M : Mem) {M9 : Mem}  (H : fX0_tryLastClock  x1 x2 x3 M = some M9) : Z l E RX0 cX0_tryLastClock 6 none 2 0 [(0, .ref (eA E (21))), (1, .int (x1)), (2, .int (x2)), (3, .int (x3))] [] M (PR none M9) := by
  unfold fX0_tryLastClock at H
  refine Z.bipush (v := (-20)) dX0_tryLastClock_0 (by decide) ?_
  refine Z.istore (lv' := [(4, .int ((-20))), (0, .ref (eA E (21))), (1, .int (x1)), (2, .int (x2)), (3, .int (x3))]) dX0_tryLastClock_2 (by decide) rfl ?_
  refine Z.sub [1, 2, 3, 4, 0] rfl ?_
  exact tX0_tryLastClock_4L   FU (x1) (x2) (x3) ((-20)) M H
theorem kX0_tryLastClock {l : Launch} {E : Env5}   (x1 : Int32) (x2 : Int32) (x3 : Int32) (M : Mem) {M9 : Mem} (H : fX0_tryLastClock x1 x2 x3 M = some M9) : Cn l E yX0_tryLastClock cX0_tryLastClock 6 none 2 [.ref (eA E (21)), .int (x1), .int (x2), .int (x3)] M (PR none M9) := Cn.ofZ rfl (Nat.le_of_ble_eq_true rfl) rfl (tX0_tryLastClock_0  x1 x2 x3 M H)
theorem hdX0_tryLastClock : yX0_tryLastClock.cls ≠ "java/lang/invoke/MethodHandle" ∧ yX0_tryLastClock.cls ≠ "java/lang/invoke/VarHandle" ∧ (parseMethodDescriptor yX0_tryLastClock.desc).map (fun d => d.parameters.length) = some 3 := by decide +kernel

set_option maxRecDepth 100000 in
theorem tX0_putRight_77 {l : Launch} {E : Env5} {o1 : Nat} (ho1 : isNt o1) {k13 : Int32 → Mem → Option Mem} {k22 : Int32 → Int32 → Mem → Option Mem} (x2 : Int32) (x3 : Int32) (M : Mem) {M9 : Mem} (hk13 : ∀ (x2 : Int32) (M : Mem), k13 x2 M = some M9 → Z l E RX0 cX0_putRight 5 none 3 13 [(0, .ref (eA E (21))), (1, .ref (eA E (o1))), (2, .int (x2))] [] M (PR none M9)) (hk22 : ∀ (x2 : Int32) (x3 : Int32) (M : Mem), k22 x2 x3 M = some M9 → Z l E RX0 cX0_putRight 5 none 3 22 [(0, .ref (eA E (21))), (1, .ref (eA E (o1))), (2, .int (x2)), (3, .int (x3))] [] M (PR none M9)) (H : fX0_putRight_77 k13 k22 o1 x2 x3 M = some M9) : Z l E RX0 cX0_putRight 5 none 3 77 [(0, .ref (eA E (21))), (1, .ref (eA E (o1))), (2, .int (x2)), (3, .int (x3))] [] M (PR none M9) := by
  unfold fX0_putRight_77 at H
  refine Z.iinc (v := x3 + 1) (lv' := [(3, .int (x3 + 1)), (0, .ref (eA E (21))), (1, .ref (eA E (o1))), (2, .int (x2))]) dX0_putRight_77 3 rfl rfl (by decide) rfl ?_
  refine Z.goto dX0_putRight_80 ?_
  refine Z.sub [1, 2, 3, 0] rfl ?_
  exact hk22 (x2) (x3 + 1) M  H
set_option maxRecDepth 100000 in
theorem tX0_putRight_22 {l : Launch} {E : Env5} {o1 : Nat} (ho1 : isNt o1) {k13 : Int32 → Mem → Option Mem} {k22 : Int32 → Int32 → Mem → Option Mem} (x2 : Int32) (x3 : Int32) (M : Mem) {M9 : Mem} (hk13 : ∀ (x2 : Int32) (M : Mem), k13 x2 M = some M9 → Z l E RX0 cX0_putRight 5 none 3 13 [(0, .ref (eA E (21))), (1, .ref (eA E (o1))), (2, .int (x2))] [] M (PR none M9)) (hk22 : ∀ (x2 : Int32) (x3 : Int32) (M : Mem), k22 x2 x3 M = some M9 → Z l E RX0 cX0_putRight 5 none 3 22 [(0, .ref (eA E (21))), (1, .ref (eA E (o1))), (2, .int (x2)), (3, .int (x3))] [] M (PR none M9)) (H : fX0_putRight_22B k13 k22 o1 x2 x3 M = some M9) : Z l E RX0 cX0_putRight 5 none 3 22 [(0, .ref (eA E (21))), (1, .ref (eA E (o1))), (2, .int (x2)), (3, .int (x3))] [] M (PR none M9) := by
  unfold fX0_putRight_22B at H
  refine Z.iload_n dX0_putRight_22 3 rfl ?_
  refine Z.bipush (v := 20) dX0_putRight_23 (by decide) ?_
  refine Z.icmp_gtH dX0_putRight_25 H (fun br25 H => ?_) (fun br25 H => ?_)
  · refine Z.iinc (v := x2 + 1) (lv' := [(2, .int (x2 + 1)), (0, .ref (eA E (21))), (1, .ref (eA E (o1))), (3, .int (x3))]) dX0_putRight_83 2 rfl rfl (by decide) rfl ?_
    refine Z.goto dX0_putRight_86 ?_
    refine Z.sub [1, 2, 0] rfl ?_
    exact hk13 (x2 + 1) M  H
  · refine Z.aload_n dX0_putRight_28 0 rfl ?_
    refine Z.iconst (v := 0) dX0_putRight_29 (by decide) ?_
    refine Z.iconst (v := 1) dX0_putRight_30 (by decide) ?_
    refine Z.iload_n dX0_putRight_31 2 rfl ?_
    refine bindC H (fun v1 hv1 H => ?_)
    refine Z.callV (As := [.int (0), .int (1), .int (x2)]) (rest := []) (st' := [.int (v1)]) dX0_putRight_32 (kX0_tally  (0) (1) (x2) M hv1) kw443 kw445 ks12 kw5 kw446 hdX0_tally (by decide) c0 (hc := rfl) (by decide) (by decide) rfl rfl (Nat.le_of_ble_eq_true rfl) rfl ?_
    refine Z.aload_n dX0_putRight_35 0 rfl ?_
    refine Z.iconst (v := 0) dX0_putRight_36 (by decide) ?_
    refine Z.iconst (v := 2) dX0_putRight_37 (by decide) ?_
    refine Z.iload_n dX0_putRight_38 3 rfl ?_
    refine bindC H (fun v2 hv2 H => ?_)
    refine Z.callV (As := [.int (0), .int (2), .int (x3)]) (rest := [.int (v1)]) (st' := [.int (v2), .int (v1)]) dX0_putRight_39 (kX0_tally  (0) (2) (x3) M hv2) kw443 kw445 ks12 kw5 kw446 hdX0_tally (by decide) c0 (hc := rfl) (by decide) (by decide) rfl rfl (Nat.le_of_ble_eq_true rfl) rfl ?_
    refine Z.iadd dX0_putRight_42 ?_
    refine Z.aload_n dX0_putRight_43 0 rfl ?_
    refine Z.iconst (v := 1) dX0_putRight_44 (by decide) ?_
    refine Z.iconst (v := 2) dX0_putRight_45 (by decide) ?_
    refine Z.iload_n dX0_putRight_46 3 rfl ?_
    refine Z.iload_n dX0_putRight_47 2 rfl ?_
    refine Z.isub dX0_putRight_48 ?_
    refine bindC H (fun v3 hv3 H => ?_)
    refine Z.callV (As := [.int (1), .int (2), .int (x3 - x2)]) (rest := [.int (v1 + v2)]) (st' := [.int (v3), .int (v1 + v2)]) dX0_putRight_49 (kX0_tally  (1) (2) (x3 - x2) M hv3) kw443 kw445 ks12 kw5 kw446 hdX0_tally (by decide) c0 (hc := rfl) (by decide) (by decide) rfl rfl (Nat.le_of_ble_eq_true rfl) rfl ?_
    refine Z.iadd dX0_putRight_52 ?_
    refine Z.istore (lv' := [(4, .int ((v1 + v2) + v3)), (0, .ref (eA E (21))), (1, .ref (eA E (o1))), (2, .int (x2)), (3, .int (x3))]) dX0_putRight_53 (by decide) rfl ?_
    refine Z.iload dX0_putRight_55 0 rfl ?_
    refine Z.aload_n dX0_putRight_57 1 rfl ?_
    refine Z.get dX0_putRight_58 inX0 (hc := rfl) (by decide) c0 2 (by decide) kw93 rfl rfl ?_
    refine Z.iadd dX0_putRight_61 ?_
    refine Z.aload_n dX0_putRight_62 1 rfl ?_
    refine Z.get dX0_putRight_63 inX0 (hc := rfl) (by decide) c0 3 (by decide) kw94 rfl rfl ?_
    refine Z.icmp_leH dX0_putRight_66 H (fun br66 H => ?_) (fun br66 H => ?_)
    · refine Z.sub [1, 2, 3, 4] rfl ?_
      exact tX0_putRight_77 ho1 (x2) (x3) M hk13 hk22 H
    · refine Z.aload_n dX0_putRight_69 1 rfl ?_
      refine Z.iload_n dX0_putRight_70 3 rfl ?_
      refine Z.iload_n dX0_putRight_71 4 rfl ?_
      refine Z.iload dX0_putRight_72 0 rfl ?_
      refine bindC H (fun v4 hv4 H => ?_)
      refine Z.callV (As := [.int (x2), .int (x3), .int ((v1 + v2) + v3)]) (rest := []) (st' := []) dX0_putRight_74 (kX0_tryLastClock  (x2) (x3) ((v1 + v2) + v3) M hv4) kw447 kw449 ks13 kw5 kw450 hdX0_tryLastClock (by decide) c0 (hc := rfl) (by decide) (by decide) rfl rfl (Nat.le_of_ble_eq_true rfl) rfl ?_
      refine Z.sub [1, 2, 3, 4] rfl ?_
      exact tX0_putRight_77 ho1 (x2) (x3) v4 hk13 hk22 H
theorem tX0_putRight_22L {l : Launch} {E : Env5} {o1 : Nat} (ho1 : isNt o1) {k13 : Int32 → Mem → Option Mem}  {M9 : Mem} (hk13 : ∀ (x2 : Int32) (M : Mem), k13 x2 M = some M9 → Z l E RX0 cX0_putRight 5 none 3 13 [(0, .ref (eA E (21))), (1, .ref (eA E (o1))), (2, .int (x2))] [] M (PR none M9)) : ∀ (n : Nat) (x2 : Int32) (x3 : Int32) (M : Mem), fX0_putRight_22L k13 o1 n x2 x3 M = some M9 → Z l E RX0 cX0_putRight 5 none 3 22 [(0, .ref (eA E (21))), (1, .ref (eA E (o1))), (2, .int (x2)), (3, .int (x3))] [] M (PR none M9) := by
  intro n
  induction n with
  | zero => intro x2 x3 M H; exact absurd H (by simp [fX0_putRight_22L])
  | succ n ih => intro x2 x3 M H; exact tX0_putRight_22 ho1 x2 x3 M hk13 (fun x2 x3 M H => ih x2 x3 M H) H
set_option maxRecDepth 100000 in
theorem tX0_putRight_13 {l : Launch} {E : Env5} {o1 : Nat} (ho1 : isNt o1) {k13 : Int32 → Mem → Option Mem} (x2 : Int32) (M : Mem) {M9 : Mem} (hk13 : ∀ (x2 : Int32) (M : Mem), k13 x2 M = some M9 → Z l E RX0 cX0_putRight 5 none 3 13 [(0, .ref (eA E (21))), (1, .ref (eA E (o1))), (2, .int (x2))] [] M (PR none M9)) (H : fX0_putRight_13B k13 o1 x2 M = some M9) : Z l E RX0 cX0_putRight 5 none 3 13 [(0, .ref (eA E (21))), (1, .ref (eA E (o1))), (2, .int (x2))] [] M (PR none M9) := by
  unfold fX0_putRight_13B at H
  refine Z.iload_n dX0_putRight_13 2 rfl ?_
  refine Z.bipush (v := 20) dX0_putRight_14 (by decide) ?_
  refine Z.icmp_gtH dX0_putRight_16 H (fun br16 H => ?_) (fun br16 H => ?_)
  · refine Z.aload_n dX0_putRight_89 0 rfl ?_
    refine Z.aload_n dX0_putRight_90 1 rfl ?_
    refine Z.getN dX0_putRight_91 inX1 (hc := rfl) (cN ho1) (c1 ho1) 4 (by decide) kn66 rfl rfl ?_
    refine Z.aload_n dX0_putRight_94 0 rfl ?_
    refine Z.get dX0_putRight_95 inX0 (hc := rfl) (by decide) c0 3 (by decide) kw94 rfl rfl ?_
    refine Z.isub dX0_putRight_98 ?_
    refine wE H (fun M1 eM1 H => ?_)
    refine Z.put (ty := .int) (M' := M1) dX0_putRight_99 inX0 tyX0_ok nmX0 (hc := rfl) (by decide) c0 4 (by decide) kw95 rfl rfl (by decide +kernel) rfl rfl (Nat.le_of_ble_eq_true rfl) (by rw [← eM1, c0, sI_k]; exact congrArg (fun q => Sum.inr (0, q)) u0_outliers) (by rw [← eM1]; exact sI_o) (by rw [← eM1]; exact (fun q => q)) ?_
    exact Z.vret rfl dX0_putRight_102 (retV H)
  · refine Z.bipush (v := (-20)) dX0_putRight_19 (by decide) ?_
    refine Z.istore_n (lv' := [(3, .int ((-20))), (0, .ref (eA E (21))), (1, .ref (eA E (o1))), (2, .int (x2))]) dX0_putRight_21 (by decide) rfl ?_
    refine Z.sub [1, 2, 3, 0] rfl ?_
    exact tX0_putRight_22L ho1 hk13 FU (x2) ((-20)) M H
theorem tX0_putRight_13L {l : Launch} {E : Env5} {o1 : Nat} (ho1 : isNt o1)   {M9 : Mem}  : ∀ (n : Nat) (x2 : Int32) (M : Mem), fX0_putRight_13L  o1 n x2 M = some M9 → Z l E RX0 cX0_putRight 5 none 3 13 [(0, .ref (eA E (21))), (1, .ref (eA E (o1))), (2, .int (x2))] [] M (PR none M9) := by
  intro n
  induction n with
  | zero => intro x2 M H; exact absurd H (by simp [fX0_putRight_13L])
  | succ n ih => intro x2 M H; exact tX0_putRight_13 ho1 x2 M  (fun x2 M H => ih x2 M H) H
set_option maxRecDepth 100000 in
theorem tX0_putRight_0 {l : Launch} {E : Env5} {o1 : Nat} (ho1 : isNt o1)   (M : Mem) {M9 : Mem}  (H : fX0_putRight  o1 M = some M9) : Z l E RX0 cX0_putRight 5 none 3 0 [(0, .ref (eA E (21))), (1, .ref (eA E (o1)))] [] M (PR none M9) := by
  unfold fX0_putRight at H
  refine Z.aload_n dX0_putRight_0 0 rfl ?_
  refine Z.aload_n dX0_putRight_1 1 rfl ?_
  refine bindC H (fun v1 hv1 H => ?_)
  refine Z.callV (As := [.ref (eA E (o1))]) (rest := []) (st' := []) dX0_putRight_2 (kX0_countFacts ho1  M hv1) kw422 kw424 ks10 kw5 kw425 hdX0_countFacts (by decide) c0 (hc := rfl) (by decide) (by decide) rfl rfl (Nat.le_of_ble_eq_true rfl) rfl ?_
  refine Z.aload_n dX0_putRight_5 0 rfl ?_
  refine Z.iconst (v := (-1)) dX0_putRight_6 (by decide) ?_
  refine wE H (fun M2 eM2 H => ?_)
  refine Z.put (ty := .int) (M' := M2) dX0_putRight_7 inX0 tyX0_ok nmX0 (hc := rfl) (by decide) c0 3 (by decide) kw94 rfl rfl (by decide +kernel) rfl rfl (Nat.le_of_ble_eq_true rfl) (by rw [← eM2, c0, sI_k]; exact congrArg (fun q => Sum.inr (0, q)) u0_held) (by rw [← eM2]; exact sI_o) (by rw [← eM2]; exact (fun q => q)) ?_
  refine Z.bipush (v := (-20)) dX0_putRight_10 (by decide) ?_
  refine Z.istore_n (lv' := [(2, .int ((-20))), (0, .ref (eA E (21))), (1, .ref (eA E (o1)))]) dX0_putRight_12 (by decide) rfl ?_
  refine Z.sub [1, 2, 0] rfl ?_
  exact tX0_putRight_13L ho1  FU ((-20)) M2 H
theorem kX0_putRight {l : Launch} {E : Env5} {o1 : Nat} (ho1 : isNt o1)  (M : Mem) {M9 : Mem} (H : fX0_putRight o1 M = some M9) : Cn l E yX0_putRight cX0_putRight 5 none 3 [.ref (eA E (21)), .ref (eA E (o1))] M (PR none M9) := Cn.ofZ rfl (Nat.le_of_ble_eq_true rfl) rfl (tX0_putRight_0 ho1  M H)
theorem hdX0_putRight : yX0_putRight.cls ≠ "java/lang/invoke/MethodHandle" ∧ yX0_putRight.cls ≠ "java/lang/invoke/VarHandle" ∧ (parseMethodDescriptor yX0_putRight.desc).map (fun d => d.parameters.length) = some 1 := by decide +kernel

set_option maxRecDepth 100000 in
theorem tX1_tellNothingOfHat_0 {l : Launch} {E : Env5} {b : Nat} (hb : isNt b)   (M : Mem) {M9 : Mem}  (H : fX1_tellNothingOfHat  b M = some M9) : Z l E RX1 cX1_tellNothingOfHat 1 none 1 0 [(0, .ref (eA E (b)))] [] M (PR none M9) := by
  unfold fX1_tellNothingOfHat at H
  refine Z.aload_n dX1_tellNothingOfHat_0 0 rfl ?_
  refine Z.get dX1_tellNothingOfHat_1 inX1 (hc := rfl) (cN hb) (c1 hb) 2 (by decide) kw62 rfl rfl ?_
  refine Z.iconst (v := 2) dX1_tellNothingOfHat_4 (by decide) ?_
  refine bindC H (fun v1 hv1 H => ?_)
  refine Z.callS (As := [.ref (eA E (b + 3)), .int (2)]) (rest := []) (st' := []) dX1_tellNothingOfHat_5 (kJ7_fill_53178 (a1_hat hb) (2) M hv1) kw57 kw58 kw4 kw59 hdJ7_fill_53178 (by decide) (by decide) rfl rfl (Nat.le_of_ble_eq_true rfl) rfl ?_
  exact Z.vret rfl dX1_tellNothingOfHat_8 (retV H)
theorem kX1_tellNothingOfHat {l : Launch} {E : Env5} {b : Nat} (hb : isNt b)  (M : Mem) {M9 : Mem} (H : fX1_tellNothingOfHat b M = some M9) : Cn l E yX1_tellNothingOfHat cX1_tellNothingOfHat 1 none 1 [.ref (eA E (b))] M (PR none M9) := Cn.ofZ rfl (Nat.le_of_ble_eq_true rfl) rfl (tX1_tellNothingOfHat_0 hb  M H)
theorem hdX1_tellNothingOfHat : yX1_tellNothingOfHat.cls ≠ "java/lang/invoke/MethodHandle" ∧ yX1_tellNothingOfHat.cls ≠ "java/lang/invoke/VarHandle" ∧ (parseMethodDescriptor yX1_tellNothingOfHat.desc).map (fun d => d.parameters.length) = some 0 := by decide +kernel

set_option maxRecDepth 100000 in
theorem tX1_become_0 {l : Launch} {E : Env5} {b : Nat} {o1 : Nat} (hb : isNt b) (ho1 : isNt o1)   (M : Mem) {M9 : Mem}  (H : fX1_become  b o1 M = some M9) : Z l E RX1 cX1_become 2 none 1 0 [(0, .ref (eA E (b))), (1, .ref (eA E (o1)))] [] M (PR none M9) := by
  unfold fX1_become at H
  refine Z.aload_n dX1_become_0 1 rfl ?_
  refine Z.get dX1_become_1 inX1 (hc := rfl) (cN ho1) (c1 ho1) 0 (by decide) kw60 rfl rfl ?_
  refine Z.iconst (v := 0) dX1_become_4 (by decide) ?_
  refine Z.aload_n dX1_become_5 0 rfl ?_
  refine Z.get dX1_become_6 inX1 (hc := rfl) (cN hb) (c1 hb) 0 (by decide) kw60 rfl rfl ?_
  refine Z.iconst (v := 0) dX1_become_9 (by decide) ?_
  refine Z.aload_n dX1_become_10 0 rfl ?_
  refine Z.get dX1_become_11 inX1 (hc := rfl) (cN hb) (c1 hb) 0 (by decide) kw60 rfl rfl ?_
  refine Z.alen (v := 80) dX1_become_14 (a1_facts hb) rfl ?_
  refine Z.acopyH dX1_become_15 kw660 kw272 kw271 kw9 (a1_facts ho1) (a1_facts hb) (by decide) (by decide) H (fun M1 H => ?_)
  refine Z.aload_n dX1_become_18 1 rfl ?_
  refine Z.get dX1_become_19 inX1 (hc := rfl) (cN ho1) (c1 ho1) 1 (by decide) kw61 rfl rfl ?_
  refine Z.iconst (v := 0) dX1_become_22 (by decide) ?_
  refine Z.aload_n dX1_become_23 0 rfl ?_
  refine Z.get dX1_become_24 inX1 (hc := rfl) (cN hb) (c1 hb) 1 (by decide) kw61 rfl rfl ?_
  refine Z.iconst (v := 0) dX1_become_27 (by decide) ?_
  refine Z.aload_n dX1_become_28 0 rfl ?_
  refine Z.get dX1_become_29 inX1 (hc := rfl) (cN hb) (c1 hb) 1 (by decide) kw61 rfl rfl ?_
  refine Z.alen (v := 32) dX1_become_32 (a1_sightings hb) rfl ?_
  refine Z.acopyH dX1_become_33 kw660 kw272 kw271 kw9 (a1_sightings ho1) (a1_sightings hb) (by decide) (by decide) H (fun M2 H => ?_)
  refine Z.aload_n dX1_become_36 1 rfl ?_
  refine Z.get dX1_become_37 inX1 (hc := rfl) (cN ho1) (c1 ho1) 2 (by decide) kw62 rfl rfl ?_
  refine Z.iconst (v := 0) dX1_become_40 (by decide) ?_
  refine Z.aload_n dX1_become_41 0 rfl ?_
  refine Z.get dX1_become_42 inX1 (hc := rfl) (cN hb) (c1 hb) 2 (by decide) kw62 rfl rfl ?_
  refine Z.iconst (v := 0) dX1_become_45 (by decide) ?_
  refine Z.aload_n dX1_become_46 0 rfl ?_
  refine Z.get dX1_become_47 inX1 (hc := rfl) (cN hb) (c1 hb) 2 (by decide) kw62 rfl rfl ?_
  refine Z.alen (v := 10) dX1_become_50 (a1_hat hb) rfl ?_
  refine Z.acopyH dX1_become_51 kw660 kw272 kw271 kw9 (a1_hat ho1) (a1_hat hb) (by decide) (by decide) H (fun M3 H => ?_)
  refine Z.aload_n dX1_become_54 0 rfl ?_
  refine Z.aload_n dX1_become_55 1 rfl ?_
  refine Z.get dX1_become_56 inX1 (hc := rfl) (cN ho1) (c1 ho1) 4 (by decide) kw65 rfl rfl ?_
  refine wE H (fun M4 eM4 H => ?_)
  refine Z.put (ty := .int) (M' := M4) dX1_become_59 inX1 tyX1_ok nmX1 (hc := rfl) (cN hb) (c1 hb) 4 (by decide) kw65 rfl rfl (by decide +kernel) rfl rfl (Nat.le_of_ble_eq_true rfl) (by rw [← eM4, (c1 hb), sI_k]; exact congrArg (fun q => Sum.inr (1, q)) u1_factCount) (by rw [← eM4]; exact sI_o) (by rw [← eM4]; exact (fun q => q)) ?_
  refine Z.aload_n dX1_become_62 0 rfl ?_
  refine Z.aload_n dX1_become_63 1 rfl ?_
  refine Z.get dX1_become_64 inX1 (hc := rfl) (cN ho1) (c1 ho1) 5 (by decide) kw68 rfl rfl ?_
  refine wE H (fun M5 eM5 H => ?_)
  refine Z.put (ty := .int) (M' := M5) dX1_become_67 inX1 tyX1_ok nmX1 (hc := rfl) (cN hb) (c1 hb) 5 (by decide) kw68 rfl rfl (by decide +kernel) rfl rfl (Nat.le_of_ble_eq_true rfl) (by rw [← eM5, (c1 hb), sI_k]; exact congrArg (fun q => Sum.inr (1, q)) u1_seenCount) (by rw [← eM5]; exact sI_o) (by rw [← eM5]; exact (fun q => q)) ?_
  exact Z.vret rfl dX1_become_70 (retV H)
theorem kX1_become {l : Launch} {E : Env5} {b : Nat} {o1 : Nat} (hb : isNt b) (ho1 : isNt o1)  (M : Mem) {M9 : Mem} (H : fX1_become b o1 M = some M9) : Cn l E yX1_become cX1_become 2 none 1 [.ref (eA E (b)), .ref (eA E (o1))] M (PR none M9) := Cn.ofZ rfl (Nat.le_of_ble_eq_true rfl) rfl (tX1_become_0 hb ho1  M H)
theorem hdX1_become : yX1_become.cls ≠ "java/lang/invoke/MethodHandle" ∧ yX1_become.cls ≠ "java/lang/invoke/VarHandle" ∧ (parseMethodDescriptor yX1_become.desc).map (fun d => d.parameters.length) = some 1 := by decide +kernel

set_option maxRecDepth 100000 in
theorem tX1_putRow_0 {l : Launch} {E : Env5} {a0 : Nat} {n0 : Nat} (ha0 : iA a0 n0)  (x1 : Int32) (x2 : Int32) (x3 : Int32) (x4 : Int32) (x5 : Int32) (M : Mem) {M9 : Mem}  (H : fX1_putRow  a0 n0 x1 x2 x3 x4 x5 M = some M9) : Z l E RX1 cX1_putRow 6 none 0 0 [(0, .ref (eA E (a0))), (1, .int (x1)), (2, .int (x2)), (3, .int (x3)), (4, .int (x4)), (5, .int (x5))] [] M (PR none M9) := by
  unfold fX1_putRow at H
  refine Z.aload_n dX1_putRow_0 0 rfl ?_
  refine Z.iload_n dX1_putRow_1 1 rfl ?_
  refine Z.iload_n dX1_putRow_2 2 rfl ?_
  refine Z.iastH dX1_putRow_3 ha0 H (fun M1 H => ?_)
  refine Z.aload_n dX1_putRow_4 0 rfl ?_
  refine Z.iload_n dX1_putRow_5 1 rfl ?_
  refine Z.iconst (v := 1) dX1_putRow_6 (by decide) ?_
  refine Z.iadd dX1_putRow_7 ?_
  refine Z.iload_n dX1_putRow_8 3 rfl ?_
  refine Z.iastH dX1_putRow_9 ha0 H (fun M2 H => ?_)
  refine Z.aload_n dX1_putRow_10 0 rfl ?_
  refine Z.iload_n dX1_putRow_11 1 rfl ?_
  refine Z.iconst (v := 2) dX1_putRow_12 (by decide) ?_
  refine Z.iadd dX1_putRow_13 ?_
  refine Z.iload dX1_putRow_14 4 rfl ?_
  refine Z.iastH dX1_putRow_16 ha0 H (fun M3 H => ?_)
  refine Z.aload_n dX1_putRow_17 0 rfl ?_
  refine Z.iload_n dX1_putRow_18 1 rfl ?_
  refine Z.iconst (v := 3) dX1_putRow_19 (by decide) ?_
  refine Z.iadd dX1_putRow_20 ?_
  refine Z.iload dX1_putRow_21 5 rfl ?_
  refine Z.iastH dX1_putRow_23 ha0 H (fun M4 H => ?_)
  exact Z.vret rfl dX1_putRow_24 (retV H)
theorem kX1_putRow {l : Launch} {E : Env5} {a0 : Nat} {n0 : Nat} (ha0 : iA a0 n0) (x1 : Int32) (x2 : Int32) (x3 : Int32) (x4 : Int32) (x5 : Int32) (M : Mem) {M9 : Mem} (H : fX1_putRow a0 n0 x1 x2 x3 x4 x5 M = some M9) : Cn l E yX1_putRow cX1_putRow 6 none 0 [.ref (eA E (a0)), .int (x1), .int (x2), .int (x3), .int (x4), .int (x5)] M (PR none M9) := Cn.ofZ rfl (Nat.le_of_ble_eq_true rfl) rfl (tX1_putRow_0 ha0 x1 x2 x3 x4 x5 M H)
theorem hdX1_putRow : yX1_putRow.cls ≠ "java/lang/invoke/MethodHandle" ∧ yX1_putRow.cls ≠ "java/lang/invoke/VarHandle" ∧ (parseMethodDescriptor yX1_putRow.desc).map (fun d => d.parameters.length) = some 6 := by decide +kernel

set_option maxRecDepth 100000 in
theorem tX1_addFact_0 {l : Launch} {E : Env5} {b : Nat} (hb : isNt b)  (x1 : Int32) (x2 : Int32) (x3 : Int32) (x4 : Int32) (M : Mem) {v9 : Int32} {M9 : Mem}  (H : fX1_addFact  b x1 x2 x3 x4 M = some (v9, M9)) : Z l E RX1 cX1_addFact 5 (some .int) 1 0 [(0, .ref (eA E (b))), (1, .int (x1)), (2, .int (x2)), (3, .int (x3)), (4, .int (x4))] [] M (PR (some (.int v9)) M9) := by
  unfold fX1_addFact at H
  refine Z.aload_n dX1_addFact_0 0 rfl ?_
  refine Z.get dX1_addFact_1 inX1 (hc := rfl) (cN hb) (c1 hb) 4 (by decide) kw65 rfl rfl ?_
  refine Z.bipush (v := 20) dX1_addFact_4 (by decide) ?_
  refine Z.icmp_geH dX1_addFact_6 H (fun br6 H => ?_) (fun br6 H => ?_)
  · refine Z.aload_n dX1_addFact_37 0 rfl ?_
    refine Z.get dX1_addFact_38 inX1 (hc := rfl) (cN hb) (c1 hb) 4 (by decide) kw65 rfl rfl ?_
    exact Z.iret rfl dX1_addFact_41 (retW H)
  · refine Z.aload_n dX1_addFact_9 0 rfl ?_
    refine Z.get dX1_addFact_10 inX1 (hc := rfl) (cN hb) (c1 hb) 0 (by decide) kw60 rfl rfl ?_
    refine Z.iconst (v := 4) dX1_addFact_13 (by decide) ?_
    refine Z.aload_n dX1_addFact_14 0 rfl ?_
    refine Z.get dX1_addFact_15 inX1 (hc := rfl) (cN hb) (c1 hb) 4 (by decide) kw65 rfl rfl ?_
    refine Z.imul dX1_addFact_18 ?_
    refine Z.iload_n dX1_addFact_19 1 rfl ?_
    refine Z.iload_n dX1_addFact_20 2 rfl ?_
    refine Z.iload_n dX1_addFact_21 3 rfl ?_
    refine Z.iload dX1_addFact_22 4 rfl ?_
    refine bindC H (fun v1 hv1 H => ?_)
    refine Z.callS (As := [.ref (eA E (b + 1)), .int (4 * (M.1 b 4)), .int (x1), .int (x2), .int (x3), .int (x4)]) (rest := []) (st' := []) dX1_addFact_24 (kX1_putRow (a1_facts hb) (4 * (M.1 b 4)) (x1) (x2) (x3) (x4) M hv1) kw410 kw411 kw3 kw412 hdX1_putRow (by decide) (by decide) rfl rfl (Nat.le_of_ble_eq_true rfl) rfl ?_
    refine Z.aload_n dX1_addFact_27 0 rfl ?_
    refine Z.dup dX1_addFact_28 rfl ?_
    refine Z.get dX1_addFact_29 inX1 (hc := rfl) (cN hb) (c1 hb) 4 (by decide) kw65 rfl rfl ?_
    refine Z.iconst (v := 1) dX1_addFact_32 (by decide) ?_
    refine Z.iadd dX1_addFact_33 ?_
    refine wE H (fun M2 eM2 H => ?_)
    refine Z.put (ty := .int) (M' := M2) dX1_addFact_34 inX1 tyX1_ok nmX1 (hc := rfl) (cN hb) (c1 hb) 4 (by decide) kw65 rfl rfl (by decide +kernel) rfl rfl (Nat.le_of_ble_eq_true rfl) (by rw [← eM2, (c1 hb), sI_k]; exact congrArg (fun q => Sum.inr (1, q)) u1_factCount) (by rw [← eM2]; exact sI_o) (by rw [← eM2]; exact (fun q => q)) ?_
    refine Z.aload_n dX1_addFact_37 0 rfl ?_
    refine Z.get dX1_addFact_38 inX1 (hc := rfl) (cN hb) (c1 hb) 4 (by decide) kw65 rfl rfl ?_
    exact Z.iret rfl dX1_addFact_41 (retW H)
theorem kX1_addFact {l : Launch} {E : Env5} {b : Nat} (hb : isNt b) (x1 : Int32) (x2 : Int32) (x3 : Int32) (x4 : Int32) (M : Mem) {v9 : Int32} {M9 : Mem} (H : fX1_addFact b x1 x2 x3 x4 M = some (v9, M9)) : Cn l E yX1_addFact cX1_addFact 5 (some .int) 1 [.ref (eA E (b)), .int (x1), .int (x2), .int (x3), .int (x4)] M (PR (some (.int v9)) M9) := Cn.ofZ rfl (Nat.le_of_ble_eq_true rfl) rfl (tX1_addFact_0 hb x1 x2 x3 x4 M H)
theorem hdX1_addFact : yX1_addFact.cls ≠ "java/lang/invoke/MethodHandle" ∧ yX1_addFact.cls ≠ "java/lang/invoke/VarHandle" ∧ (parseMethodDescriptor yX1_addFact.desc).map (fun d => d.parameters.length) = some 4 := by decide +kernel

set_option maxRecDepth 100000 in
theorem tX1_addSeen_0 {l : Launch} {E : Env5} {b : Nat} (hb : isNt b)  (x1 : Int32) (x2 : Int32) (x3 : Int32) (x4 : Int32) (M : Mem) {v9 : Int32} {M9 : Mem}  (H : fX1_addSeen  b x1 x2 x3 x4 M = some (v9, M9)) : Z l E RX1 cX1_addSeen 5 (some .int) 1 0 [(0, .ref (eA E (b))), (1, .int (x1)), (2, .int (x2)), (3, .int (x3)), (4, .int (x4))] [] M (PR (some (.int v9)) M9) := by
  unfold fX1_addSeen at H
  refine Z.aload_n dX1_addSeen_0 0 rfl ?_
  refine Z.get dX1_addSeen_1 inX1 (hc := rfl) (cN hb) (c1 hb) 5 (by decide) kw68 rfl rfl ?_
  refine Z.bipush (v := 8) dX1_addSeen_4 (by decide) ?_
  refine Z.icmp_geH dX1_addSeen_6 H (fun br6 H => ?_) (fun br6 H => ?_)
  · refine Z.aload_n dX1_addSeen_37 0 rfl ?_
    refine Z.get dX1_addSeen_38 inX1 (hc := rfl) (cN hb) (c1 hb) 5 (by decide) kw68 rfl rfl ?_
    exact Z.iret rfl dX1_addSeen_41 (retW H)
  · refine Z.aload_n dX1_addSeen_9 0 rfl ?_
    refine Z.get dX1_addSeen_10 inX1 (hc := rfl) (cN hb) (c1 hb) 1 (by decide) kw61 rfl rfl ?_
    refine Z.iconst (v := 4) dX1_addSeen_13 (by decide) ?_
    refine Z.aload_n dX1_addSeen_14 0 rfl ?_
    refine Z.get dX1_addSeen_15 inX1 (hc := rfl) (cN hb) (c1 hb) 5 (by decide) kw68 rfl rfl ?_
    refine Z.imul dX1_addSeen_18 ?_
    refine Z.iload_n dX1_addSeen_19 1 rfl ?_
    refine Z.iload_n dX1_addSeen_20 2 rfl ?_
    refine Z.iload_n dX1_addSeen_21 3 rfl ?_
    refine Z.iload dX1_addSeen_22 4 rfl ?_
    refine bindC H (fun v1 hv1 H => ?_)
    refine Z.callS (As := [.ref (eA E (b + 2)), .int (4 * (M.1 b 5)), .int (x1), .int (x2), .int (x3), .int (x4)]) (rest := []) (st' := []) dX1_addSeen_24 (kX1_putRow (a1_sightings hb) (4 * (M.1 b 5)) (x1) (x2) (x3) (x4) M hv1) kw410 kw411 kw3 kw412 hdX1_putRow (by decide) (by decide) rfl rfl (Nat.le_of_ble_eq_true rfl) rfl ?_
    refine Z.aload_n dX1_addSeen_27 0 rfl ?_
    refine Z.dup dX1_addSeen_28 rfl ?_
    refine Z.get dX1_addSeen_29 inX1 (hc := rfl) (cN hb) (c1 hb) 5 (by decide) kw68 rfl rfl ?_
    refine Z.iconst (v := 1) dX1_addSeen_32 (by decide) ?_
    refine Z.iadd dX1_addSeen_33 ?_
    refine wE H (fun M2 eM2 H => ?_)
    refine Z.put (ty := .int) (M' := M2) dX1_addSeen_34 inX1 tyX1_ok nmX1 (hc := rfl) (cN hb) (c1 hb) 5 (by decide) kw68 rfl rfl (by decide +kernel) rfl rfl (Nat.le_of_ble_eq_true rfl) (by rw [← eM2, (c1 hb), sI_k]; exact congrArg (fun q => Sum.inr (1, q)) u1_seenCount) (by rw [← eM2]; exact sI_o) (by rw [← eM2]; exact (fun q => q)) ?_
    refine Z.aload_n dX1_addSeen_37 0 rfl ?_
    refine Z.get dX1_addSeen_38 inX1 (hc := rfl) (cN hb) (c1 hb) 5 (by decide) kw68 rfl rfl ?_
    exact Z.iret rfl dX1_addSeen_41 (retW H)
theorem kX1_addSeen {l : Launch} {E : Env5} {b : Nat} (hb : isNt b) (x1 : Int32) (x2 : Int32) (x3 : Int32) (x4 : Int32) (M : Mem) {v9 : Int32} {M9 : Mem} (H : fX1_addSeen b x1 x2 x3 x4 M = some (v9, M9)) : Cn l E yX1_addSeen cX1_addSeen 5 (some .int) 1 [.ref (eA E (b)), .int (x1), .int (x2), .int (x3), .int (x4)] M (PR (some (.int v9)) M9) := Cn.ofZ rfl (Nat.le_of_ble_eq_true rfl) rfl (tX1_addSeen_0 hb x1 x2 x3 x4 M H)
theorem hdX1_addSeen : yX1_addSeen.cls ≠ "java/lang/invoke/MethodHandle" ∧ yX1_addSeen.cls ≠ "java/lang/invoke/VarHandle" ∧ (parseMethodDescriptor yX1_addSeen.desc).map (fun d => d.parameters.length) = some 4 := by decide +kernel

set_option maxRecDepth 100000 in
theorem tX1_ofSeen_0 {l : Launch} {E : Env5} {b : Nat} (hb : isNt b)  (x1 : Int32) (x2 : Int32) (M : Mem) {v9 : Int32}  (H : fX1_ofSeen  b x1 x2 M = some v9) : Z l E RX1 cX1_ofSeen 3 (some .int) 0 0 [(0, .ref (eA E (b))), (1, .int (x1)), (2, .int (x2))] [] M (PR (some (.int v9)) M) := by
  unfold fX1_ofSeen at H
  refine Z.aload_n dX1_ofSeen_0 0 rfl ?_
  refine Z.get dX1_ofSeen_1 inX1 (hc := rfl) (cN hb) (c1 hb) 1 (by decide) kw61 rfl rfl ?_
  refine Z.iconst (v := 4) dX1_ofSeen_4 (by decide) ?_
  refine Z.iload_n dX1_ofSeen_5 1 rfl ?_
  refine Z.imul dX1_ofSeen_6 ?_
  refine Z.iload_n dX1_ofSeen_7 2 rfl ?_
  refine Z.iadd dX1_ofSeen_8 ?_
  refine Z.ialdH dX1_ofSeen_9 (a1_sightings hb) H (fun v1 H => ?_)
  exact Z.iret rfl dX1_ofSeen_10 (retR H)
theorem kX1_ofSeen {l : Launch} {E : Env5} {b : Nat} (hb : isNt b) (x1 : Int32) (x2 : Int32) (M : Mem) {v9 : Int32} (H : fX1_ofSeen b x1 x2 M = some v9) : Cn l E yX1_ofSeen cX1_ofSeen 3 (some .int) 0 [.ref (eA E (b)), .int (x1), .int (x2)] M (PR (some (.int v9)) M) := Cn.ofZ rfl (Nat.le_of_ble_eq_true rfl) rfl (tX1_ofSeen_0 hb x1 x2 M H)
theorem hdX1_ofSeen : yX1_ofSeen.cls ≠ "java/lang/invoke/MethodHandle" ∧ yX1_ofSeen.cls ≠ "java/lang/invoke/VarHandle" ∧ (parseMethodDescriptor yX1_ofSeen.desc).map (fun d => d.parameters.length) = some 2 := by decide +kernel

set_option maxRecDepth 100000 in
theorem tX1_canBeOne_0 {l : Launch} {E : Env5} {b : Nat} (hb : isNt b)  (x1 : Int32) (x2 : Int32) (M : Mem) {v9 : Int32}  (H : fX1_canBeOne  b x1 x2 M = some v9) : Z l E RX1 cX1_canBeOne 5 (some .boolean) 1 0 [(0, .ref (eA E (b))), (1, .int (x1)), (2, .int (x2))] [] M (PR (some (.int v9)) M) := by
  unfold fX1_canBeOne at H
  refine Z.aload_n dX1_canBeOne_0 0 rfl ?_
  refine Z.iload_n dX1_canBeOne_1 1 rfl ?_
  refine Z.iconst (v := 0) dX1_canBeOne_2 (by decide) ?_
  refine bindC H (fun v1 hv1 H => ?_)
  refine Z.callV (As := [.int (x1), .int (0)]) (rest := []) (st' := [.int (v1)]) dX1_canBeOne_3 (kX1_ofSeen hb (x1) (0) M hv1) kw475 kw477 ks16 kw3 kw478 hdX1_ofSeen (cN hb) (c1 hb) (hc := rfl) (by decide) (by decide) rfl rfl (Nat.le_of_ble_eq_true rfl) rfl ?_
  refine Z.aload_n dX1_canBeOne_6 0 rfl ?_
  refine Z.iload_n dX1_canBeOne_7 2 rfl ?_
  refine Z.iconst (v := 0) dX1_canBeOne_8 (by decide) ?_
  refine bindC H (fun v2 hv2 H => ?_)
  refine Z.callV (As := [.int (x2), .int (0)]) (rest := [.int (v1)]) (st' := [.int (v2), .int (v1)]) dX1_canBeOne_9 (kX1_ofSeen hb (x2) (0) M hv2) kw475 kw477 ks16 kw3 kw478 hdX1_ofSeen (cN hb) (c1 hb) (hc := rfl) (by decide) (by decide) rfl rfl (Nat.le_of_ble_eq_true rfl) rfl ?_
  refine Z.isub dX1_canBeOne_12 ?_
  refine Z.mabs dX1_canBeOne_13 kw479 kw309 kw8 km_abs (by decide) (Nat.le_of_ble_eq_true rfl) ?_
  refine Z.aload_n dX1_canBeOne_16 0 rfl ?_
  refine Z.iload_n dX1_canBeOne_17 1 rfl ?_
  refine Z.iconst (v := 1) dX1_canBeOne_18 (by decide) ?_
  refine bindC H (fun v3 hv3 H => ?_)
  refine Z.callV (As := [.int (x1), .int (1)]) (rest := [.int (iabs (v1 - v2))]) (st' := [.int (v3), .int (iabs (v1 - v2))]) dX1_canBeOne_19 (kX1_ofSeen hb (x1) (1) M hv3) kw475 kw477 ks16 kw3 kw478 hdX1_ofSeen (cN hb) (c1 hb) (hc := rfl) (by decide) (by decide) rfl rfl (Nat.le_of_ble_eq_true rfl) rfl ?_
  refine Z.aload_n dX1_canBeOne_22 0 rfl ?_
  refine Z.iload_n dX1_canBeOne_23 2 rfl ?_
  refine Z.iconst (v := 1) dX1_canBeOne_24 (by decide) ?_
  refine bindC H (fun v4 hv4 H => ?_)
  refine Z.callV (As := [.int (x2), .int (1)]) (rest := [.int (v3), .int (iabs (v1 - v2))]) (st' := [.int (v4), .int (v3), .int (iabs (v1 - v2))]) dX1_canBeOne_25 (kX1_ofSeen hb (x2) (1) M hv4) kw475 kw477 ks16 kw3 kw478 hdX1_ofSeen (cN hb) (c1 hb) (hc := rfl) (by decide) (by decide) rfl rfl (Nat.le_of_ble_eq_true rfl) rfl ?_
  refine Z.isub dX1_canBeOne_28 ?_
  refine Z.mabs dX1_canBeOne_29 kw479 kw309 kw8 km_abs (by decide) (Nat.le_of_ble_eq_true rfl) ?_
  refine Z.iadd dX1_canBeOne_32 ?_
  refine Z.istore_n (lv' := [(3, .int ((iabs (v1 - v2)) + (iabs (v3 - v4)))), (0, .ref (eA E (b))), (1, .int (x1)), (2, .int (x2))]) dX1_canBeOne_33 (by decide) rfl ?_
  refine Z.aload_n dX1_canBeOne_34 1 rfl ?_
  refine Z.iload_n dX1_canBeOne_35 2 rfl ?_
  refine Z.iconst (v := 2) dX1_canBeOne_36 (by decide) ?_
  refine bindC H (fun v5 hv5 H => ?_)
  refine Z.callV (As := [.int (x1), .int (2)]) (rest := []) (st' := [.int (v5)]) dX1_canBeOne_37 (kX1_ofSeen hb (x1) (2) M hv5) kw475 kw477 ks16 kw3 kw478 hdX1_ofSeen (cN hb) (c1 hb) (hc := rfl) (by decide) (by decide) rfl rfl (Nat.le_of_ble_eq_true rfl) rfl ?_
  refine Z.aload_n dX1_canBeOne_40 1 rfl ?_
  refine Z.iload_n dX1_canBeOne_41 3 rfl ?_
  refine Z.iconst (v := 2) dX1_canBeOne_42 (by decide) ?_
  refine bindC H (fun v6 hv6 H => ?_)
  refine Z.callV (As := [.int (x2), .int (2)]) (rest := [.int (v5)]) (st' := [.int (v6), .int (v5)]) dX1_canBeOne_43 (kX1_ofSeen hb (x2) (2) M hv6) kw475 kw477 ks16 kw3 kw478 hdX1_ofSeen (cN hb) (c1 hb) (hc := rfl) (by decide) (by decide) rfl rfl (Nat.le_of_ble_eq_true rfl) rfl ?_
  refine Z.isub dX1_canBeOne_46 ?_
  refine Z.mabs dX1_canBeOne_47 kw479 kw309 kw8 km_abs (by decide) (Nat.le_of_ble_eq_true rfl) ?_
  refine Z.istore (lv' := [(4, .int (iabs (v5 - v6))), (3, .int ((iabs (v1 - v2)) + (iabs (v3 - v4)))), (0, .ref (eA E (b))), (1, .int (x1)), (2, .int (x2))]) dX1_canBeOne_50 (by decide) rfl ?_
  refine Z.aload_n dX1_canBeOne_52 2 rfl ?_
  refine Z.iload_n dX1_canBeOne_53 3 rfl ?_
  refine Z.iconst (v := 3) dX1_canBeOne_54 (by decide) ?_
  refine bindC H (fun v7 hv7 H => ?_)
  refine Z.callV (As := [.int (x1), .int (3)]) (rest := []) (st' := [.int (v7)]) dX1_canBeOne_55 (kX1_ofSeen hb (x1) (3) M hv7) kw475 kw477 ks16 kw3 kw478 hdX1_ofSeen (cN hb) (c1 hb) (hc := rfl) (by decide) (by decide) rfl rfl (Nat.le_of_ble_eq_true rfl) rfl ?_
  refine Z.aload_n dX1_canBeOne_58 2 rfl ?_
  refine Z.iload_n dX1_canBeOne_59 4 rfl ?_
  refine Z.iconst (v := 3) dX1_canBeOne_60 (by decide) ?_
  refine bindC H (fun v8 hv8 H => ?_)
  refine Z.callV (As := [.int (x2), .int (3)]) (rest := [.int (v7)]) (st' := [.int (v8), .int (v7)]) dX1_canBeOne_61 (kX1_ofSeen hb (x2) (3) M hv8) kw475 kw477 ks16 kw3 kw478 hdX1_ofSeen (cN hb) (c1 hb) (hc := rfl) (by decide) (by decide) rfl rfl (Nat.le_of_ble_eq_true rfl) rfl ?_
  refine Z.icmp_neH dX1_canBeOne_64 H (fun br64 H => ?_) (fun br64 H => ?_)
  · refine Z.iconst (v := 0) dX1_canBeOne_77 (by decide) ?_
    exact Z.zret rfl rfl dX1_canBeOne_78 (retR H)
  · refine Z.iload_n dX1_canBeOne_67 1 rfl ?_
    refine Z.iload dX1_canBeOne_68 0 rfl ?_
    refine Z.icmp_gtH dX1_canBeOne_70 H (fun br70 H => ?_) (fun br70 H => ?_)
    · refine Z.iconst (v := 0) dX1_canBeOne_77 (by decide) ?_
      exact Z.zret rfl rfl dX1_canBeOne_78 (retR H)
    · refine Z.iconst (v := 1) dX1_canBeOne_73 (by decide) ?_
      refine Z.goto dX1_canBeOne_74 ?_
      exact Z.zret rfl rfl dX1_canBeOne_78 (retR H)
theorem kX1_canBeOne {l : Launch} {E : Env5} {b : Nat} (hb : isNt b) (x1 : Int32) (x2 : Int32) (M : Mem) {v9 : Int32} (H : fX1_canBeOne b x1 x2 M = some v9) : Cn l E yX1_canBeOne cX1_canBeOne 5 (some .boolean) 1 [.ref (eA E (b)), .int (x1), .int (x2)] M (PR (some (.int v9)) M) := Cn.ofZ rfl (Nat.le_of_ble_eq_true rfl) rfl (tX1_canBeOne_0 hb x1 x2 M H)
theorem hdX1_canBeOne : yX1_canBeOne.cls ≠ "java/lang/invoke/MethodHandle" ∧ yX1_canBeOne.cls ≠ "java/lang/invoke/VarHandle" ∧ (parseMethodDescriptor yX1_canBeOne.desc).map (fun d => d.parameters.length) = some 2 := by decide +kernel

set_option maxRecDepth 100000 in
theorem tX1_findJoinable_53 {l : Launch} {E : Env5} {b : Nat} (hb : isNt b) {k2 : Int32 → Mem → Option Mem} {k19 : Int32 → Int32 → Mem → Option Mem} (x1 : Int32) (x2 : Int32) (M : Mem) {M9 : Mem} (hk2 : ∀ (x1 : Int32) (M : Mem), k2 x1 M = some M9 → Z l E RX1 cX1_findJoinable 3 none 2 2 [(0, .ref (eA E (b))), (1, .int (x1))] [] M (PR none M9)) (hk19 : ∀ (x1 : Int32) (x2 : Int32) (M : Mem), k19 x1 x2 M = some M9 → Z l E RX1 cX1_findJoinable 3 none 2 19 [(0, .ref (eA E (b))), (1, .int (x1)), (2, .int (x2))] [] M (PR none M9)) (H : fX1_findJoinable_53 k2 k19 b x1 x2 M = some M9) : Z l E RX1 cX1_findJoinable 3 none 2 53 [(0, .ref (eA E (b))), (1, .int (x1)), (2, .int (x2))] [] M (PR none M9) := by
  unfold fX1_findJoinable_53 at H
  refine Z.iinc (v := x2 + 1) (lv' := [(2, .int (x2 + 1)), (0, .ref (eA E (b))), (1, .int (x1))]) dX1_findJoinable_53 2 rfl rfl (by decide) rfl ?_
  refine Z.goto dX1_findJoinable_56 ?_
  refine Z.sub [1, 2, 0] rfl ?_
  exact hk19 (x1) (x2 + 1) M  H
set_option maxRecDepth 100000 in
theorem tX1_findJoinable_19 {l : Launch} {E : Env5} {b : Nat} (hb : isNt b) {k2 : Int32 → Mem → Option Mem} {k19 : Int32 → Int32 → Mem → Option Mem} (x1 : Int32) (x2 : Int32) (M : Mem) {M9 : Mem} (hk2 : ∀ (x1 : Int32) (M : Mem), k2 x1 M = some M9 → Z l E RX1 cX1_findJoinable 3 none 2 2 [(0, .ref (eA E (b))), (1, .int (x1))] [] M (PR none M9)) (hk19 : ∀ (x1 : Int32) (x2 : Int32) (M : Mem), k19 x1 x2 M = some M9 → Z l E RX1 cX1_findJoinable 3 none 2 19 [(0, .ref (eA E (b))), (1, .int (x1)), (2, .int (x2))] [] M (PR none M9)) (H : fX1_findJoinable_19B k2 k19 b x1 x2 M = some M9) : Z l E RX1 cX1_findJoinable 3 none 2 19 [(0, .ref (eA E (b))), (1, .int (x1)), (2, .int (x2))] [] M (PR none M9) := by
  unfold fX1_findJoinable_19B at H
  refine Z.iload_n dX1_findJoinable_19 2 rfl ?_
  refine Z.aload_n dX1_findJoinable_20 0 rfl ?_
  refine Z.get dX1_findJoinable_21 inX1 (hc := rfl) (cN hb) (c1 hb) 5 (by decide) kw68 rfl rfl ?_
  refine Z.icmp_geH dX1_findJoinable_24 H (fun br24 H => ?_) (fun br24 H => ?_)
  · refine Z.iinc (v := x1 + 1) (lv' := [(1, .int (x1 + 1)), (0, .ref (eA E (b))), (2, .int (x2))]) dX1_findJoinable_59 1 rfl rfl (by decide) rfl ?_
    refine Z.goto dX1_findJoinable_62 ?_
    refine Z.sub [1, 0] rfl ?_
    exact hk2 (x1 + 1) M  H
  · refine Z.iload_n dX1_findJoinable_27 2 rfl ?_
    refine Z.iload_n dX1_findJoinable_28 1 rfl ?_
    refine Z.icmp_eqH dX1_findJoinable_29 H (fun br29 H => ?_) (fun br29 H => ?_)
    · refine Z.sub [0, 1, 2] rfl ?_
      exact tX1_findJoinable_53 hb (x1) (x2) M hk2 hk19 H
    · refine Z.aload_n dX1_findJoinable_32 0 rfl ?_
      refine Z.iload_n dX1_findJoinable_33 1 rfl ?_
      refine Z.iload_n dX1_findJoinable_34 2 rfl ?_
      refine bindC H (fun v1 hv1 H => ?_)
      refine Z.callV (As := [.int (x1), .int (x2)]) (rest := []) (st' := [.int (v1)]) dX1_findJoinable_35 (kX1_canBeOne hb (x1) (x2) M hv1) kw471 kw473 ks15 kw3 kw474 hdX1_canBeOne (cN hb) (c1 hb) (hc := rfl) (by decide) (by decide) rfl rfl (Nat.le_of_ble_eq_true rfl) rfl ?_
      refine Z.if_eqH dX1_findJoinable_38 H (fun br38 H => ?_) (fun br38 H => ?_)
      · refine Z.sub [0, 1, 2] rfl ?_
        exact tX1_findJoinable_53 hb (x1) (x2) M hk2 hk19 H
      · refine Z.aload_n dX1_findJoinable_41 0 rfl ?_
        refine Z.get dX1_findJoinable_42 inX1 (hc := rfl) (cN hb) (c1 hb) 3 (by decide) kw64 rfl rfl ?_
        refine Z.iload_n dX1_findJoinable_45 1 rfl ?_
        refine Z.dup2 dX1_findJoinable_46 rfl rfl ?_
        refine Z.ialdH dX1_findJoinable_47 (a1_joinable hb) H (fun v2 H => ?_)
        refine Z.iconst (v := 1) dX1_findJoinable_48 (by decide) ?_
        refine Z.iload_n dX1_findJoinable_49 2 rfl ?_
        refine Z.ishl dX1_findJoinable_50 ?_
        refine Z.ior dX1_findJoinable_51 ?_
        refine Z.iastH dX1_findJoinable_52 (a1_joinable hb) H (fun M3 H => ?_)
        refine Z.sub [0, 1, 2] rfl ?_
        exact tX1_findJoinable_53 hb (x1) (x2) M3 hk2 hk19 H
theorem tX1_findJoinable_19L {l : Launch} {E : Env5} {b : Nat} (hb : isNt b) {k2 : Int32 → Mem → Option Mem}  {M9 : Mem} (hk2 : ∀ (x1 : Int32) (M : Mem), k2 x1 M = some M9 → Z l E RX1 cX1_findJoinable 3 none 2 2 [(0, .ref (eA E (b))), (1, .int (x1))] [] M (PR none M9)) : ∀ (n : Nat) (x1 : Int32) (x2 : Int32) (M : Mem), fX1_findJoinable_19L k2 b n x1 x2 M = some M9 → Z l E RX1 cX1_findJoinable 3 none 2 19 [(0, .ref (eA E (b))), (1, .int (x1)), (2, .int (x2))] [] M (PR none M9) := by
  intro n
  induction n with
  | zero => intro x1 x2 M H; exact absurd H (by simp [fX1_findJoinable_19L])
  | succ n ih => intro x1 x2 M H; exact tX1_findJoinable_19 hb x1 x2 M hk2 (fun x1 x2 M H => ih x1 x2 M H) H
set_option maxRecDepth 100000 in
theorem tX1_findJoinable_2 {l : Launch} {E : Env5} {b : Nat} (hb : isNt b) {k2 : Int32 → Mem → Option Mem} (x1 : Int32) (M : Mem) {M9 : Mem} (hk2 : ∀ (x1 : Int32) (M : Mem), k2 x1 M = some M9 → Z l E RX1 cX1_findJoinable 3 none 2 2 [(0, .ref (eA E (b))), (1, .int (x1))] [] M (PR none M9)) (H : fX1_findJoinable_2B k2 b x1 M = some M9) : Z l E RX1 cX1_findJoinable 3 none 2 2 [(0, .ref (eA E (b))), (1, .int (x1))] [] M (PR none M9) := by
  unfold fX1_findJoinable_2B at H
  refine Z.iload_n dX1_findJoinable_2 1 rfl ?_
  refine Z.aload_n dX1_findJoinable_3 0 rfl ?_
  refine Z.get dX1_findJoinable_4 inX1 (hc := rfl) (cN hb) (c1 hb) 5 (by decide) kw68 rfl rfl ?_
  refine Z.icmp_geH dX1_findJoinable_7 H (fun br7 H => ?_) (fun br7 H => ?_)
  · exact Z.vret rfl dX1_findJoinable_65 (retV H)
  · refine Z.aload_n dX1_findJoinable_10 0 rfl ?_
    refine Z.get dX1_findJoinable_11 inX1 (hc := rfl) (cN hb) (c1 hb) 3 (by decide) kw64 rfl rfl ?_
    refine Z.iload_n dX1_findJoinable_14 1 rfl ?_
    refine Z.iconst (v := 0) dX1_findJoinable_15 (by decide) ?_
    refine Z.iastH dX1_findJoinable_16 (a1_joinable hb) H (fun M1 H => ?_)
    refine Z.iconst (v := 0) dX1_findJoinable_17 (by decide) ?_
    refine Z.istore_n (lv' := [(2, .int (0)), (0, .ref (eA E (b))), (1, .int (x1))]) dX1_findJoinable_18 (by decide) rfl ?_
    refine Z.sub [1, 2, 0] rfl ?_
    exact tX1_findJoinable_19L hb hk2 FU (x1) (0) M1 H
theorem tX1_findJoinable_2L {l : Launch} {E : Env5} {b : Nat} (hb : isNt b)   {M9 : Mem}  : ∀ (n : Nat) (x1 : Int32) (M : Mem), fX1_findJoinable_2L  b n x1 M = some M9 → Z l E RX1 cX1_findJoinable 3 none 2 2 [(0, .ref (eA E (b))), (1, .int (x1))] [] M (PR none M9) := by
  intro n
  induction n with
  | zero => intro x1 M H; exact absurd H (by simp [fX1_findJoinable_2L])
  | succ n ih => intro x1 M H; exact tX1_findJoinable_2 hb x1 M  (fun x1 M H => ih x1 M H) H
set_option maxRecDepth 100000 in
theorem tX1_findJoinable_0 {l : Launch} {E : Env5} {b : Nat} (hb : isNt b)   (M : Mem) {M9 : Mem}  (H : fX1_findJoinable  b M = some M9) : Z l E RX1 cX1_findJoinable 3 none 2 0 [(0, .ref (eA E (b)))] [] M (PR none M9) := by
  unfold fX1_findJoinable at H
  refine Z.iconst (v := 0) dX1_findJoinable_0 (by decide) ?_
  refine Z.istore_n (lv' := [(1, .int (0)), (0, .ref (eA E (b)))]) dX1_findJoinable_1 (by decide) rfl ?_
  refine Z.sub [1, 0] rfl ?_
  exact tX1_findJoinable_2L hb  FU (0) M H
theorem kX1_findJoinable {l : Launch} {E : Env5} {b : Nat} (hb : isNt b)  (M : Mem) {M9 : Mem} (H : fX1_findJoinable b M = some M9) : Cn l E yX1_findJoinable cX1_findJoinable 3 none 2 [.ref (eA E (b))] M (PR none M9) := Cn.ofZ rfl (Nat.le_of_ble_eq_true rfl) rfl (tX1_findJoinable_0 hb  M H)
theorem hdX1_findJoinable : yX1_findJoinable.cls ≠ "java/lang/invoke/MethodHandle" ∧ yX1_findJoinable.cls ≠ "java/lang/invoke/VarHandle" ∧ (parseMethodDescriptor yX1_findJoinable.desc).map (fun d => d.parameters.length) = some 0 := by decide +kernel

set_option maxRecDepth 100000 in
theorem tX1_areAllUnlike_31 {l : Launch} {E : Env5} {b : Nat} (hb : isNt b) {k2 : Int32 → Int32 → Option Int32} (x1 : Int32) (x2 : Int32) (M : Mem) {v9 : Int32} (hk2 : ∀ (x1 : Int32) (x2 : Int32), k2 x1 x2 = some v9 → Z l E RX1 cX1_areAllUnlike 3 (some .boolean) 0 2 [(0, .ref (eA E (b))), (1, .int (x1)), (2, .int (x2))] [] M (PR (some (.int v9)) M)) (H : fX1_areAllUnlike_31 k2 b x1 x2 M = some v9) : Z l E RX1 cX1_areAllUnlike 3 (some .boolean) 0 31 [(0, .ref (eA E (b))), (1, .int (x1)), (2, .int (x2))] [] M (PR (some (.int v9)) M) := by
  unfold fX1_areAllUnlike_31 at H
  refine Z.iinc (v := x2 + 1) (lv' := [(2, .int (x2 + 1)), (0, .ref (eA E (b))), (1, .int (x1))]) dX1_areAllUnlike_31 2 rfl rfl (by decide) rfl ?_
  refine Z.goto dX1_areAllUnlike_34 ?_
  refine Z.sub [1, 2, 0] rfl ?_
  exact hk2 (x1) (x2 + 1) H
set_option maxRecDepth 100000 in
theorem tX1_areAllUnlike_2 {l : Launch} {E : Env5} {b : Nat} (hb : isNt b) {k2 : Int32 → Int32 → Option Int32} (x1 : Int32) (x2 : Int32) (M : Mem) {v9 : Int32} (hk2 : ∀ (x1 : Int32) (x2 : Int32), k2 x1 x2 = some v9 → Z l E RX1 cX1_areAllUnlike 3 (some .boolean) 0 2 [(0, .ref (eA E (b))), (1, .int (x1)), (2, .int (x2))] [] M (PR (some (.int v9)) M)) (H : fX1_areAllUnlike_2B k2 b x1 x2 M = some v9) : Z l E RX1 cX1_areAllUnlike 3 (some .boolean) 0 2 [(0, .ref (eA E (b))), (1, .int (x1)), (2, .int (x2))] [] M (PR (some (.int v9)) M) := by
  unfold fX1_areAllUnlike_2B at H
  refine Z.iload_n dX1_areAllUnlike_2 2 rfl ?_
  refine Z.aload_n dX1_areAllUnlike_3 0 rfl ?_
  refine Z.get dX1_areAllUnlike_4 inX1 (hc := rfl) (cN hb) (c1 hb) 5 (by decide) kw68 rfl rfl ?_
  refine Z.icmp_geH dX1_areAllUnlike_7 H (fun br7 H => ?_) (fun br7 H => ?_)
  · refine Z.iconst (v := 1) dX1_areAllUnlike_37 (by decide) ?_
    exact Z.zret rfl rfl dX1_areAllUnlike_38 (retR H)
  · refine Z.iload_n dX1_areAllUnlike_10 1 rfl ?_
    refine Z.iload_n dX1_areAllUnlike_11 2 rfl ?_
    refine Z.ishr dX1_areAllUnlike_12 ?_
    refine Z.iconst (v := 1) dX1_areAllUnlike_13 (by decide) ?_
    refine Z.iand dX1_areAllUnlike_14 ?_
    refine Z.if_eqH dX1_areAllUnlike_15 H (fun br15 H => ?_) (fun br15 H => ?_)
    · refine Z.sub [0, 1, 2] rfl ?_
      exact tX1_areAllUnlike_31 hb (x1) (x2) M hk2 H
    · refine Z.aload_n dX1_areAllUnlike_18 0 rfl ?_
      refine Z.get dX1_areAllUnlike_19 inX1 (hc := rfl) (cN hb) (c1 hb) 3 (by decide) kw64 rfl rfl ?_
      refine Z.iload_n dX1_areAllUnlike_22 2 rfl ?_
      refine Z.ialdH dX1_areAllUnlike_23 (a1_joinable hb) H (fun v1 H => ?_)
      refine Z.iload_n dX1_areAllUnlike_24 1 rfl ?_
      refine Z.iand dX1_areAllUnlike_25 ?_
      refine Z.if_eqH dX1_areAllUnlike_26 H (fun br26 H => ?_) (fun br26 H => ?_)
      · refine Z.sub [0, 1, 2] rfl ?_
        exact tX1_areAllUnlike_31 hb (x1) (x2) M hk2 H
      · refine Z.iconst (v := 0) dX1_areAllUnlike_29 (by decide) ?_
        exact Z.zret rfl rfl dX1_areAllUnlike_30 (retR H)
theorem tX1_areAllUnlike_2L {l : Launch} {E : Env5} {b : Nat} (hb : isNt b)  (M : Mem) {v9 : Int32}  : ∀ (n : Nat) (x1 : Int32) (x2 : Int32), fX1_areAllUnlike_2L  b M n x1 x2 = some v9 → Z l E RX1 cX1_areAllUnlike 3 (some .boolean) 0 2 [(0, .ref (eA E (b))), (1, .int (x1)), (2, .int (x2))] [] M (PR (some (.int v9)) M) := by
  intro n
  induction n with
  | zero => intro x1 x2 H; exact absurd H (by simp [fX1_areAllUnlike_2L])
  | succ n ih => intro x1 x2 H; exact tX1_areAllUnlike_2 hb x1 x2 M  (fun x1 x2 H => ih x1 x2 H) H
set_option maxRecDepth 100000 in
theorem tX1_areAllUnlike_0 {l : Launch} {E : Env5} {b : Nat} (hb : isNt b)  (x1 : Int32) (M : Mem) {v9 : Int32}  (H : fX1_areAllUnlike  b x1 M = some v9) : Z l E RX1 cX1_areAllUnlike 3 (some .boolean) 0 0 [(0, .ref (eA E (b))), (1, .int (x1))] [] M (PR (some (.int v9)) M) := by
  unfold fX1_areAllUnlike at H
  refine Z.iconst (v := 0) dX1_areAllUnlike_0 (by decide) ?_
  refine Z.istore_n (lv' := [(2, .int (0)), (0, .ref (eA E (b))), (1, .int (x1))]) dX1_areAllUnlike_1 (by decide) rfl ?_
  refine Z.sub [1, 2, 0] rfl ?_
  exact tX1_areAllUnlike_2L hb M  FU (x1) (0) H
theorem kX1_areAllUnlike {l : Launch} {E : Env5} {b : Nat} (hb : isNt b) (x1 : Int32) (M : Mem) {v9 : Int32} (H : fX1_areAllUnlike b x1 M = some v9) : Cn l E yX1_areAllUnlike cX1_areAllUnlike 3 (some .boolean) 0 [.ref (eA E (b)), .int (x1)] M (PR (some (.int v9)) M) := Cn.ofZ rfl (Nat.le_of_ble_eq_true rfl) rfl (tX1_areAllUnlike_0 hb x1 M H)
theorem hdX1_areAllUnlike : yX1_areAllUnlike.cls ≠ "java/lang/invoke/MethodHandle" ∧ yX1_areAllUnlike.cls ≠ "java/lang/invoke/VarHandle" ∧ (parseMethodDescriptor yX1_areAllUnlike.desc).map (fun d => d.parameters.length) = some 1 := by decide +kernel

set_option maxRecDepth 100000 in
theorem tJ6_bitCount_0f7a4_0 {l : Launch} {E : Env5}    (x0 : Int32) (M : Mem) {v9 : Int32}  (H : fJ6_bitCount_0f7a4  x0 = some v9) : Z l E RJ6 cJ6_bitCount_0f7a4 1 (some .int) 0 0 [(0, .int (x0))] [] M (PR (some (.int v9)) M) := by
  unfold fJ6_bitCount_0f7a4 at H
  refine Z.iload_n dJ6_bitCount_0f7a4_0 0 rfl ?_
  refine Z.iload_n dJ6_bitCount_0f7a4_1 0 rfl ?_
  refine Z.iconst (v := 1) dJ6_bitCount_0f7a4_2 (by decide) ?_
  refine Z.iushr dJ6_bitCount_0f7a4_3 ?_
  refine Z.ldcw (v := 1431655765) dJ6_bitCount_0f7a4_4 kw483 ?_
  refine Z.iand dJ6_bitCount_0f7a4_7 ?_
  refine Z.isub dJ6_bitCount_0f7a4_8 ?_
  refine Z.istore_n (lv' := [(0, .int (x0 - (((x0.toUInt32 >>> ((1 : Int32).toUInt32 &&& Int32.toUInt32 31)).toInt32) &&& 1431655765)))]) dJ6_bitCount_0f7a4_9 (by decide) rfl ?_
  refine Z.iload_n dJ6_bitCount_0f7a4_10 0 rfl ?_
  refine Z.ldcw (v := 858993459) dJ6_bitCount_0f7a4_11 kw484 ?_
  refine Z.iand dJ6_bitCount_0f7a4_14 ?_
  refine Z.iload_n dJ6_bitCount_0f7a4_15 0 rfl ?_
  refine Z.iconst (v := 2) dJ6_bitCount_0f7a4_16 (by decide) ?_
  refine Z.iushr dJ6_bitCount_0f7a4_17 ?_
  refine Z.ldcw (v := 858993459) dJ6_bitCount_0f7a4_18 kw484 ?_
  refine Z.iand dJ6_bitCount_0f7a4_21 ?_
  refine Z.iadd dJ6_bitCount_0f7a4_22 ?_
  refine Z.istore_n (lv' := [(0, .int (((x0 - (((x0.toUInt32 >>> ((1 : Int32).toUInt32 &&& Int32.toUInt32 31)).toInt32) &&& 1431655765)) &&& 858993459) + ((((x0 - (((x0.toUInt32 >>> ((1 : Int32).toUInt32 &&& Int32.toUInt32 31)).toInt32) &&& 1431655765)).toUInt32 >>> ((2 : Int32).toUInt32 &&& Int32.toUInt32 31)).toInt32) &&& 858993459)))]) dJ6_bitCount_0f7a4_23 (by decide) rfl ?_
  refine Z.iload_n dJ6_bitCount_0f7a4_24 0 rfl ?_
  refine Z.iload_n dJ6_bitCount_0f7a4_25 0 rfl ?_
  refine Z.iconst (v := 4) dJ6_bitCount_0f7a4_26 (by decide) ?_
  refine Z.iushr dJ6_bitCount_0f7a4_27 ?_
  refine Z.iadd dJ6_bitCount_0f7a4_28 ?_
  refine Z.ldcw (v := 252645135) dJ6_bitCount_0f7a4_29 kw485 ?_
  refine Z.iand dJ6_bitCount_0f7a4_32 ?_
  refine Z.istore_n (lv' := [(0, .int (((((x0 - (((x0.toUInt32 >>> ((1 : Int32).toUInt32 &&& Int32.toUInt32 31)).toInt32) &&& 1431655765)) &&& 858993459) + ((((x0 - (((x0.toUInt32 >>> ((1 : Int32).toUInt32 &&& Int32.toUInt32 31)).toInt32) &&& 1431655765)).toUInt32 >>> ((2 : Int32).toUInt32 &&& Int32.toUInt32 31)).toInt32) &&& 858993459)) + (((((x0 - (((x0.toUInt32 >>> ((1 : Int32).toUInt32 &&& Int32.toUInt32 31)).toInt32) &&& 1431655765)) &&& 858993459) + ((((x0 - (((x0.toUInt32 >>> ((1 : Int32).toUInt32 &&& Int32.toUInt32 31)).toInt32) &&& 1431655765)).toUInt32 >>> ((2 : Int32).toUInt32 &&& Int32.toUInt32 31)).toInt32) &&& 858993459)).toUInt32 >>> ((4 : Int32).toUInt32 &&& Int32.toUInt32 31)).toInt32)) &&& 252645135))]) dJ6_bitCount_0f7a4_33 (by decide) rfl ?_
  refine Z.iload_n dJ6_bitCount_0f7a4_34 0 rfl ?_
  refine Z.iload_n dJ6_bitCount_0f7a4_35 0 rfl ?_
  refine Z.bipush (v := 8) dJ6_bitCount_0f7a4_36 (by decide) ?_
  refine Z.iushr dJ6_bitCount_0f7a4_38 ?_
  refine Z.iadd dJ6_bitCount_0f7a4_39 ?_
  refine Z.istore_n (lv' := [(0, .int ((((((x0 - (((x0.toUInt32 >>> ((1 : Int32).toUInt32 &&& Int32.toUInt32 31)).toInt32) &&& 1431655765)) &&& 858993459) + ((((x0 - (((x0.toUInt32 >>> ((1 : Int32).toUInt32 &&& Int32.toUInt32 31)).toInt32) &&& 1431655765)).toUInt32 >>> ((2 : Int32).toUInt32 &&& Int32.toUInt32 31)).toInt32) &&& 858993459)) + (((((x0 - (((x0.toUInt32 >>> ((1 : Int32).toUInt32 &&& Int32.toUInt32 31)).toInt32) &&& 1431655765)) &&& 858993459) + ((((x0 - (((x0.toUInt32 >>> ((1 : Int32).toUInt32 &&& Int32.toUInt32 31)).toInt32) &&& 1431655765)).toUInt32 >>> ((2 : Int32).toUInt32 &&& Int32.toUInt32 31)).toInt32) &&& 858993459)).toUInt32 >>> ((4 : Int32).toUInt32 &&& Int32.toUInt32 31)).toInt32)) &&& 252645135) + (((((((x0 - (((x0.toUInt32 >>> ((1 : Int32).toUInt32 &&& Int32.toUInt32 31)).toInt32) &&& 1431655765)) &&& 858993459) + ((((x0 - (((x0.toUInt32 >>> ((1 : Int32).toUInt32 &&& Int32.toUInt32 31)).toInt32) &&& 1431655765)).toUInt32 >>> ((2 : Int32).toUInt32 &&& Int32.toUInt32 31)).toInt32) &&& 858993459)) + (((((x0 - (((x0.toUInt32 >>> ((1 : Int32).toUInt32 &&& Int32.toUInt32 31)).toInt32) &&& 1431655765)) &&& 858993459) + ((((x0 - (((x0.toUInt32 >>> ((1 : Int32).toUInt32 &&& Int32.toUInt32 31)).toInt32) &&& 1431655765)).toUInt32 >>> ((2 : Int32).toUInt32 &&& Int32.toUInt32 31)).toInt32) &&& 858993459)).toUInt32 >>> ((4 : Int32).toUInt32 &&& Int32.toUInt32 31)).toInt32)) &&& 252645135).toUInt32 >>> ((8 : Int32).toUInt32 &&& Int32.toUInt32 31)).toInt32)))]) dJ6_bitCount_0f7a4_40 (by decide) rfl ?_
  refine Z.iload_n dJ6_bitCount_0f7a4_41 0 rfl ?_
  refine Z.iload_n dJ6_bitCount_0f7a4_42 0 rfl ?_
  refine Z.bipush (v := 16) dJ6_bitCount_0f7a4_43 (by decide) ?_
  refine Z.iushr dJ6_bitCount_0f7a4_45 ?_
  refine Z.iadd dJ6_bitCount_0f7a4_46 ?_
  refine Z.istore_n (lv' := [(0, .int (((((((x0 - (((x0.toUInt32 >>> ((1 : Int32).toUInt32 &&& Int32.toUInt32 31)).toInt32) &&& 1431655765)) &&& 858993459) + ((((x0 - (((x0.toUInt32 >>> ((1 : Int32).toUInt32 &&& Int32.toUInt32 31)).toInt32) &&& 1431655765)).toUInt32 >>> ((2 : Int32).toUInt32 &&& Int32.toUInt32 31)).toInt32) &&& 858993459)) + (((((x0 - (((x0.toUInt32 >>> ((1 : Int32).toUInt32 &&& Int32.toUInt32 31)).toInt32) &&& 1431655765)) &&& 858993459) + ((((x0 - (((x0.toUInt32 >>> ((1 : Int32).toUInt32 &&& Int32.toUInt32 31)).toInt32) &&& 1431655765)).toUInt32 >>> ((2 : Int32).toUInt32 &&& Int32.toUInt32 31)).toInt32) &&& 858993459)).toUInt32 >>> ((4 : Int32).toUInt32 &&& Int32.toUInt32 31)).toInt32)) &&& 252645135) + (((((((x0 - (((x0.toUInt32 >>> ((1 : Int32).toUInt32 &&& Int32.toUInt32 31)).toInt32) &&& 1431655765)) &&& 858993459) + ((((x0 - (((x0.toUInt32 >>> ((1 : Int32).toUInt32 &&& Int32.toUInt32 31)).toInt32) &&& 1431655765)).toUInt32 >>> ((2 : Int32).toUInt32 &&& Int32.toUInt32 31)).toInt32) &&& 858993459)) + (((((x0 - (((x0.toUInt32 >>> ((1 : Int32).toUInt32 &&& Int32.toUInt32 31)).toInt32) &&& 1431655765)) &&& 858993459) + ((((x0 - (((x0.toUInt32 >>> ((1 : Int32).toUInt32 &&& Int32.toUInt32 31)).toInt32) &&& 1431655765)).toUInt32 >>> ((2 : Int32).toUInt32 &&& Int32.toUInt32 31)).toInt32) &&& 858993459)).toUInt32 >>> ((4 : Int32).toUInt32 &&& Int32.toUInt32 31)).toInt32)) &&& 252645135).toUInt32 >>> ((8 : Int32).toUInt32 &&& Int32.toUInt32 31)).toInt32)) + ((((((((x0 - (((x0.toUInt32 >>> ((1 : Int32).toUInt32 &&& Int32.toUInt32 31)).toInt32) &&& 1431655765)) &&& 858993459) + ((((x0 - (((x0.toUInt32 >>> ((1 : Int32).toUInt32 &&& Int32.toUInt32 31)).toInt32) &&& 1431655765)).toUInt32 >>> ((2 : Int32).toUInt32 &&& Int32.toUInt32 31)).toInt32) &&& 858993459)) + (((((x0 - (((x0.toUInt32 >>> ((1 : Int32).toUInt32 &&& Int32.toUInt32 31)).toInt32) &&& 1431655765)) &&& 858993459) + ((((x0 - (((x0.toUInt32 >>> ((1 : Int32).toUInt32 &&& Int32.toUInt32 31)).toInt32) &&& 1431655765)).toUInt32 >>> ((2 : Int32).toUInt32 &&& Int32.toUInt32 31)).toInt32) &&& 858993459)).toUInt32 >>> ((4 : Int32).toUInt32 &&& Int32.toUInt32 31)).toInt32)) &&& 252645135) + (((((((x0 - (((x0.toUInt32 >>> ((1 : Int32).toUInt32 &&& Int32.toUInt32 31)).toInt32) &&& 1431655765)) &&& 858993459) + ((((x0 - (((x0.toUInt32 >>> ((1 : Int32).toUInt32 &&& Int32.toUInt32 31)).toInt32) &&& 1431655765)).toUInt32 >>> ((2 : Int32).toUInt32 &&& Int32.toUInt32 31)).toInt32) &&& 858993459)) + (((((x0 - (((x0.toUInt32 >>> ((1 : Int32).toUInt32 &&& Int32.toUInt32 31)).toInt32) &&& 1431655765)) &&& 858993459) + ((((x0 - (((x0.toUInt32 >>> ((1 : Int32).toUInt32 &&& Int32.toUInt32 31)).toInt32) &&& 1431655765)).toUInt32 >>> ((2 : Int32).toUInt32 &&& Int32.toUInt32 31)).toInt32) &&& 858993459)).toUInt32 >>> ((4 : Int32).toUInt32 &&& Int32.toUInt32 31)).toInt32)) &&& 252645135).toUInt32 >>> ((8 : Int32).toUInt32 &&& Int32.toUInt32 31)).toInt32)).toUInt32 >>> ((16 : Int32).toUInt32 &&& Int32.toUInt32 31)).toInt32)))]) dJ6_bitCount_0f7a4_47 (by decide) rfl ?_
  refine Z.iload_n dJ6_bitCount_0f7a4_48 0 rfl ?_
  refine Z.bipush (v := 63) dJ6_bitCount_0f7a4_49 (by decide) ?_
  refine Z.iand dJ6_bitCount_0f7a4_51 ?_
  exact Z.iret rfl dJ6_bitCount_0f7a4_52 (retR H)
theorem kJ6_bitCount_0f7a4 {l : Launch} {E : Env5}   (x0 : Int32) (M : Mem) {v9 : Int32} (H : fJ6_bitCount_0f7a4 x0 = some v9) : Cn l E yJ6_bitCount_0f7a4 cJ6_bitCount_0f7a4 1 (some .int) 0 [.int (x0)] M (PR (some (.int v9)) M) := Cn.ofZ rfl (Nat.le_of_ble_eq_true rfl) rfl (tJ6_bitCount_0f7a4_0  x0 M H)
theorem hdJ6_bitCount_0f7a4 : yJ6_bitCount_0f7a4.cls ≠ "java/lang/invoke/MethodHandle" ∧ yJ6_bitCount_0f7a4.cls ≠ "java/lang/invoke/VarHandle" ∧ (parseMethodDescriptor yJ6_bitCount_0f7a4.desc).map (fun d => d.parameters.length) = some 1 := by decide +kernel

set_option maxRecDepth 100000 in
theorem tX1_fewestPeople_39 {l : Launch} {E : Env5} {b : Nat} (hb : isNt b) {k8 : Int32 → Int32 → Mem → Option (Int32 × Mem)} (x1 : Int32) (x2 : Int32) (M : Mem) {v9 : Int32} {M9 : Mem} (hk8 : ∀ (x1 : Int32) (x2 : Int32) (M : Mem), k8 x1 x2 M = some (v9, M9) → Z l E RX1 cX1_fewestPeople 3 (some .int) 3 8 [(0, .ref (eA E (b))), (1, .int (x1)), (2, .int (x2))] [] M (PR (some (.int v9)) M9)) (H : fX1_fewestPeople_39 k8 b x1 x2 M = some (v9, M9)) : Z l E RX1 cX1_fewestPeople 3 (some .int) 3 39 [(0, .ref (eA E (b))), (1, .int (x1)), (2, .int (x2))] [] M (PR (some (.int v9)) M9) := by
  unfold fX1_fewestPeople_39 at H
  refine Z.iinc (v := x2 + 1) (lv' := [(2, .int (x2 + 1)), (0, .ref (eA E (b))), (1, .int (x1))]) dX1_fewestPeople_39 2 rfl rfl (by decide) rfl ?_
  refine Z.goto dX1_fewestPeople_42 ?_
  refine Z.sub [1, 2, 0] rfl ?_
  exact hk8 (x1) (x2 + 1) M  H
set_option maxRecDepth 100000 in
theorem tX1_fewestPeople_8 {l : Launch} {E : Env5} {b : Nat} (hb : isNt b) {k8 : Int32 → Int32 → Mem → Option (Int32 × Mem)} (x1 : Int32) (x2 : Int32) (M : Mem) {v9 : Int32} {M9 : Mem} (hk8 : ∀ (x1 : Int32) (x2 : Int32) (M : Mem), k8 x1 x2 M = some (v9, M9) → Z l E RX1 cX1_fewestPeople 3 (some .int) 3 8 [(0, .ref (eA E (b))), (1, .int (x1)), (2, .int (x2))] [] M (PR (some (.int v9)) M9)) (H : fX1_fewestPeople_8B k8 b x1 x2 M = some (v9, M9)) : Z l E RX1 cX1_fewestPeople 3 (some .int) 3 8 [(0, .ref (eA E (b))), (1, .int (x1)), (2, .int (x2))] [] M (PR (some (.int v9)) M9) := by
  unfold fX1_fewestPeople_8B at H
  refine Z.iload_n dX1_fewestPeople_8 2 rfl ?_
  refine Z.iconst (v := 1) dX1_fewestPeople_9 (by decide) ?_
  refine Z.aload_n dX1_fewestPeople_10 0 rfl ?_
  refine Z.get dX1_fewestPeople_11 inX1 (hc := rfl) (cN hb) (c1 hb) 5 (by decide) kw68 rfl rfl ?_
  refine Z.ishl dX1_fewestPeople_14 ?_
  refine Z.icmp_geH dX1_fewestPeople_15 H (fun br15 H => ?_) (fun br15 H => ?_)
  · refine Z.iload_n dX1_fewestPeople_45 1 rfl ?_
    exact Z.iret rfl dX1_fewestPeople_46 (retW H)
  · refine Z.iload_n dX1_fewestPeople_18 2 rfl ?_
    refine bindC H (fun v1 hv1 H => ?_)
    refine Z.callS (As := [.int (x2)]) (rest := []) (st' := [.int (v1)]) dX1_fewestPeople_19 (kJ6_bitCount_0f7a4  (x2) M hv1) kw480 kw481 kw10 kw482 hdJ6_bitCount_0f7a4 (by decide) (by decide) rfl rfl (Nat.le_of_ble_eq_true rfl) rfl ?_
    refine Z.iload_n dX1_fewestPeople_22 1 rfl ?_
    refine Z.icmp_leH dX1_fewestPeople_23 H (fun br23 H => ?_) (fun br23 H => ?_)
    · refine Z.sub [0, 1, 2] rfl ?_
      exact tX1_fewestPeople_39 hb (x1) (x2) M hk8 H
    · refine Z.aload_n dX1_fewestPeople_26 0 rfl ?_
      refine Z.iload_n dX1_fewestPeople_27 2 rfl ?_
      refine bindC H (fun v2 hv2 H => ?_)
      refine Z.callV (As := [.int (x2)]) (rest := []) (st' := [.int (v2)]) dX1_fewestPeople_28 (kX1_areAllUnlike hb (x2) M hv2) kw486 kw488 ks17 kw3 kw489 hdX1_areAllUnlike (cN hb) (c1 hb) (hc := rfl) (by decide) (by decide) rfl rfl (Nat.le_of_ble_eq_true rfl) rfl ?_
      refine Z.if_eqH dX1_fewestPeople_31 H (fun br31 H => ?_) (fun br31 H => ?_)
      · refine Z.sub [0, 1, 2] rfl ?_
        exact tX1_fewestPeople_39 hb (x1) (x2) M hk8 H
      · refine Z.iload_n dX1_fewestPeople_34 2 rfl ?_
        refine bindC H (fun v3 hv3 H => ?_)
        refine Z.callS (As := [.int (x2)]) (rest := []) (st' := [.int (v3)]) dX1_fewestPeople_35 (kJ6_bitCount_0f7a4  (x2) M hv3) kw480 kw481 kw10 kw482 hdJ6_bitCount_0f7a4 (by decide) (by decide) rfl rfl (Nat.le_of_ble_eq_true rfl) rfl ?_
        refine Z.istore_n (lv' := [(1, .int (v3)), (0, .ref (eA E (b))), (2, .int (x2))]) dX1_fewestPeople_38 (by decide) rfl ?_
        refine Z.sub [1, 0, 2] rfl ?_
        exact tX1_fewestPeople_39 hb (v3) (x2) M hk8 H
theorem tX1_fewestPeople_8L {l : Launch} {E : Env5} {b : Nat} (hb : isNt b)   {v9 : Int32} {M9 : Mem}  : ∀ (n : Nat) (x1 : Int32) (x2 : Int32) (M : Mem), fX1_fewestPeople_8L  b n x1 x2 M = some (v9, M9) → Z l E RX1 cX1_fewestPeople 3 (some .int) 3 8 [(0, .ref (eA E (b))), (1, .int (x1)), (2, .int (x2))] [] M (PR (some (.int v9)) M9) := by
  intro n
  induction n with
  | zero => intro x1 x2 M H; exact absurd H (by simp [fX1_fewestPeople_8L])
  | succ n ih => intro x1 x2 M H; exact tX1_fewestPeople_8 hb x1 x2 M  (fun x1 x2 M H => ih x1 x2 M H) H
set_option maxRecDepth 100000 in
theorem tX1_fewestPeople_0 {l : Launch} {E : Env5} {b : Nat} (hb : isNt b)   (M : Mem) {v9 : Int32} {M9 : Mem}  (H : fX1_fewestPeople  b M = some (v9, M9)) : Z l E RX1 cX1_fewestPeople 3 (some .int) 3 0 [(0, .ref (eA E (b)))] [] M (PR (some (.int v9)) M9) := by
  unfold fX1_fewestPeople at H
  refine Z.aload_n dX1_fewestPeople_0 0 rfl ?_
  refine bindC H (fun v1 hv1 H => ?_)
  refine Z.callV (As := []) (rest := []) (st' := []) dX1_fewestPeople_1 (kX1_findJoinable hb  M hv1) kw467 kw469 ks14 kw3 kw470 hdX1_findJoinable (cN hb) (c1 hb) (hc := rfl) (by decide) (by decide) rfl rfl (Nat.le_of_ble_eq_true rfl) rfl ?_
  refine Z.iconst (v := 0) dX1_fewestPeople_4 (by decide) ?_
  refine Z.istore_n (lv' := [(1, .int (0)), (0, .ref (eA E (b)))]) dX1_fewestPeople_5 (by decide) rfl ?_
  refine Z.iconst (v := 0) dX1_fewestPeople_6 (by decide) ?_
  refine Z.istore_n (lv' := [(2, .int (0)), (1, .int (0)), (0, .ref (eA E (b)))]) dX1_fewestPeople_7 (by decide) rfl ?_
  refine Z.sub [2, 1, 0] rfl ?_
  exact tX1_fewestPeople_8L hb  FU (0) (0) v1 H
theorem kX1_fewestPeople {l : Launch} {E : Env5} {b : Nat} (hb : isNt b)  (M : Mem) {v9 : Int32} {M9 : Mem} (H : fX1_fewestPeople b M = some (v9, M9)) : Cn l E yX1_fewestPeople cX1_fewestPeople 3 (some .int) 3 [.ref (eA E (b))] M (PR (some (.int v9)) M9) := Cn.ofZ rfl (Nat.le_of_ble_eq_true rfl) rfl (tX1_fewestPeople_0 hb  M H)
theorem hdX1_fewestPeople : yX1_fewestPeople.cls ≠ "java/lang/invoke/MethodHandle" ∧ yX1_fewestPeople.cls ≠ "java/lang/invoke/VarHandle" ∧ (parseMethodDescriptor yX1_fewestPeople.desc).map (fun d => d.parameters.length) = some 0 := by decide +kernel

set_option maxRecDepth 100000 in
theorem tX2_beginAnew_2 {l : Launch} {E : Env5} {b : Nat} (hb : isSc b) {k2 : Int32 → Mem → Option Mem} (x1 : Int32) (M : Mem) {M9 : Mem} (hk2 : ∀ (x1 : Int32) (M : Mem), k2 x1 M = some M9 → Z l E RX2 cX2_beginAnew 2 none 0 2 [(0, .ref (eA E (b))), (1, .int (x1))] [] M (PR none M9)) (H : fX2_beginAnew_2B k2 b x1 M = some M9) : Z l E RX2 cX2_beginAnew 2 none 0 2 [(0, .ref (eA E (b))), (1, .int (x1))] [] M (PR none M9) := by
  unfold fX2_beginAnew_2B at H
  refine Z.iload_n dX2_beginAnew_2 1 rfl ?_
  refine Z.sipush (v := 144) dX2_beginAnew_3 (by decide) ?_
  refine Z.icmp_geH dX2_beginAnew_6 H (fun br6 H => ?_) (fun br6 H => ?_)
  · refine Z.aload_n dX2_beginAnew_22 0 rfl ?_
    refine Z.bipush (v := 8) dX2_beginAnew_23 (by decide) ?_
    refine wE H (fun M1 eM1 H => ?_)
    refine Z.put (ty := .int) (M' := M1) dX2_beginAnew_25 inX2 tyX2_ok nmX2 (hc := rfl) (cS hb) (c2 hb) 3 (by decide) kw118 rfl rfl (by decide +kernel) rfl rfl (Nat.le_of_ble_eq_true rfl) (by rw [← eM1, (c2 hb), sI_k]; exact congrArg (fun q => Sum.inr (2, q)) u2_wide) (by rw [← eM1]; exact sI_o) (by rw [← eM1]; exact (fun q => q)) ?_
    refine Z.aload_n dX2_beginAnew_28 0 rfl ?_
    refine Z.bipush (v := 8) dX2_beginAnew_29 (by decide) ?_
    refine wE H (fun M2 eM2 H => ?_)
    refine Z.put (ty := .int) (M' := M2) dX2_beginAnew_31 inX2 tyX2_ok nmX2 (hc := rfl) (cS hb) (c2 hb) 4 (by decide) kw121 rfl rfl (by decide +kernel) rfl rfl (Nat.le_of_ble_eq_true rfl) (by rw [← eM2, (c2 hb), sI_k]; exact congrArg (fun q => Sum.inr (2, q)) u2_high) (by rw [← eM2]; exact sI_o) (by rw [← eM2]; exact (fun q => q)) ?_
    refine Z.aload_n dX2_beginAnew_34 0 rfl ?_
    refine Z.iconst (v := 0) dX2_beginAnew_35 (by decide) ?_
    refine wE H (fun M3 eM3 H => ?_)
    refine Z.put (ty := .int) (M' := M3) dX2_beginAnew_36 inX2 tyX2_ok nmX2 (hc := rfl) (cS hb) (c2 hb) 5 (by decide) kw124 rfl rfl (by decide +kernel) rfl rfl (Nat.le_of_ble_eq_true rfl) (by rw [← eM3, (c2 hb), sI_k]; exact congrArg (fun q => Sum.inr (2, q)) u2_wallCount) (by rw [← eM3]; exact sI_o) (by rw [← eM3]; exact (fun q => q)) ?_
    refine Z.aload_n dX2_beginAnew_39 0 rfl ?_
    refine Z.iconst (v := 0) dX2_beginAnew_40 (by decide) ?_
    refine wE H (fun M4 eM4 H => ?_)
    refine Z.put (ty := .int) (M' := M4) dX2_beginAnew_41 inX2 tyX2_ok nmX2 (hc := rfl) (cS hb) (c2 hb) 6 (by decide) kw126 rfl rfl (by decide +kernel) rfl rfl (Nat.le_of_ble_eq_true rfl) (by rw [← eM4, (c2 hb), sI_k]; exact congrArg (fun q => Sum.inr (2, q)) u2_personCount) (by rw [← eM4]; exact sI_o) (by rw [← eM4]; exact (fun q => q)) ?_
    refine Z.aload_n dX2_beginAnew_44 0 rfl ?_
    refine Z.iconst (v := 0) dX2_beginAnew_45 (by decide) ?_
    refine wE H (fun M5 eM5 H => ?_)
    refine Z.put (ty := .int) (M' := M5) dX2_beginAnew_46 inX2 tyX2_ok nmX2 (hc := rfl) (cS hb) (c2 hb) 7 (by decide) kw128 rfl rfl (by decide +kernel) rfl rfl (Nat.le_of_ble_eq_true rfl) (by rw [← eM5, (c2 hb), sI_k]; exact congrArg (fun q => Sum.inr (2, q)) u2_pictureCount) (by rw [← eM5]; exact sI_o) (by rw [← eM5]; exact (fun q => q)) ?_
    refine Z.aload_n dX2_beginAnew_49 0 rfl ?_
    refine Z.bipush (v := (-9)) dX2_beginAnew_50 (by decide) ?_
    refine wE H (fun M6 eM6 H => ?_)
    refine Z.put (ty := .int) (M' := M6) dX2_beginAnew_52 inX2 tyX2_ok nmX2 (hc := rfl) (cS hb) (c2 hb) 10 (by decide) kw132 rfl rfl (by decide +kernel) rfl rfl (Nat.le_of_ble_eq_true rfl) (by rw [← eM6, (c2 hb), sI_k]; exact congrArg (fun q => Sum.inr (2, q)) u2_standing) (by rw [← eM6]; exact sI_o) (by rw [← eM6]; exact (fun q => q)) ?_
    exact Z.vret rfl dX2_beginAnew_55 (retV H)
  · refine Z.aload_n dX2_beginAnew_9 0 rfl ?_
    refine Z.get dX2_beginAnew_10 inX2 (hc := rfl) (cS hb) (c2 hb) 0 (by decide) kw115 rfl rfl ?_
    refine Z.iload_n dX2_beginAnew_13 1 rfl ?_
    refine Z.iconst (v := 0) dX2_beginAnew_14 (by decide) ?_
    refine Z.zastH dX2_beginAnew_15 (a2_walls hb) H (fun M7 H => ?_)
    refine Z.iinc (v := x1 + 1) (lv' := [(1, .int (x1 + 1)), (0, .ref (eA E (b)))]) dX2_beginAnew_16 1 rfl rfl (by decide) rfl ?_
    refine Z.goto dX2_beginAnew_19 ?_
    refine Z.sub [1, 0] rfl ?_
    exact hk2 (x1 + 1) M7  H
theorem tX2_beginAnew_2L {l : Launch} {E : Env5} {b : Nat} (hb : isSc b)   {M9 : Mem}  : ∀ (n : Nat) (x1 : Int32) (M : Mem), fX2_beginAnew_2L  b n x1 M = some M9 → Z l E RX2 cX2_beginAnew 2 none 0 2 [(0, .ref (eA E (b))), (1, .int (x1))] [] M (PR none M9) := by
  intro n
  induction n with
  | zero => intro x1 M H; exact absurd H (by simp [fX2_beginAnew_2L])
  | succ n ih => intro x1 M H; exact tX2_beginAnew_2 hb x1 M  (fun x1 M H => ih x1 M H) H
set_option maxRecDepth 100000 in
theorem tX2_beginAnew_0 {l : Launch} {E : Env5} {b : Nat} (hb : isSc b)   (M : Mem) {M9 : Mem}  (H : fX2_beginAnew  b M = some M9) : Z l E RX2 cX2_beginAnew 2 none 0 0 [(0, .ref (eA E (b)))] [] M (PR none M9) := by
  unfold fX2_beginAnew at H
  refine Z.iconst (v := 0) dX2_beginAnew_0 (by decide) ?_
  refine Z.istore_n (lv' := [(1, .int (0)), (0, .ref (eA E (b)))]) dX2_beginAnew_1 (by decide) rfl ?_
  refine Z.sub [1, 0] rfl ?_
  exact tX2_beginAnew_2L hb  FU (0) M H
theorem kX2_beginAnew {l : Launch} {E : Env5} {b : Nat} (hb : isSc b)  (M : Mem) {M9 : Mem} (H : fX2_beginAnew b M = some M9) : Cn l E yX2_beginAnew cX2_beginAnew 2 none 0 [.ref (eA E (b))] M (PR none M9) := Cn.ofZ rfl (Nat.le_of_ble_eq_true rfl) rfl (tX2_beginAnew_0 hb  M H)
theorem hdX2_beginAnew : yX2_beginAnew.cls ≠ "java/lang/invoke/MethodHandle" ∧ yX2_beginAnew.cls ≠ "java/lang/invoke/VarHandle" ∧ (parseMethodDescriptor yX2_beginAnew.desc).map (fun d => d.parameters.length) = some 0 := by decide +kernel

set_option maxRecDepth 100000 in
theorem tX2_hasRoomFor_28 {l : Launch} {E : Env5} {b : Nat} (hb : isSc b)   (M : Mem) {v9 : Int32}  (H : fX2_hasRoomFor_28  b M = some v9) : Z l E RX2 cX2_hasRoomFor 2 (some .boolean) 0 28 [] [] M (PR (some (.int v9)) M) := by
  unfold fX2_hasRoomFor_28 at H
  refine Z.iconst (v := 1) dX2_hasRoomFor_28 (by decide) ?_
  refine Z.goto dX2_hasRoomFor_29 ?_
  exact Z.zret rfl rfl dX2_hasRoomFor_33 (retR H)
set_option maxRecDepth 100000 in
theorem tX2_hasRoomFor_14 {l : Launch} {E : Env5} {b : Nat} (hb : isSc b)  (x1 : Int32) (M : Mem) {v9 : Int32}  (H : fX2_hasRoomFor_14  b x1 M = some v9) : Z l E RX2 cX2_hasRoomFor 2 (some .boolean) 0 14 [(0, .ref (eA E (b))), (1, .int (x1))] [] M (PR (some (.int v9)) M) := by
  unfold fX2_hasRoomFor_14 at H
  refine Z.iload_n dX2_hasRoomFor_14 1 rfl ?_
  refine Z.iconst (v := 3) dX2_hasRoomFor_15 (by decide) ?_
  refine Z.icmp_neH dX2_hasRoomFor_16 H (fun br16 H => ?_) (fun br16 H => ?_)
  · refine Z.sub [] rfl ?_
    exact tX2_hasRoomFor_28 hb  M  H
  · refine Z.aload_n dX2_hasRoomFor_19 0 rfl ?_
    refine Z.get dX2_hasRoomFor_20 inX2 (hc := rfl) (cS hb) (c2 hb) 7 (by decide) kw128 rfl rfl ?_
    refine Z.bipush (v := 10) dX2_hasRoomFor_23 (by decide) ?_
    refine Z.icmp_geH dX2_hasRoomFor_25 H (fun br25 H => ?_) (fun br25 H => ?_)
    · refine Z.iconst (v := 0) dX2_hasRoomFor_32 (by decide) ?_
      exact Z.zret rfl rfl dX2_hasRoomFor_33 (retR H)
    · refine Z.sub [] rfl ?_
      exact tX2_hasRoomFor_28 hb  M  H
set_option maxRecDepth 100000 in
theorem tX2_hasRoomFor_0 {l : Launch} {E : Env5} {b : Nat} (hb : isSc b)  (x1 : Int32) (M : Mem) {v9 : Int32}  (H : fX2_hasRoomFor  b x1 M = some v9) : Z l E RX2 cX2_hasRoomFor 2 (some .boolean) 0 0 [(0, .ref (eA E (b))), (1, .int (x1))] [] M (PR (some (.int v9)) M) := by
  unfold fX2_hasRoomFor at H
  refine Z.iload_n dX2_hasRoomFor_0 1 rfl ?_
  refine Z.iconst (v := 2) dX2_hasRoomFor_1 (by decide) ?_
  refine Z.icmp_neH dX2_hasRoomFor_2 H (fun br2 H => ?_) (fun br2 H => ?_)
  · refine Z.sub [0, 1] rfl ?_
    exact tX2_hasRoomFor_14 hb (x1) M  H
  · refine Z.aload_n dX2_hasRoomFor_5 0 rfl ?_
    refine Z.get dX2_hasRoomFor_6 inX2 (hc := rfl) (cS hb) (c2 hb) 6 (by decide) kw126 rfl rfl ?_
    refine Z.bipush (v := 8) dX2_hasRoomFor_9 (by decide) ?_
    refine Z.icmp_geH dX2_hasRoomFor_11 H (fun br11 H => ?_) (fun br11 H => ?_)
    · refine Z.iconst (v := 0) dX2_hasRoomFor_32 (by decide) ?_
      exact Z.zret rfl rfl dX2_hasRoomFor_33 (retR H)
    · refine Z.sub [0, 1] rfl ?_
      exact tX2_hasRoomFor_14 hb (x1) M  H
theorem kX2_hasRoomFor {l : Launch} {E : Env5} {b : Nat} (hb : isSc b) (x1 : Int32) (M : Mem) {v9 : Int32} (H : fX2_hasRoomFor b x1 M = some v9) : Cn l E yX2_hasRoomFor cX2_hasRoomFor 2 (some .boolean) 0 [.ref (eA E (b)), .int (x1)] M (PR (some (.int v9)) M) := Cn.ofZ rfl (Nat.le_of_ble_eq_true rfl) rfl (tX2_hasRoomFor_0 hb x1 M H)
theorem hdX2_hasRoomFor : yX2_hasRoomFor.cls ≠ "java/lang/invoke/MethodHandle" ∧ yX2_hasRoomFor.cls ≠ "java/lang/invoke/VarHandle" ∧ (parseMethodDescriptor yX2_hasRoomFor.desc).map (fun d => d.parameters.length) = some 1 := by decide +kernel

set_option maxRecDepth 100000 in
theorem tX2_isCell_0 {l : Launch} {E : Env5} {b : Nat} (hb : isSc b)  (x1 : Int32) (x2 : Int32) (M : Mem) {v9 : Int32}  (H : fX2_isCell  b x1 x2 M = some v9) : Z l E RX2 cX2_isCell 3 (some .boolean) 0 0 [(0, .ref (eA E (b))), (1, .int (x1)), (2, .int (x2))] [] M (PR (some (.int v9)) M) := by
  unfold fX2_isCell at H
  refine Z.iload_n dX2_isCell_0 1 rfl ?_
  refine Z.if_ltH dX2_isCell_1 H (fun br1 H => ?_) (fun br1 H => ?_)
  · refine Z.iconst (v := 0) dX2_isCell_28 (by decide) ?_
    exact Z.zret rfl rfl dX2_isCell_29 (retR H)
  · refine Z.iload_n dX2_isCell_4 1 rfl ?_
    refine Z.aload_n dX2_isCell_5 0 rfl ?_
    refine Z.get dX2_isCell_6 inX2 (hc := rfl) (cS hb) (c2 hb) 3 (by decide) kw118 rfl rfl ?_
    refine Z.icmp_geH dX2_isCell_9 H (fun br9 H => ?_) (fun br9 H => ?_)
    · refine Z.iconst (v := 0) dX2_isCell_28 (by decide) ?_
      exact Z.zret rfl rfl dX2_isCell_29 (retR H)
    · refine Z.iload_n dX2_isCell_12 2 rfl ?_
      refine Z.if_ltH dX2_isCell_13 H (fun br13 H => ?_) (fun br13 H => ?_)
      · refine Z.iconst (v := 0) dX2_isCell_28 (by decide) ?_
        exact Z.zret rfl rfl dX2_isCell_29 (retR H)
      · refine Z.iload_n dX2_isCell_16 2 rfl ?_
        refine Z.aload_n dX2_isCell_17 0 rfl ?_
        refine Z.get dX2_isCell_18 inX2 (hc := rfl) (cS hb) (c2 hb) 4 (by decide) kw121 rfl rfl ?_
        refine Z.icmp_geH dX2_isCell_21 H (fun br21 H => ?_) (fun br21 H => ?_)
        · refine Z.iconst (v := 0) dX2_isCell_28 (by decide) ?_
          exact Z.zret rfl rfl dX2_isCell_29 (retR H)
        · refine Z.iconst (v := 1) dX2_isCell_24 (by decide) ?_
          refine Z.goto dX2_isCell_25 ?_
          exact Z.zret rfl rfl dX2_isCell_29 (retR H)
theorem kX2_isCell {l : Launch} {E : Env5} {b : Nat} (hb : isSc b) (x1 : Int32) (x2 : Int32) (M : Mem) {v9 : Int32} (H : fX2_isCell b x1 x2 M = some v9) : Cn l E yX2_isCell cX2_isCell 3 (some .boolean) 0 [.ref (eA E (b)), .int (x1), .int (x2)] M (PR (some (.int v9)) M) := Cn.ofZ rfl (Nat.le_of_ble_eq_true rfl) rfl (tX2_isCell_0 hb x1 x2 M H)
theorem hdX2_isCell : yX2_isCell.cls ≠ "java/lang/invoke/MethodHandle" ∧ yX2_isCell.cls ≠ "java/lang/invoke/VarHandle" ∧ (parseMethodDescriptor yX2_isCell.desc).map (fun d => d.parameters.length) = some 2 := by decide +kernel

set_option maxRecDepth 100000 in
theorem tX2_addWall_0 {l : Launch} {E : Env5} {b : Nat} (hb : isSc b)  (x1 : Int32) (x2 : Int32) (M : Mem) {M9 : Mem}  (H : fX2_addWall  b x1 x2 M = some M9) : Z l E RX2 cX2_addWall 3 none 1 0 [(0, .ref (eA E (b))), (1, .int (x1)), (2, .int (x2))] [] M (PR none M9) := by
  unfold fX2_addWall at H
  refine Z.aload_n dX2_addWall_0 0 rfl ?_
  refine Z.iload_n dX2_addWall_1 1 rfl ?_
  refine Z.iload_n dX2_addWall_2 2 rfl ?_
  refine bindC H (fun v1 hv1 H => ?_)
  refine Z.callV (As := [.int (x1), .int (x2)]) (rest := []) (st' := [.int (v1)]) dX2_addWall_3 (kX2_isCell hb (x1) (x2) M hv1) kw266 kw267 kw268 kw6 kw269 hdX2_isCell (cS hb) (c2 hb) (hc := rfl) (by decide) (by decide) rfl rfl (Nat.le_of_ble_eq_true rfl) rfl ?_
  refine Z.if_eqH dX2_addWall_6 H (fun br6 H => ?_) (fun br6 H => ?_)
  · exact Z.vret rfl dX2_addWall_49 (retV H)
  · refine Z.aload_n dX2_addWall_9 0 rfl ?_
    refine Z.get dX2_addWall_10 inX2 (hc := rfl) (cS hb) (c2 hb) 0 (by decide) kw115 rfl rfl ?_
    refine Z.aload_n dX2_addWall_13 0 rfl ?_
    refine Z.get dX2_addWall_14 inX2 (hc := rfl) (cS hb) (c2 hb) 3 (by decide) kw118 rfl rfl ?_
    refine Z.iload_n dX2_addWall_17 2 rfl ?_
    refine Z.imul dX2_addWall_18 ?_
    refine Z.iload_n dX2_addWall_19 1 rfl ?_
    refine Z.iadd dX2_addWall_20 ?_
    refine Z.zaldH dX2_addWall_21 (a2_walls hb) H (fun v2 H => ?_)
    refine Z.if_neH dX2_addWall_22 H (fun br22 H => ?_) (fun br22 H => ?_)
    · exact Z.vret rfl dX2_addWall_49 (retV H)
    · refine Z.aload_n dX2_addWall_25 0 rfl ?_
      refine Z.get dX2_addWall_26 inX2 (hc := rfl) (cS hb) (c2 hb) 0 (by decide) kw115 rfl rfl ?_
      refine Z.aload_n dX2_addWall_29 0 rfl ?_
      refine Z.get dX2_addWall_30 inX2 (hc := rfl) (cS hb) (c2 hb) 3 (by decide) kw118 rfl rfl ?_
      refine Z.iload_n dX2_addWall_33 2 rfl ?_
      refine Z.imul dX2_addWall_34 ?_
      refine Z.iload_n dX2_addWall_35 1 rfl ?_
      refine Z.iadd dX2_addWall_36 ?_
      refine Z.iconst (v := 1) dX2_addWall_37 (by decide) ?_
      refine Z.zastH dX2_addWall_38 (a2_walls hb) H (fun M3 H => ?_)
      refine Z.aload_n dX2_addWall_39 0 rfl ?_
      refine Z.dup dX2_addWall_40 rfl ?_
      refine Z.get dX2_addWall_41 inX2 (hc := rfl) (cS hb) (c2 hb) 5 (by decide) kw124 rfl rfl ?_
      refine Z.iconst (v := 1) dX2_addWall_44 (by decide) ?_
      refine Z.iadd dX2_addWall_45 ?_
      refine wE H (fun M4 eM4 H => ?_)
      refine Z.put (ty := .int) (M' := M4) dX2_addWall_46 inX2 tyX2_ok nmX2 (hc := rfl) (cS hb) (c2 hb) 5 (by decide) kw124 rfl rfl (by decide +kernel) rfl rfl (Nat.le_of_ble_eq_true rfl) (by rw [← eM4, (c2 hb), sI_k]; exact congrArg (fun q => Sum.inr (2, q)) u2_wallCount) (by rw [← eM4]; exact sI_o) (by rw [← eM4]; exact (fun q => q)) ?_
      exact Z.vret rfl dX2_addWall_49 (retV H)
theorem kX2_addWall {l : Launch} {E : Env5} {b : Nat} (hb : isSc b) (x1 : Int32) (x2 : Int32) (M : Mem) {M9 : Mem} (H : fX2_addWall b x1 x2 M = some M9) : Cn l E yX2_addWall cX2_addWall 3 none 1 [.ref (eA E (b)), .int (x1), .int (x2)] M (PR none M9) := Cn.ofZ rfl (Nat.le_of_ble_eq_true rfl) rfl (tX2_addWall_0 hb x1 x2 M H)
theorem hdX2_addWall : yX2_addWall.cls ≠ "java/lang/invoke/MethodHandle" ∧ yX2_addWall.cls ≠ "java/lang/invoke/VarHandle" ∧ (parseMethodDescriptor yX2_addWall.desc).map (fun d => d.parameters.length) = some 2 := by decide +kernel

set_option maxRecDepth 100000 in
theorem tX2_addItem_0 {l : Launch} {E : Env5} {b : Nat} {a2 : Nat} {n2 : Nat} (hb : isSc b) (ha2 : iA a2 n2)  (x1 : Int32) (M : Mem) {M9 : Mem}  (H : fX2_addItem  b a2 n2 x1 M = some M9) : Z l E RX2 cX2_addItem 3 none 2 0 [(0, .ref (eA E (b))), (1, .int (x1)), (2, .ref (eA E (a2)))] [] M (PR none M9) := by
  unfold fX2_addItem at H
  refine Z.aload_n dX2_addItem_0 0 rfl ?_
  refine Z.iload_n dX2_addItem_1 1 rfl ?_
  refine bindC H (fun v1 hv1 H => ?_)
  refine Z.callV (As := [.int (x1)]) (rest := []) (st' := [.int (v1)]) dX2_addItem_2 (kX2_hasRoomFor hb (x1) M hv1) kw261 kw244 kw245 kw6 kw246 hdX2_hasRoomFor (cS hb) (c2 hb) (hc := rfl) (by decide) (by decide) rfl rfl (Nat.le_of_ble_eq_true rfl) rfl ?_
  refine Z.if_neH dX2_addItem_5 H (fun br5 H => ?_) (fun br5 H => ?_)
  · refine Z.iload_n dX2_addItem_9 1 rfl ?_
    refine iteE H (fun e0 H => ?_) (fun e0 H => ?_)
    · refine Z.tabC (c := 0) (tgt := 36) e0 dX2_addItem_10 (by decide) (by decide) rfl rfl ?_
      refine Z.aload_n dX2_addItem_36 0 rfl ?_
      refine Z.aload_n dX2_addItem_37 2 rfl ?_
      refine Z.iconst (v := 0) dX2_addItem_38 (by decide) ?_
      refine Z.ialdH dX2_addItem_39 ha2 H (fun v2 H => ?_)
      refine wE H (fun M3 eM3 H => ?_)
      refine Z.put (ty := .int) (M' := M3) dX2_addItem_40 inX2 tyX2_ok nmX2 (hc := rfl) (cS hb) (c2 hb) 3 (by decide) kw118 rfl rfl (by decide +kernel) rfl rfl (Nat.le_of_ble_eq_true rfl) (by rw [← eM3, (c2 hb), sI_k]; exact congrArg (fun q => Sum.inr (2, q)) u2_wide) (by rw [← eM3]; exact sI_o) (by rw [← eM3]; exact (fun q => q)) ?_
      refine Z.aload_n dX2_addItem_43 0 rfl ?_
      refine Z.aload_n dX2_addItem_44 2 rfl ?_
      refine Z.iconst (v := 1) dX2_addItem_45 (by decide) ?_
      refine Z.ialdH dX2_addItem_46 ha2 H (fun v4 H => ?_)
      refine wE H (fun M5 eM5 H => ?_)
      refine Z.put (ty := .int) (M' := M5) dX2_addItem_47 inX2 tyX2_ok nmX2 (hc := rfl) (cS hb) (c2 hb) 4 (by decide) kw121 rfl rfl (by decide +kernel) rfl rfl (Nat.le_of_ble_eq_true rfl) (by rw [← eM5, (c2 hb), sI_k]; exact congrArg (fun q => Sum.inr (2, q)) u2_high) (by rw [← eM5]; exact sI_o) (by rw [← eM5]; exact (fun q => q)) ?_
      refine Z.goto dX2_addItem_50 ?_
      exact Z.vret rfl dX2_addItem_123 (retV H)
    refine iteE H (fun e1 H => ?_) (fun e1 H => ?_)
    · refine Z.tabC (c := 1) (tgt := 53) e1 dX2_addItem_10 (by decide) (by decide) rfl rfl ?_
      refine Z.aload_n dX2_addItem_53 0 rfl ?_
      refine Z.aload_n dX2_addItem_54 2 rfl ?_
      refine Z.iconst (v := 0) dX2_addItem_55 (by decide) ?_
      refine Z.ialdH dX2_addItem_56 ha2 H (fun v6 H => ?_)
      refine Z.aload_n dX2_addItem_57 2 rfl ?_
      refine Z.iconst (v := 1) dX2_addItem_58 (by decide) ?_
      refine Z.ialdH dX2_addItem_59 ha2 H (fun v7 H => ?_)
      refine bindC H (fun v8 hv8 H => ?_)
      refine Z.callV (As := [.int (v6), .int (v7)]) (rest := []) (st' := []) dX2_addItem_60 (kX2_addWall hb (v6) (v7) M hv8) kw262 kw264 ks5 kw6 kw265 hdX2_addWall (cS hb) (c2 hb) (hc := rfl) (by decide) (by decide) rfl rfl (Nat.le_of_ble_eq_true rfl) rfl ?_
      refine Z.goto dX2_addItem_63 ?_
      exact Z.vret rfl dX2_addItem_123 (retV H)
    refine iteE H (fun e2 H => ?_) (fun e2 H => ?_)
    · refine Z.tabC (c := 2) (tgt := 66) e2 dX2_addItem_10 (by decide) (by decide) rfl rfl ?_
      refine Z.aload_n dX2_addItem_66 2 rfl ?_
      refine Z.iconst (v := 0) dX2_addItem_67 (by decide) ?_
      refine Z.aload_n dX2_addItem_68 0 rfl ?_
      refine Z.get dX2_addItem_69 inX2 (hc := rfl) (cS hb) (c2 hb) 1 (by decide) kw116 rfl rfl ?_
      refine Z.bipush (v := 6) dX2_addItem_72 (by decide) ?_
      refine Z.aload_n dX2_addItem_74 0 rfl ?_
      refine Z.get dX2_addItem_75 inX2 (hc := rfl) (cS hb) (c2 hb) 6 (by decide) kw126 rfl rfl ?_
      refine Z.imul dX2_addItem_78 ?_
      refine Z.bipush (v := 6) dX2_addItem_79 (by decide) ?_
      refine Z.acopyH dX2_addItem_81 kw270 kw272 kw271 kw9 ha2 (a2_people hb) (by decide) (by decide) H (fun M9 H => ?_)
      refine Z.aload_n dX2_addItem_84 0 rfl ?_
      refine Z.dup dX2_addItem_85 rfl ?_
      refine Z.get dX2_addItem_86 inX2 (hc := rfl) (cS hb) (c2 hb) 6 (by decide) kw126 rfl rfl ?_
      refine Z.iconst (v := 1) dX2_addItem_89 (by decide) ?_
      refine Z.iadd dX2_addItem_90 ?_
      refine wE H (fun M10 eM10 H => ?_)
      refine Z.put (ty := .int) (M' := M10) dX2_addItem_91 inX2 tyX2_ok nmX2 (hc := rfl) (cS hb) (c2 hb) 6 (by decide) kw126 rfl rfl (by decide +kernel) rfl rfl (Nat.le_of_ble_eq_true rfl) (by rw [← eM10, (c2 hb), sI_k]; exact congrArg (fun q => Sum.inr (2, q)) u2_personCount) (by rw [← eM10]; exact sI_o) (by rw [← eM10]; exact (fun q => q)) ?_
      refine Z.goto dX2_addItem_94 ?_
      exact Z.vret rfl dX2_addItem_123 (retV H)
    refine Z.tabOut (tgt := 97) dX2_addItem_10 (by have := @Int32.toInt_inj; have z0 := sw_ne (k := 0) rfl e0; have z1 := sw_ne (k := 1) rfl e1; have z2 := sw_ne (k := 2) rfl e2; omega) rfl ?_
    refine Z.aload_n dX2_addItem_97 2 rfl ?_
    refine Z.iconst (v := 0) dX2_addItem_98 (by decide) ?_
    refine Z.aload_n dX2_addItem_99 0 rfl ?_
    refine Z.get dX2_addItem_100 inX2 (hc := rfl) (cS hb) (c2 hb) 2 (by decide) kw117 rfl rfl ?_
    refine Z.iconst (v := 5) dX2_addItem_103 (by decide) ?_
    refine Z.aload_n dX2_addItem_104 0 rfl ?_
    refine Z.get dX2_addItem_105 inX2 (hc := rfl) (cS hb) (c2 hb) 7 (by decide) kw128 rfl rfl ?_
    refine Z.imul dX2_addItem_108 ?_
    refine Z.iconst (v := 5) dX2_addItem_109 (by decide) ?_
    refine Z.acopyH dX2_addItem_110 kw270 kw272 kw271 kw9 ha2 (a2_pictures hb) (by decide) (by decide) H (fun M11 H => ?_)
    refine Z.aload_n dX2_addItem_113 0 rfl ?_
    refine Z.dup dX2_addItem_114 rfl ?_
    refine Z.get dX2_addItem_115 inX2 (hc := rfl) (cS hb) (c2 hb) 7 (by decide) kw128 rfl rfl ?_
    refine Z.iconst (v := 1) dX2_addItem_118 (by decide) ?_
    refine Z.iadd dX2_addItem_119 ?_
    refine wE H (fun M12 eM12 H => ?_)
    refine Z.put (ty := .int) (M' := M12) dX2_addItem_120 inX2 tyX2_ok nmX2 (hc := rfl) (cS hb) (c2 hb) 7 (by decide) kw128 rfl rfl (by decide +kernel) rfl rfl (Nat.le_of_ble_eq_true rfl) (by rw [← eM12, (c2 hb), sI_k]; exact congrArg (fun q => Sum.inr (2, q)) u2_pictureCount) (by rw [← eM12]; exact sI_o) (by rw [← eM12]; exact (fun q => q)) ?_
    exact Z.vret rfl dX2_addItem_123 (retV H)
  · exact Z.vret rfl dX2_addItem_8 (retV H)
theorem kX2_addItem {l : Launch} {E : Env5} {b : Nat} {a2 : Nat} {n2 : Nat} (hb : isSc b) (ha2 : iA a2 n2) (x1 : Int32) (M : Mem) {M9 : Mem} (H : fX2_addItem b a2 n2 x1 M = some M9) : Cn l E yX2_addItem cX2_addItem 3 none 2 [.ref (eA E (b)), .int (x1), .ref (eA E (a2))] M (PR none M9) := Cn.ofZ rfl (Nat.le_of_ble_eq_true rfl) rfl (tX2_addItem_0 hb ha2 x1 M H)
theorem hdX2_addItem : yX2_addItem.cls ≠ "java/lang/invoke/MethodHandle" ∧ yX2_addItem.cls ≠ "java/lang/invoke/VarHandle" ∧ (parseMethodDescriptor yX2_addItem.desc).map (fun d => d.parameters.length) = some 2 := by decide +kernel

set_option maxRecDepth 100000 in
theorem tX2_isWall_0 {l : Launch} {E : Env5} {b : Nat} (hb : isSc b)  (x1 : Int32) (x2 : Int32) (M : Mem) {v9 : Int32}  (H : fX2_isWall  b x1 x2 M = some v9) : Z l E RX2 cX2_isWall 3 (some .boolean) 1 0 [(0, .ref (eA E (b))), (1, .int (x1)), (2, .int (x2))] [] M (PR (some (.int v9)) M) := by
  unfold fX2_isWall at H
  refine Z.aload_n dX2_isWall_0 0 rfl ?_
  refine Z.iload_n dX2_isWall_1 1 rfl ?_
  refine Z.iload_n dX2_isWall_2 2 rfl ?_
  refine bindC H (fun v1 hv1 H => ?_)
  refine Z.callV (As := [.int (x1), .int (x2)]) (rest := []) (st' := [.int (v1)]) dX2_isWall_3 (kX2_isCell hb (x1) (x2) M hv1) kw266 kw267 kw268 kw6 kw269 hdX2_isCell (cS hb) (c2 hb) (hc := rfl) (by decide) (by decide) rfl rfl (Nat.le_of_ble_eq_true rfl) rfl ?_
  refine Z.if_eqH dX2_isWall_6 H (fun br6 H => ?_) (fun br6 H => ?_)
  · refine Z.iconst (v := 0) dX2_isWall_29 (by decide) ?_
    exact Z.zret rfl rfl dX2_isWall_30 (retR H)
  · refine Z.aload_n dX2_isWall_9 0 rfl ?_
    refine Z.get dX2_isWall_10 inX2 (hc := rfl) (cS hb) (c2 hb) 0 (by decide) kw115 rfl rfl ?_
    refine Z.aload_n dX2_isWall_13 0 rfl ?_
    refine Z.get dX2_isWall_14 inX2 (hc := rfl) (cS hb) (c2 hb) 3 (by decide) kw118 rfl rfl ?_
    refine Z.iload_n dX2_isWall_17 2 rfl ?_
    refine Z.imul dX2_isWall_18 ?_
    refine Z.iload_n dX2_isWall_19 1 rfl ?_
    refine Z.iadd dX2_isWall_20 ?_
    refine Z.zaldH dX2_isWall_21 (a2_walls hb) H (fun v2 H => ?_)
    refine Z.if_eqH dX2_isWall_22 H (fun br22 H => ?_) (fun br22 H => ?_)
    · refine Z.iconst (v := 0) dX2_isWall_29 (by decide) ?_
      exact Z.zret rfl rfl dX2_isWall_30 (retR H)
    · refine Z.iconst (v := 1) dX2_isWall_25 (by decide) ?_
      refine Z.goto dX2_isWall_26 ?_
      exact Z.zret rfl rfl dX2_isWall_30 (retR H)
theorem kX2_isWall {l : Launch} {E : Env5} {b : Nat} (hb : isSc b) (x1 : Int32) (x2 : Int32) (M : Mem) {v9 : Int32} (H : fX2_isWall b x1 x2 M = some v9) : Cn l E yX2_isWall cX2_isWall 3 (some .boolean) 1 [.ref (eA E (b)), .int (x1), .int (x2)] M (PR (some (.int v9)) M) := Cn.ofZ rfl (Nat.le_of_ble_eq_true rfl) rfl (tX2_isWall_0 hb x1 x2 M H)
theorem hdX2_isWall : yX2_isWall.cls ≠ "java/lang/invoke/MethodHandle" ∧ yX2_isWall.cls ≠ "java/lang/invoke/VarHandle" ∧ (parseMethodDescriptor yX2_isWall.desc).map (fun d => d.parameters.length) = some 2 := by decide +kernel

set_option maxRecDepth 100000 in
theorem tX2_isGround_0 {l : Launch} {E : Env5} {b : Nat} (hb : isSc b)  (x1 : Int32) (x2 : Int32) (M : Mem) {v9 : Int32}  (H : fX2_isGround  b x1 x2 M = some v9) : Z l E RX2 cX2_isGround 3 (some .boolean) 1 0 [(0, .ref (eA E (b))), (1, .int (x1)), (2, .int (x2))] [] M (PR (some (.int v9)) M) := by
  unfold fX2_isGround at H
  refine Z.aload_n dX2_isGround_0 0 rfl ?_
  refine Z.iload_n dX2_isGround_1 1 rfl ?_
  refine Z.iload_n dX2_isGround_2 2 rfl ?_
  refine bindC H (fun v1 hv1 H => ?_)
  refine Z.callV (As := [.int (x1), .int (x2)]) (rest := []) (st' := [.int (v1)]) dX2_isGround_3 (kX2_isCell hb (x1) (x2) M hv1) kw266 kw267 kw268 kw6 kw269 hdX2_isCell (cS hb) (c2 hb) (hc := rfl) (by decide) (by decide) rfl rfl (Nat.le_of_ble_eq_true rfl) rfl ?_
  refine Z.if_eqH dX2_isGround_6 H (fun br6 H => ?_) (fun br6 H => ?_)
  · refine Z.iconst (v := 0) dX2_isGround_29 (by decide) ?_
    exact Z.zret rfl rfl dX2_isGround_30 (retR H)
  · refine Z.aload_n dX2_isGround_9 0 rfl ?_
    refine Z.get dX2_isGround_10 inX2 (hc := rfl) (cS hb) (c2 hb) 0 (by decide) kw115 rfl rfl ?_
    refine Z.aload_n dX2_isGround_13 0 rfl ?_
    refine Z.get dX2_isGround_14 inX2 (hc := rfl) (cS hb) (c2 hb) 3 (by decide) kw118 rfl rfl ?_
    refine Z.iload_n dX2_isGround_17 2 rfl ?_
    refine Z.imul dX2_isGround_18 ?_
    refine Z.iload_n dX2_isGround_19 1 rfl ?_
    refine Z.iadd dX2_isGround_20 ?_
    refine Z.zaldH dX2_isGround_21 (a2_walls hb) H (fun v2 H => ?_)
    refine Z.if_neH dX2_isGround_22 H (fun br22 H => ?_) (fun br22 H => ?_)
    · refine Z.iconst (v := 0) dX2_isGround_29 (by decide) ?_
      exact Z.zret rfl rfl dX2_isGround_30 (retR H)
    · refine Z.iconst (v := 1) dX2_isGround_25 (by decide) ?_
      refine Z.goto dX2_isGround_26 ?_
      exact Z.zret rfl rfl dX2_isGround_30 (retR H)
theorem kX2_isGround {l : Launch} {E : Env5} {b : Nat} (hb : isSc b) (x1 : Int32) (x2 : Int32) (M : Mem) {v9 : Int32} (H : fX2_isGround b x1 x2 M = some v9) : Cn l E yX2_isGround cX2_isGround 3 (some .boolean) 1 [.ref (eA E (b)), .int (x1), .int (x2)] M (PR (some (.int v9)) M) := Cn.ofZ rfl (Nat.le_of_ble_eq_true rfl) rfl (tX2_isGround_0 hb x1 x2 M H)
theorem hdX2_isGround : yX2_isGround.cls ≠ "java/lang/invoke/MethodHandle" ∧ yX2_isGround.cls ≠ "java/lang/invoke/VarHandle" ∧ (parseMethodDescriptor yX2_isGround.desc).map (fun d => d.parameters.length) = some 2 := by decide +kernel

set_option maxRecDepth 100000 in
theorem tX2_isPerson_0 {l : Launch} {E : Env5} {b : Nat} (hb : isSc b)  (x1 : Int32) (M : Mem) {v9 : Int32}  (H : fX2_isPerson  b x1 M = some v9) : Z l E RX2 cX2_isPerson 2 (some .boolean) 1 0 [(0, .ref (eA E (b))), (1, .int (x1))] [] M (PR (some (.int v9)) M) := by
  unfold fX2_isPerson at H
  refine Z.iload_n dX2_isPerson_0 1 rfl ?_
  refine Z.iconst (v := 0) dX2_isPerson_1 (by decide) ?_
  refine Z.aload_n dX2_isPerson_2 0 rfl ?_
  refine Z.get dX2_isPerson_3 inX2 (hc := rfl) (cS hb) (c2 hb) 6 (by decide) kw126 rfl rfl ?_
  refine Z.iconst (v := 1) dX2_isPerson_6 (by decide) ?_
  refine Z.isub dX2_isPerson_7 ?_
  refine bindC H (fun v1 hv1 H => ?_)
  refine Z.callSN (As := [.int (x1), .int (0), .int ((M.1 b 6) - 1)]) (rest := []) (st' := [.int (v1)]) dX2_isPerson_8 (kX4_isBetween  (x1) (0) ((M.1 b 6) - 1) M hv1) kn299 kw197 kw1 kw198 hdX4_isBetween (by decide) (by decide) rfl rfl (Nat.le_of_ble_eq_true rfl) rfl ?_
  refine gBE H (fun gb H => ?_)
  exact Z.zret rfl gb dX2_isPerson_11 (retR H)
theorem kX2_isPerson {l : Launch} {E : Env5} {b : Nat} (hb : isSc b) (x1 : Int32) (M : Mem) {v9 : Int32} (H : fX2_isPerson b x1 M = some v9) : Cn l E yX2_isPerson cX2_isPerson 2 (some .boolean) 1 [.ref (eA E (b)), .int (x1)] M (PR (some (.int v9)) M) := Cn.ofZ rfl (Nat.le_of_ble_eq_true rfl) rfl (tX2_isPerson_0 hb x1 M H)
theorem hdX2_isPerson : yX2_isPerson.cls ≠ "java/lang/invoke/MethodHandle" ∧ yX2_isPerson.cls ≠ "java/lang/invoke/VarHandle" ∧ (parseMethodDescriptor yX2_isPerson.desc).map (fun d => d.parameters.length) = some 1 := by decide +kernel

set_option maxRecDepth 100000 in
theorem tX2_isPicture_0 {l : Launch} {E : Env5} {b : Nat} (hb : isSc b)  (x1 : Int32) (M : Mem) {v9 : Int32}  (H : fX2_isPicture  b x1 M = some v9) : Z l E RX2 cX2_isPicture 2 (some .boolean) 1 0 [(0, .ref (eA E (b))), (1, .int (x1))] [] M (PR (some (.int v9)) M) := by
  unfold fX2_isPicture at H
  refine Z.iload_n dX2_isPicture_0 1 rfl ?_
  refine Z.iconst (v := 0) dX2_isPicture_1 (by decide) ?_
  refine Z.aload_n dX2_isPicture_2 0 rfl ?_
  refine Z.get dX2_isPicture_3 inX2 (hc := rfl) (cS hb) (c2 hb) 7 (by decide) kw128 rfl rfl ?_
  refine Z.iconst (v := 1) dX2_isPicture_6 (by decide) ?_
  refine Z.isub dX2_isPicture_7 ?_
  refine bindC H (fun v1 hv1 H => ?_)
  refine Z.callSN (As := [.int (x1), .int (0), .int ((M.1 b 7) - 1)]) (rest := []) (st' := [.int (v1)]) dX2_isPicture_8 (kX4_isBetween  (x1) (0) ((M.1 b 7) - 1) M hv1) kn299 kw197 kw1 kw198 hdX4_isBetween (by decide) (by decide) rfl rfl (Nat.le_of_ble_eq_true rfl) rfl ?_
  refine gBE H (fun gb H => ?_)
  exact Z.zret rfl gb dX2_isPicture_11 (retR H)
theorem kX2_isPicture {l : Launch} {E : Env5} {b : Nat} (hb : isSc b) (x1 : Int32) (M : Mem) {v9 : Int32} (H : fX2_isPicture b x1 M = some v9) : Cn l E yX2_isPicture cX2_isPicture 2 (some .boolean) 1 [.ref (eA E (b)), .int (x1)] M (PR (some (.int v9)) M) := Cn.ofZ rfl (Nat.le_of_ble_eq_true rfl) rfl (tX2_isPicture_0 hb x1 M H)
theorem hdX2_isPicture : yX2_isPicture.cls ≠ "java/lang/invoke/MethodHandle" ∧ yX2_isPicture.cls ≠ "java/lang/invoke/VarHandle" ∧ (parseMethodDescriptor yX2_isPicture.desc).map (fun d => d.parameters.length) = some 1 := by decide +kernel

set_option maxRecDepth 100000 in
theorem tX2_isSetOfPeople_0 {l : Launch} {E : Env5} {b : Nat} (hb : isSc b)  (x1 : Int32) (M : Mem) {v9 : Int32}  (H : fX2_isSetOfPeople  b x1 M = some v9) : Z l E RX2 cX2_isSetOfPeople 2 (some .boolean) 1 0 [(0, .ref (eA E (b))), (1, .int (x1))] [] M (PR (some (.int v9)) M) := by
  unfold fX2_isSetOfPeople at H
  refine Z.iload_n dX2_isSetOfPeople_0 1 rfl ?_
  refine Z.iconst (v := 0) dX2_isSetOfPeople_1 (by decide) ?_
  refine Z.iconst (v := 1) dX2_isSetOfPeople_2 (by decide) ?_
  refine Z.aload_n dX2_isSetOfPeople_3 0 rfl ?_
  refine Z.get dX2_isSetOfPeople_4 inX2 (hc := rfl) (cS hb) (c2 hb) 6 (by decide) kw126 rfl rfl ?_
  refine Z.ishl dX2_isSetOfPeople_7 ?_
  refine Z.iconst (v := 1) dX2_isSetOfPeople_8 (by decide) ?_
  refine Z.isub dX2_isSetOfPeople_9 ?_
  refine bindC H (fun v1 hv1 H => ?_)
  refine Z.callSN (As := [.int (x1), .int (0), .int ((1 <<< ((M.1 b 6) &&& 31)) - 1)]) (rest := []) (st' := [.int (v1)]) dX2_isSetOfPeople_10 (kX4_isBetween  (x1) (0) ((1 <<< ((M.1 b 6) &&& 31)) - 1) M hv1) kn299 kw197 kw1 kw198 hdX4_isBetween (by decide) (by decide) rfl rfl (Nat.le_of_ble_eq_true rfl) rfl ?_
  refine gBE H (fun gb H => ?_)
  exact Z.zret rfl gb dX2_isSetOfPeople_13 (retR H)
theorem kX2_isSetOfPeople {l : Launch} {E : Env5} {b : Nat} (hb : isSc b) (x1 : Int32) (M : Mem) {v9 : Int32} (H : fX2_isSetOfPeople b x1 M = some v9) : Cn l E yX2_isSetOfPeople cX2_isSetOfPeople 2 (some .boolean) 1 [.ref (eA E (b)), .int (x1)] M (PR (some (.int v9)) M) := Cn.ofZ rfl (Nat.le_of_ble_eq_true rfl) rfl (tX2_isSetOfPeople_0 hb x1 M H)
theorem hdX2_isSetOfPeople : yX2_isSetOfPeople.cls ≠ "java/lang/invoke/MethodHandle" ∧ yX2_isSetOfPeople.cls ≠ "java/lang/invoke/VarHandle" ∧ (parseMethodDescriptor yX2_isSetOfPeople.desc).map (fun d => d.parameters.length) = some 1 := by decide +kernel

set_option maxRecDepth 100000 in
theorem tX2_ofPerson_0 {l : Launch} {E : Env5} {b : Nat} (hb : isSc b)  (x1 : Int32) (x2 : Int32) (M : Mem) {v9 : Int32}  (H : fX2_ofPerson  b x1 x2 M = some v9) : Z l E RX2 cX2_ofPerson 3 (some .int) 0 0 [(0, .ref (eA E (b))), (1, .int (x1)), (2, .int (x2))] [] M (PR (some (.int v9)) M) := by
  unfold fX2_ofPerson at H
  refine Z.aload_n dX2_ofPerson_0 0 rfl ?_
  refine Z.get dX2_ofPerson_1 inX2 (hc := rfl) (cS hb) (c2 hb) 1 (by decide) kw116 rfl rfl ?_
  refine Z.bipush (v := 6) dX2_ofPerson_4 (by decide) ?_
  refine Z.iload_n dX2_ofPerson_6 1 rfl ?_
  refine Z.imul dX2_ofPerson_7 ?_
  refine Z.iload_n dX2_ofPerson_8 2 rfl ?_
  refine Z.iadd dX2_ofPerson_9 ?_
  refine Z.ialdH dX2_ofPerson_10 (a2_people hb) H (fun v1 H => ?_)
  exact Z.iret rfl dX2_ofPerson_11 (retR H)
theorem kX2_ofPerson {l : Launch} {E : Env5} {b : Nat} (hb : isSc b) (x1 : Int32) (x2 : Int32) (M : Mem) {v9 : Int32} (H : fX2_ofPerson b x1 x2 M = some v9) : Cn l E yX2_ofPerson cX2_ofPerson 3 (some .int) 0 [.ref (eA E (b)), .int (x1), .int (x2)] M (PR (some (.int v9)) M) := Cn.ofZ rfl (Nat.le_of_ble_eq_true rfl) rfl (tX2_ofPerson_0 hb x1 x2 M H)
theorem hdX2_ofPerson : yX2_ofPerson.cls ≠ "java/lang/invoke/MethodHandle" ∧ yX2_ofPerson.cls ≠ "java/lang/invoke/VarHandle" ∧ (parseMethodDescriptor yX2_ofPerson.desc).map (fun d => d.parameters.length) = some 2 := by decide +kernel

set_option maxRecDepth 100000 in
theorem tX2_ofPicture_0 {l : Launch} {E : Env5} {b : Nat} (hb : isSc b)  (x1 : Int32) (x2 : Int32) (M : Mem) {v9 : Int32}  (H : fX2_ofPicture  b x1 x2 M = some v9) : Z l E RX2 cX2_ofPicture 3 (some .int) 0 0 [(0, .ref (eA E (b))), (1, .int (x1)), (2, .int (x2))] [] M (PR (some (.int v9)) M) := by
  unfold fX2_ofPicture at H
  refine Z.aload_n dX2_ofPicture_0 0 rfl ?_
  refine Z.get dX2_ofPicture_1 inX2 (hc := rfl) (cS hb) (c2 hb) 2 (by decide) kw117 rfl rfl ?_
  refine Z.iconst (v := 5) dX2_ofPicture_4 (by decide) ?_
  refine Z.iload_n dX2_ofPicture_5 1 rfl ?_
  refine Z.imul dX2_ofPicture_6 ?_
  refine Z.iload_n dX2_ofPicture_7 2 rfl ?_
  refine Z.iadd dX2_ofPicture_8 ?_
  refine Z.ialdH dX2_ofPicture_9 (a2_pictures hb) H (fun v1 H => ?_)
  exact Z.iret rfl dX2_ofPicture_10 (retR H)
theorem kX2_ofPicture {l : Launch} {E : Env5} {b : Nat} (hb : isSc b) (x1 : Int32) (x2 : Int32) (M : Mem) {v9 : Int32} (H : fX2_ofPicture b x1 x2 M = some v9) : Cn l E yX2_ofPicture cX2_ofPicture 3 (some .int) 0 [.ref (eA E (b)), .int (x1), .int (x2)] M (PR (some (.int v9)) M) := Cn.ofZ rfl (Nat.le_of_ble_eq_true rfl) rfl (tX2_ofPicture_0 hb x1 x2 M H)
theorem hdX2_ofPicture : yX2_ofPicture.cls ≠ "java/lang/invoke/MethodHandle" ∧ yX2_ofPicture.cls ≠ "java/lang/invoke/VarHandle" ∧ (parseMethodDescriptor yX2_ofPicture.desc).map (fun d => d.parameters.length) = some 2 := by decide +kernel

set_option maxRecDepth 100000 in
theorem tX2_cellOf_0 {l : Launch} {E : Env5} {b : Nat} (hb : isSc b)  (x1 : Int32) (x2 : Int32) (M : Mem) {v9 : Int32}  (H : fX2_cellOf  b x1 x2 M = some v9) : Z l E RX2 cX2_cellOf 7 (some .int) 1 0 [(0, .ref (eA E (b))), (1, .int (x1)), (2, .int (x2))] [] M (PR (some (.int v9)) M) := by
  unfold fX2_cellOf at H
  refine Z.iload_n dX2_cellOf_0 2 rfl ?_
  refine Z.aload_n dX2_cellOf_1 0 rfl ?_
  refine Z.iload_n dX2_cellOf_2 1 rfl ?_
  refine Z.iconst (v := 3) dX2_cellOf_3 (by decide) ?_
  refine bindC H (fun v1 hv1 H => ?_)
  refine Z.callV (As := [.int (x1), .int (3)]) (rest := [.int (x2)]) (st' := [.int (v1), .int (x2)]) dX2_cellOf_4 (kX2_ofPerson hb (x1) (3) M hv1) kw295 kw296 kw297 kw6 kw298 hdX2_ofPerson (cS hb) (c2 hb) (hc := rfl) (by decide) (by decide) rfl rfl (Nat.le_of_ble_eq_true rfl) rfl ?_
  refine Z.isub dX2_cellOf_7 ?_
  refine Z.istore_n (lv' := [(3, .int (x2 - v1)), (0, .ref (eA E (b))), (1, .int (x1)), (2, .int (x2))]) dX2_cellOf_8 (by decide) rfl ?_
  refine Z.iload_n dX2_cellOf_9 0 rfl ?_
  refine Z.iconst (v := 0) dX2_cellOf_10 (by decide) ?_
  refine Z.aload_n dX2_cellOf_11 1 rfl ?_
  refine Z.iload_n dX2_cellOf_12 2 rfl ?_
  refine Z.iconst (v := 4) dX2_cellOf_13 (by decide) ?_
  refine bindC H (fun v2 hv2 H => ?_)
  refine Z.callV (As := [.int (x1), .int (4)]) (rest := [.int (0), .int (x2 - v1)]) (st' := [.int (v2), .int (0), .int (x2 - v1)]) dX2_cellOf_14 (kX2_ofPerson hb (x1) (4) M hv2) kw295 kw296 kw297 kw6 kw298 hdX2_ofPerson (cS hb) (c2 hb) (hc := rfl) (by decide) (by decide) rfl rfl (Nat.le_of_ble_eq_true rfl) rfl ?_
  refine bindC H (fun v3 hv3 H => ?_)
  refine Z.callSN (As := [.int (x2 - v1), .int (0), .int (v2)]) (rest := []) (st' := [.int (v3)]) dX2_cellOf_17 (kX4_isBetween  (x2 - v1) (0) (v2) M hv3) kn299 kw197 kw1 kw198 hdX4_isBetween (by decide) (by decide) rfl rfl (Nat.le_of_ble_eq_true rfl) rfl ?_
  refine Z.if_neH dX2_cellOf_20 H (fun br20 H => ?_) (fun br20 H => ?_)
  · refine Z.aload_n dX2_cellOf_26 1 rfl ?_
    refine Z.iload_n dX2_cellOf_27 2 rfl ?_
    refine Z.iconst (v := 2) dX2_cellOf_28 (by decide) ?_
    refine bindC H (fun v4 hv4 H => ?_)
    refine Z.callV (As := [.int (x1), .int (2)]) (rest := []) (st' := [.int (v4)]) dX2_cellOf_29 (kX2_ofPerson hb (x1) (2) M hv4) kw295 kw296 kw297 kw6 kw298 hdX2_ofPerson (cS hb) (c2 hb) (hc := rfl) (by decide) (by decide) rfl rfl (Nat.le_of_ble_eq_true rfl) rfl ?_
    refine Z.istore (lv' := [(4, .int (v4)), (3, .int (x2 - v1)), (0, .ref (eA E (b))), (1, .int (x1)), (2, .int (x2))]) dX2_cellOf_32 (by decide) rfl ?_
    refine Z.aload_n dX2_cellOf_34 2 rfl ?_
    refine Z.iload_n dX2_cellOf_35 3 rfl ?_
    refine Z.iconst (v := 0) dX2_cellOf_36 (by decide) ?_
    refine bindC H (fun v5 hv5 H => ?_)
    refine Z.callV (As := [.int (x1), .int (0)]) (rest := []) (st' := [.int (v5)]) dX2_cellOf_37 (kX2_ofPerson hb (x1) (0) M hv5) kw295 kw296 kw297 kw6 kw298 hdX2_ofPerson (cS hb) (c2 hb) (hc := rfl) (by decide) (by decide) rfl rfl (Nat.le_of_ble_eq_true rfl) rfl ?_
    refine Z.iload_n dX2_cellOf_40 1 rfl ?_
    refine Z.getsN dX2_cellOf_41 (fun _ _ q => q.1) kn300 ?_
    refine Z.iload dX2_cellOf_44 0 rfl ?_
    refine Z.taldH dX2_cellOf_46 (fun _ _ q => q.1) H (fun v6 H => ?_)
    refine Z.imul dX2_cellOf_47 ?_
    refine Z.iadd dX2_cellOf_48 ?_
    refine Z.istore (lv' := [(5, .int (v5 + ((x2 - v1) * v6))), (4, .int (v4)), (3, .int (x2 - v1)), (0, .ref (eA E (b))), (1, .int (x1)), (2, .int (x2))]) dX2_cellOf_49 (by decide) rfl ?_
    refine Z.aload_n dX2_cellOf_51 3 rfl ?_
    refine Z.iload_n dX2_cellOf_52 4 rfl ?_
    refine Z.iconst (v := 1) dX2_cellOf_53 (by decide) ?_
    refine bindC H (fun v7 hv7 H => ?_)
    refine Z.callV (As := [.int (x1), .int (1)]) (rest := []) (st' := [.int (v7)]) dX2_cellOf_54 (kX2_ofPerson hb (x1) (1) M hv7) kw295 kw296 kw297 kw6 kw298 hdX2_ofPerson (cS hb) (c2 hb) (hc := rfl) (by decide) (by decide) rfl rfl (Nat.le_of_ble_eq_true rfl) rfl ?_
    refine Z.iload_n dX2_cellOf_57 2 rfl ?_
    refine Z.getsN dX2_cellOf_58 (fun _ _ q => q.2.1) kn302 ?_
    refine Z.iload dX2_cellOf_61 1 rfl ?_
    refine Z.taldH dX2_cellOf_63 (fun _ _ q => q.2.1) H (fun v8 H => ?_)
    refine Z.imul dX2_cellOf_64 ?_
    refine Z.iadd dX2_cellOf_65 ?_
    refine Z.istore (lv' := [(6, .int (v7 + ((x2 - v1) * v8))), (5, .int (v5 + ((x2 - v1) * v6))), (4, .int (v4)), (3, .int (x2 - v1)), (0, .ref (eA E (b))), (1, .int (x1)), (2, .int (x2))]) dX2_cellOf_66 (by decide) rfl ?_
    refine Z.aload_n dX2_cellOf_68 4 rfl ?_
    refine Z.iload dX2_cellOf_69 1 rfl ?_
    refine Z.iload dX2_cellOf_71 0 rfl ?_
    refine bindC H (fun v9 hv9 H => ?_)
    refine Z.callV (As := [.int (v5 + ((x2 - v1) * v6)), .int (v7 + ((x2 - v1) * v8))]) (rest := []) (st' := [.int (v9)]) dX2_cellOf_73 (kX2_isCell hb (v5 + ((x2 - v1) * v6)) (v7 + ((x2 - v1) * v8)) M hv9) kw266 kw267 kw268 kw6 kw269 hdX2_isCell (cS hb) (c2 hb) (hc := rfl) (by decide) (by decide) rfl rfl (Nat.le_of_ble_eq_true rfl) rfl ?_
    refine Z.if_eqH dX2_cellOf_76 H (fun br76 H => ?_) (fun br76 H => ?_)
    · refine Z.bipush (v := (-9)) dX2_cellOf_110 (by decide) ?_
      exact Z.iret rfl dX2_cellOf_112 (retR H)
    · refine Z.aload_n dX2_cellOf_79 4 rfl ?_
      refine Z.get dX2_cellOf_80 inX2 (hc := rfl) (cS hb) (c2 hb) 0 (by decide) kw115 rfl rfl ?_
      refine Z.aload_n dX2_cellOf_83 4 rfl ?_
      refine Z.get dX2_cellOf_84 inX2 (hc := rfl) (cS hb) (c2 hb) 3 (by decide) kw118 rfl rfl ?_
      refine Z.iload dX2_cellOf_87 0 rfl ?_
      refine Z.imul dX2_cellOf_89 ?_
      refine Z.iload dX2_cellOf_90 1 rfl ?_
      refine Z.iadd dX2_cellOf_92 ?_
      refine Z.zaldH dX2_cellOf_93 (a2_walls hb) H (fun v10 H => ?_)
      refine Z.if_neH dX2_cellOf_94 H (fun br94 H => ?_) (fun br94 H => ?_)
      · refine Z.bipush (v := (-9)) dX2_cellOf_110 (by decide) ?_
        exact Z.iret rfl dX2_cellOf_112 (retR H)
      · refine Z.aload_n dX2_cellOf_97 4 rfl ?_
        refine Z.get dX2_cellOf_98 inX2 (hc := rfl) (cS hb) (c2 hb) 3 (by decide) kw118 rfl rfl ?_
        refine Z.iload dX2_cellOf_101 0 rfl ?_
        refine Z.imul dX2_cellOf_103 ?_
        refine Z.iload dX2_cellOf_104 1 rfl ?_
        refine Z.iadd dX2_cellOf_106 ?_
        refine Z.goto dX2_cellOf_107 ?_
        exact Z.iret rfl dX2_cellOf_112 (retR H)
  · refine Z.bipush (v := (-9)) dX2_cellOf_23 (by decide) ?_
    exact Z.iret rfl dX2_cellOf_25 (retR H)
theorem kX2_cellOf {l : Launch} {E : Env5} {b : Nat} (hb : isSc b) (x1 : Int32) (x2 : Int32) (M : Mem) {v9 : Int32} (H : fX2_cellOf b x1 x2 M = some v9) : Cn l E yX2_cellOf cX2_cellOf 7 (some .int) 1 [.ref (eA E (b)), .int (x1), .int (x2)] M (PR (some (.int v9)) M) := Cn.ofZ rfl (Nat.le_of_ble_eq_true rfl) rfl (tX2_cellOf_0 hb x1 x2 M H)
theorem hdX2_cellOf : yX2_cellOf.cls ≠ "java/lang/invoke/MethodHandle" ∧ yX2_cellOf.cls ≠ "java/lang/invoke/VarHandle" ∧ (parseMethodDescriptor yX2_cellOf.desc).map (fun d => d.parameters.length) = some 2 := by decide +kernel

set_option maxRecDepth 100000 in
theorem tX2_standAt_65 {l : Launch} {E : Env5} {b : Nat} (hb : isSc b) {k19 : Int32 → Int32 → Mem → Option Mem} (x1 : Int32) (x2 : Int32) (M : Mem) {M9 : Mem} (hk19 : ∀ (x1 : Int32) (x2 : Int32) (M : Mem), k19 x1 x2 M = some M9 → Z l E RX2 cX2_standAt 3 none 2 19 [(0, .ref (eA E (b))), (1, .int (x1)), (2, .int (x2))] [] M (PR none M9)) (H : fX2_standAt_65 k19 b x1 x2 M = some M9) : Z l E RX2 cX2_standAt 3 none 2 65 [(0, .ref (eA E (b))), (1, .int (x1)), (2, .int (x2))] [] M (PR none M9) := by
  unfold fX2_standAt_65 at H
  refine Z.iinc (v := x2 + 1) (lv' := [(2, .int (x2 + 1)), (0, .ref (eA E (b))), (1, .int (x1))]) dX2_standAt_65 2 rfl rfl (by decide) rfl ?_
  refine Z.goto dX2_standAt_68 ?_
  refine Z.sub [1, 2, 0] rfl ?_
  exact hk19 (x1) (x2 + 1) M  H
set_option maxRecDepth 100000 in
theorem tX2_standAt_19 {l : Launch} {E : Env5} {b : Nat} (hb : isSc b) {k19 : Int32 → Int32 → Mem → Option Mem} (x1 : Int32) (x2 : Int32) (M : Mem) {M9 : Mem} (hk19 : ∀ (x1 : Int32) (x2 : Int32) (M : Mem), k19 x1 x2 M = some M9 → Z l E RX2 cX2_standAt 3 none 2 19 [(0, .ref (eA E (b))), (1, .int (x1)), (2, .int (x2))] [] M (PR none M9)) (H : fX2_standAt_19B k19 b x1 x2 M = some M9) : Z l E RX2 cX2_standAt 3 none 2 19 [(0, .ref (eA E (b))), (1, .int (x1)), (2, .int (x2))] [] M (PR none M9) := by
  unfold fX2_standAt_19B at H
  refine Z.iload_n dX2_standAt_19 2 rfl ?_
  refine Z.aload_n dX2_standAt_20 0 rfl ?_
  refine Z.get dX2_standAt_21 inX2 (hc := rfl) (cS hb) (c2 hb) 6 (by decide) kw126 rfl rfl ?_
  refine Z.icmp_geH dX2_standAt_24 H (fun br24 H => ?_) (fun br24 H => ?_)
  · refine Z.aload_n dX2_standAt_71 0 rfl ?_
    refine Z.iload_n dX2_standAt_72 1 rfl ?_
    refine wE H (fun M1 eM1 H => ?_)
    refine Z.put (ty := .int) (M' := M1) dX2_standAt_73 inX2 tyX2_ok nmX2 (hc := rfl) (cS hb) (c2 hb) 10 (by decide) kw132 rfl rfl (by decide +kernel) rfl rfl (Nat.le_of_ble_eq_true rfl) (by rw [← eM1, (c2 hb), sI_k]; exact congrArg (fun q => Sum.inr (2, q)) u2_standing) (by rw [← eM1]; exact sI_o) (by rw [← eM1]; exact (fun q => q)) ?_
    exact Z.vret rfl dX2_standAt_76 (retV H)
  · refine Z.aload_n dX2_standAt_27 0 rfl ?_
    refine Z.get dX2_standAt_28 inX2 (hc := rfl) (cS hb) (c2 hb) 8 (by decide) kw130 rfl rfl ?_
    refine Z.iload_n dX2_standAt_31 2 rfl ?_
    refine Z.aload_n dX2_standAt_32 0 rfl ?_
    refine Z.iload_n dX2_standAt_33 2 rfl ?_
    refine Z.iload_n dX2_standAt_34 1 rfl ?_
    refine bindC H (fun v2 hv2 H => ?_)
    refine Z.callV (As := [.int (x2), .int (x1)]) (rest := [.int (x2), .ref (eA E (b + 4))]) (st' := [.int (v2), .int (x2), .ref (eA E (b + 4))]) dX2_standAt_35 (kX2_cellOf hb (x2) (x1) M hv2) kw291 kw292 kw293 kw6 kw294 hdX2_cellOf (cS hb) (c2 hb) (hc := rfl) (by decide) (by decide) rfl rfl (Nat.le_of_ble_eq_true rfl) rfl ?_
    refine Z.iastH dX2_standAt_38 (a2_cells hb) H (fun M3 H => ?_)
    refine Z.aload_n dX2_standAt_39 0 rfl ?_
    refine Z.get dX2_standAt_40 inX2 (hc := rfl) (cS hb) (c2 hb) 8 (by decide) kw130 rfl rfl ?_
    refine Z.iload_n dX2_standAt_43 2 rfl ?_
    refine Z.ialdH dX2_standAt_44 (a2_cells hb) H (fun v4 H => ?_)
    refine Z.if_ltH dX2_standAt_45 H (fun br45 H => ?_) (fun br45 H => ?_)
    · refine Z.sub [0, 1, 2] rfl ?_
      exact tX2_standAt_65 hb (x1) (x2) M3 hk19 H
    · refine Z.aload_n dX2_standAt_48 0 rfl ?_
      refine Z.get dX2_standAt_49 inX2 (hc := rfl) (cS hb) (c2 hb) 9 (by decide) kw131 rfl rfl ?_
      refine Z.aload_n dX2_standAt_52 0 rfl ?_
      refine Z.get dX2_standAt_53 inX2 (hc := rfl) (cS hb) (c2 hb) 8 (by decide) kw130 rfl rfl ?_
      refine Z.iload_n dX2_standAt_56 2 rfl ?_
      refine Z.ialdH dX2_standAt_57 (a2_cells hb) H (fun v5 H => ?_)
      refine Z.dup2 dX2_standAt_58 rfl rfl ?_
      refine Z.ialdH dX2_standAt_59 (a2_crowd hb) H (fun v6 H => ?_)
      refine Z.iconst (v := 1) dX2_standAt_60 (by decide) ?_
      refine Z.iload_n dX2_standAt_61 2 rfl ?_
      refine Z.ishl dX2_standAt_62 ?_
      refine Z.ior dX2_standAt_63 ?_
      refine Z.iastH dX2_standAt_64 (a2_crowd hb) H (fun M7 H => ?_)
      refine Z.sub [0, 1, 2] rfl ?_
      exact tX2_standAt_65 hb (x1) (x2) M7 hk19 H
theorem tX2_standAt_19L {l : Launch} {E : Env5} {b : Nat} (hb : isSc b)   {M9 : Mem}  : ∀ (n : Nat) (x1 : Int32) (x2 : Int32) (M : Mem), fX2_standAt_19L  b n x1 x2 M = some M9 → Z l E RX2 cX2_standAt 3 none 2 19 [(0, .ref (eA E (b))), (1, .int (x1)), (2, .int (x2))] [] M (PR none M9) := by
  intro n
  induction n with
  | zero => intro x1 x2 M H; exact absurd H (by simp [fX2_standAt_19L])
  | succ n ih => intro x1 x2 M H; exact tX2_standAt_19 hb x1 x2 M  (fun x1 x2 M H => ih x1 x2 M H) H
set_option maxRecDepth 100000 in
theorem tX2_standAt_0 {l : Launch} {E : Env5} {b : Nat} (hb : isSc b)  (x1 : Int32) (M : Mem) {M9 : Mem}  (H : fX2_standAt  b x1 M = some M9) : Z l E RX2 cX2_standAt 3 none 2 0 [(0, .ref (eA E (b))), (1, .int (x1))] [] M (PR none M9) := by
  unfold fX2_standAt at H
  refine Z.iload_n dX2_standAt_0 1 rfl ?_
  refine Z.aload_n dX2_standAt_1 0 rfl ?_
  refine Z.get dX2_standAt_2 inX2 (hc := rfl) (cS hb) (c2 hb) 10 (by decide) kw132 rfl rfl ?_
  refine Z.icmp_neH dX2_standAt_5 H (fun br5 H => ?_) (fun br5 H => ?_)
  · refine Z.aload_n dX2_standAt_9 0 rfl ?_
    refine Z.get dX2_standAt_10 inX2 (hc := rfl) (cS hb) (c2 hb) 9 (by decide) kw131 rfl rfl ?_
    refine Z.iconst (v := 0) dX2_standAt_13 (by decide) ?_
    refine bindC H (fun v1 hv1 H => ?_)
    refine Z.callS (As := [.ref (eA E (b + 5)), .int (0)]) (rest := []) (st' := []) dX2_standAt_14 (kJ7_fill_53178 (a2_crowd hb) (0) M hv1) kw290 kw58 kw4 kw59 hdJ7_fill_53178 (by decide) (by decide) rfl rfl (Nat.le_of_ble_eq_true rfl) rfl ?_
    refine Z.iconst (v := 0) dX2_standAt_17 (by decide) ?_
    refine Z.istore_n (lv' := [(2, .int (0)), (0, .ref (eA E (b))), (1, .int (x1))]) dX2_standAt_18 (by decide) rfl ?_
    refine Z.sub [1, 2, 0] rfl ?_
    exact tX2_standAt_19L hb  FU (x1) (0) v1 H
  · exact Z.vret rfl dX2_standAt_8 (retV H)
theorem kX2_standAt {l : Launch} {E : Env5} {b : Nat} (hb : isSc b) (x1 : Int32) (M : Mem) {M9 : Mem} (H : fX2_standAt b x1 M = some M9) : Cn l E yX2_standAt cX2_standAt 3 none 2 [.ref (eA E (b)), .int (x1)] M (PR none M9) := Cn.ofZ rfl (Nat.le_of_ble_eq_true rfl) rfl (tX2_standAt_0 hb x1 M H)
theorem hdX2_standAt : yX2_standAt.cls ≠ "java/lang/invoke/MethodHandle" ∧ yX2_standAt.cls ≠ "java/lang/invoke/VarHandle" ∧ (parseMethodDescriptor yX2_standAt.desc).map (fun d => d.parameters.length) = some 1 := by decide +kernel

set_option maxRecDepth 100000 in
theorem tX2_peopleOn_0 {l : Launch} {E : Env5} {b : Nat} (hb : isSc b)  (x1 : Int32) (x2 : Int32) (x3 : Int32) (M : Mem) {v9 : Int32} {M9 : Mem}  (H : fX2_peopleOn  b x1 x2 x3 M = some (v9, M9)) : Z l E RX2 cX2_peopleOn 4 (some .int) 3 0 [(0, .ref (eA E (b))), (1, .int (x1)), (2, .int (x2)), (3, .int (x3))] [] M (PR (some (.int v9)) M9) := by
  unfold fX2_peopleOn at H
  refine Z.aload_n dX2_peopleOn_0 0 rfl ?_
  refine Z.iload_n dX2_peopleOn_1 3 rfl ?_
  refine bindC H (fun v1 hv1 H => ?_)
  refine Z.callV (As := [.int (x3)]) (rest := []) (st' := []) dX2_peopleOn_2 (kX2_standAt hb (x3) M hv1) kw286 kw288 ks6 kw6 kw289 hdX2_standAt (cS hb) (c2 hb) (hc := rfl) (by decide) (by decide) rfl rfl (Nat.le_of_ble_eq_true rfl) rfl ?_
  refine Z.aload_n dX2_peopleOn_5 0 rfl ?_
  refine Z.iload_n dX2_peopleOn_6 1 rfl ?_
  refine Z.iload_n dX2_peopleOn_7 2 rfl ?_
  refine bindC H (fun v2 hv2 H => ?_)
  refine Z.callV (As := [.int (x1), .int (x2)]) (rest := []) (st' := [.int (v2)]) dX2_peopleOn_8 (kX2_isCell hb (x1) (x2) v1 hv2) kw266 kw267 kw268 kw6 kw269 hdX2_isCell (cS hb) (c2 hb) (hc := rfl) (by decide) (by decide) rfl rfl (Nat.le_of_ble_eq_true rfl) rfl ?_
  refine Z.if_eqH dX2_peopleOn_11 H (fun br11 H => ?_) (fun br11 H => ?_)
  · refine Z.iconst (v := 0) dX2_peopleOn_30 (by decide) ?_
    exact Z.iret rfl dX2_peopleOn_31 (retW H)
  · refine Z.aload_n dX2_peopleOn_14 0 rfl ?_
    refine Z.get dX2_peopleOn_15 inX2 (hc := rfl) (cS hb) (c2 hb) 9 (by decide) kw131 rfl rfl ?_
    refine Z.aload_n dX2_peopleOn_18 0 rfl ?_
    refine Z.get dX2_peopleOn_19 inX2 (hc := rfl) (cS hb) (c2 hb) 3 (by decide) kw118 rfl rfl ?_
    refine Z.iload_n dX2_peopleOn_22 2 rfl ?_
    refine Z.imul dX2_peopleOn_23 ?_
    refine Z.iload_n dX2_peopleOn_24 1 rfl ?_
    refine Z.iadd dX2_peopleOn_25 ?_
    refine Z.ialdH dX2_peopleOn_26 (a2_crowd hb) H (fun v3 H => ?_)
    refine Z.goto dX2_peopleOn_27 ?_
    exact Z.iret rfl dX2_peopleOn_31 (retW H)
theorem kX2_peopleOn {l : Launch} {E : Env5} {b : Nat} (hb : isSc b) (x1 : Int32) (x2 : Int32) (x3 : Int32) (M : Mem) {v9 : Int32} {M9 : Mem} (H : fX2_peopleOn b x1 x2 x3 M = some (v9, M9)) : Cn l E yX2_peopleOn cX2_peopleOn 4 (some .int) 3 [.ref (eA E (b)), .int (x1), .int (x2), .int (x3)] M (PR (some (.int v9)) M9) := Cn.ofZ rfl (Nat.le_of_ble_eq_true rfl) rfl (tX2_peopleOn_0 hb x1 x2 x3 M H)
theorem hdX2_peopleOn : yX2_peopleOn.cls ≠ "java/lang/invoke/MethodHandle" ∧ yX2_peopleOn.cls ≠ "java/lang/invoke/VarHandle" ∧ (parseMethodDescriptor yX2_peopleOn.desc).map (fun d => d.parameters.length) = some 3 := by decide +kernel

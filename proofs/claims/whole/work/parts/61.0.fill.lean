theorem kfill (l : Launch) (E : Env5) (a : Nat) : KN l E yJ7_fill_53178 cJ7_fill_53178 4 0 0 0 [.ref a, .int 2] [(a, zI E 10)] (fun w => w = [(a, cIa E 10 (hatC 10))]) := by
  refine KN.ofZN (lv := [(0, .ref a), (1, .int 2)]) (by decide) (Nat.le_of_ble_eq_true rfl) rfl ?_
  refine ZN.iconst (v := 0) dJ7_fill_53178_0 (by decide) ?_
  refine ZN.istore (lv' := [(2, .int 0), (0, .ref a), (1, .int 2)]) dJ7_fill_53178_1 (by decide) rfl ?_
  refine ZN.aload dJ7_fill_53178_2 1 rfl ?_
  refine ZN.alen (N := 10) (v := 10) dJ7_fill_53178_3 0 rfl (by decide) ?_
  refine ZN.istore (lv' := [(3, .int 10), (2, .int 0), (0, .ref a), (1, .int 2)]) dJ7_fill_53178_4 (by decide) rfl ?_
  refine ZN.iload dJ7_fill_53178_5 1 rfl ?_
  refine ZN.iload dJ7_fill_53178_6 0 rfl ?_
  refine ZN.geF dJ7_fill_53178_7 (by decide) ?_
  refine ZN.aload dJ7_fill_53178_10 2 rfl ?_
  refine ZN.iload dJ7_fill_53178_11 1 rfl ?_
  refine ZN.iload dJ7_fill_53178_12 3 rfl ?_
  refine ZN.iast (N := 10) (f := (fun _ => 0)) (j := 0) (ws' := [(a, cIa E 10 (hatC 1))]) dJ7_fill_53178_13 0 rfl (by unfold vp_in; decide) (by decide) rfl ?_
  refine ZN.iinc (v := 1) (lv' := [(2, .int 1), (3, .int 10), (0, .ref a), (1, .int 2)]) dJ7_fill_53178_14 1 rfl (by decide) (by decide) rfl ?_
  refine ZN.goto dJ7_fill_53178_17 ?_
  refine ZN.iload dJ7_fill_53178_5 0 rfl ?_
  refine ZN.iload dJ7_fill_53178_6 1 rfl ?_
  refine ZN.geF dJ7_fill_53178_7 (by decide) ?_
  refine ZN.aload dJ7_fill_53178_10 2 rfl ?_
  refine ZN.iload dJ7_fill_53178_11 0 rfl ?_
  refine ZN.iload dJ7_fill_53178_12 3 rfl ?_
  refine ZN.iast (N := 10) (f := (hatC 1)) (j := 1) (ws' := [(a, cIa E 10 (hatC 2))]) dJ7_fill_53178_13 0 rfl (by unfold vp_in; decide) (by decide) rfl ?_
  refine ZN.iinc (v := 2) (lv' := [(2, .int 2), (3, .int 10), (0, .ref a), (1, .int 2)]) dJ7_fill_53178_14 0 rfl (by decide) (by decide) rfl ?_
  refine ZN.goto dJ7_fill_53178_17 ?_
  refine ZN.iload dJ7_fill_53178_5 0 rfl ?_
  refine ZN.iload dJ7_fill_53178_6 1 rfl ?_
  refine ZN.geF dJ7_fill_53178_7 (by decide) ?_
  refine ZN.aload dJ7_fill_53178_10 2 rfl ?_
  refine ZN.iload dJ7_fill_53178_11 0 rfl ?_
  refine ZN.iload dJ7_fill_53178_12 3 rfl ?_
  refine ZN.iast (N := 10) (f := (hatC 2)) (j := 2) (ws' := [(a, cIa E 10 (hatC 3))]) dJ7_fill_53178_13 0 rfl (by unfold vp_in; decide) (by decide) rfl ?_
  refine ZN.iinc (v := 3) (lv' := [(2, .int 3), (3, .int 10), (0, .ref a), (1, .int 2)]) dJ7_fill_53178_14 0 rfl (by decide) (by decide) rfl ?_
  refine ZN.goto dJ7_fill_53178_17 ?_
  refine ZN.iload dJ7_fill_53178_5 0 rfl ?_
  refine ZN.iload dJ7_fill_53178_6 1 rfl ?_
  refine ZN.geF dJ7_fill_53178_7 (by decide) ?_
  refine ZN.aload dJ7_fill_53178_10 2 rfl ?_
  refine ZN.iload dJ7_fill_53178_11 0 rfl ?_
  refine ZN.iload dJ7_fill_53178_12 3 rfl ?_
  refine ZN.iast (N := 10) (f := (hatC 3)) (j := 3) (ws' := [(a, cIa E 10 (hatC 4))]) dJ7_fill_53178_13 0 rfl (by unfold vp_in; decide) (by decide) rfl ?_
  refine ZN.iinc (v := 4) (lv' := [(2, .int 4), (3, .int 10), (0, .ref a), (1, .int 2)]) dJ7_fill_53178_14 0 rfl (by decide) (by decide) rfl ?_
  refine ZN.goto dJ7_fill_53178_17 ?_
  refine ZN.iload dJ7_fill_53178_5 0 rfl ?_
  refine ZN.iload dJ7_fill_53178_6 1 rfl ?_
  refine ZN.geF dJ7_fill_53178_7 (by decide) ?_
  refine ZN.aload dJ7_fill_53178_10 2 rfl ?_
  refine ZN.iload dJ7_fill_53178_11 0 rfl ?_
  refine ZN.iload dJ7_fill_53178_12 3 rfl ?_
  refine ZN.iast (N := 10) (f := (hatC 4)) (j := 4) (ws' := [(a, cIa E 10 (hatC 5))]) dJ7_fill_53178_13 0 rfl (by unfold vp_in; decide) (by decide) rfl ?_
  refine ZN.iinc (v := 5) (lv' := [(2, .int 5), (3, .int 10), (0, .ref a), (1, .int 2)]) dJ7_fill_53178_14 0 rfl (by decide) (by decide) rfl ?_
  refine ZN.goto dJ7_fill_53178_17 ?_
  refine ZN.iload dJ7_fill_53178_5 0 rfl ?_
  refine ZN.iload dJ7_fill_53178_6 1 rfl ?_
  refine ZN.geF dJ7_fill_53178_7 (by decide) ?_
  refine ZN.aload dJ7_fill_53178_10 2 rfl ?_
  refine ZN.iload dJ7_fill_53178_11 0 rfl ?_
  refine ZN.iload dJ7_fill_53178_12 3 rfl ?_
  refine ZN.iast (N := 10) (f := (hatC 5)) (j := 5) (ws' := [(a, cIa E 10 (hatC 6))]) dJ7_fill_53178_13 0 rfl (by unfold vp_in; decide) (by decide) rfl ?_
  refine ZN.iinc (v := 6) (lv' := [(2, .int 6), (3, .int 10), (0, .ref a), (1, .int 2)]) dJ7_fill_53178_14 0 rfl (by decide) (by decide) rfl ?_
  refine ZN.goto dJ7_fill_53178_17 ?_
  refine ZN.iload dJ7_fill_53178_5 0 rfl ?_
  refine ZN.iload dJ7_fill_53178_6 1 rfl ?_
  refine ZN.geF dJ7_fill_53178_7 (by decide) ?_
  refine ZN.aload dJ7_fill_53178_10 2 rfl ?_
  refine ZN.iload dJ7_fill_53178_11 0 rfl ?_
  refine ZN.iload dJ7_fill_53178_12 3 rfl ?_
  refine ZN.iast (N := 10) (f := (hatC 6)) (j := 6) (ws' := [(a, cIa E 10 (hatC 7))]) dJ7_fill_53178_13 0 rfl (by unfold vp_in; decide) (by decide) rfl ?_
  refine ZN.iinc (v := 7) (lv' := [(2, .int 7), (3, .int 10), (0, .ref a), (1, .int 2)]) dJ7_fill_53178_14 0 rfl (by decide) (by decide) rfl ?_
  refine ZN.goto dJ7_fill_53178_17 ?_
  refine ZN.iload dJ7_fill_53178_5 0 rfl ?_
  refine ZN.iload dJ7_fill_53178_6 1 rfl ?_
  refine ZN.geF dJ7_fill_53178_7 (by decide) ?_
  refine ZN.aload dJ7_fill_53178_10 2 rfl ?_
  refine ZN.iload dJ7_fill_53178_11 0 rfl ?_
  refine ZN.iload dJ7_fill_53178_12 3 rfl ?_
  refine ZN.iast (N := 10) (f := (hatC 7)) (j := 7) (ws' := [(a, cIa E 10 (hatC 8))]) dJ7_fill_53178_13 0 rfl (by unfold vp_in; decide) (by decide) rfl ?_
  refine ZN.iinc (v := 8) (lv' := [(2, .int 8), (3, .int 10), (0, .ref a), (1, .int 2)]) dJ7_fill_53178_14 0 rfl (by decide) (by decide) rfl ?_
  refine ZN.goto dJ7_fill_53178_17 ?_
  refine ZN.iload dJ7_fill_53178_5 0 rfl ?_
  refine ZN.iload dJ7_fill_53178_6 1 rfl ?_
  refine ZN.geF dJ7_fill_53178_7 (by decide) ?_
  refine ZN.aload dJ7_fill_53178_10 2 rfl ?_
  refine ZN.iload dJ7_fill_53178_11 0 rfl ?_
  refine ZN.iload dJ7_fill_53178_12 3 rfl ?_
  refine ZN.iast (N := 10) (f := (hatC 8)) (j := 8) (ws' := [(a, cIa E 10 (hatC 9))]) dJ7_fill_53178_13 0 rfl (by unfold vp_in; decide) (by decide) rfl ?_
  refine ZN.iinc (v := 9) (lv' := [(2, .int 9), (3, .int 10), (0, .ref a), (1, .int 2)]) dJ7_fill_53178_14 0 rfl (by decide) (by decide) rfl ?_
  refine ZN.goto dJ7_fill_53178_17 ?_
  refine ZN.iload dJ7_fill_53178_5 0 rfl ?_
  refine ZN.iload dJ7_fill_53178_6 1 rfl ?_
  refine ZN.geF dJ7_fill_53178_7 (by decide) ?_
  refine ZN.aload dJ7_fill_53178_10 2 rfl ?_
  refine ZN.iload dJ7_fill_53178_11 0 rfl ?_
  refine ZN.iload dJ7_fill_53178_12 3 rfl ?_
  refine ZN.iast (N := 10) (f := (hatC 9)) (j := 9) (ws' := [(a, cIa E 10 (hatC 10))]) dJ7_fill_53178_13 0 rfl (by unfold vp_in; decide) (by decide) rfl ?_
  refine ZN.iinc (v := 10) (lv' := [(2, .int 10), (3, .int 10), (0, .ref a), (1, .int 2)]) dJ7_fill_53178_14 0 rfl (by decide) (by decide) rfl ?_
  refine ZN.goto dJ7_fill_53178_17 ?_
  refine ZN.iload dJ7_fill_53178_5 0 rfl ?_
  refine ZN.iload dJ7_fill_53178_6 1 rfl ?_
  refine ZN.geT dJ7_fill_53178_7 (by decide) ?_
  exact ZN.vret dJ7_fill_53178_20 (by decide) (by decide) rfl

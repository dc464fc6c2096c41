abbrev scW (E : Env5) (b : Nat) (u : Nat → Nat) : va_W := [(b, .inr (2, [.ref (u 1), .ref (u 2), .ref (u 3), .int 8, .int 8, .int 0, .int 0, .int 0, .ref (u 4), .ref (u 5), .int (-9), .ref (u 6), .ref (u 7), .ref (u 8)])), ((u 1), zZ E 144), ((u 2), zI E 48), ((u 3), zI E 50), ((u 4), zI E 8), ((u 5), zI E 144), ((u 6), zI E 10), ((u 7), zI E 10), ((u 8), zJ E 10)]
set_option maxRecDepth 20000 in
set_option maxHeartbeats 4000000 in
theorem kX2_init (l : Launch) (E : Env5) (b : Nat) : KN l E yX2_init cX2_init 1 1 8 424 [.ref b] [(b, .inr (2, [.null, .null, .null, .int 0, .int 0, .int 0, .int 0, .int 0, .null, .null, .int 0, .null, .null, .null]))] (fun w => ∃ u : Nat → Nat, w = scW E b u) := by
  refine KN.ofZN (lv := [(0, .ref b)]) (by decide) (Nat.le_of_ble_eq_true rfl) rfl ?_
  refine ZN.aload dX2_init_0 0 rfl ?_
  refine ZN.obj dX2_init_1 kw114 kw18 kw19 (by decide) ?_
  refine ZN.aload dX2_init_4 0 rfl ?_
  refine ZN.sipush (v := 144) dX2_init_5 (by decide) ?_
  refine ZN.newa (N := 144) (a0 := (144, .inl (fun _ => 0))) 3 dX2_init_8 kw108 rfl rfl (fun _ => rfl) (by decide) (by decide) (by decide) (by decide) (by decide) (fun q8 => ?_)
  refine ZN.putF (ws' := [(b, .inr (2, [.ref q8, .null, .null, .int 0, .int 0, .int 0, .int 0, .int 0, .null, .null, .int 0, .null, .null, .null])), (q8, zZ E 144)]) dX2_init_10 inX2 tyX2_ok nmX2 rfl 0 rfl 0 (by decide) kw115 rfl rfl rfl rfl (tyX2_ok 0 (by decide)) rfl rfl (Nat.le_of_ble_eq_true rfl) rfl ?_
  refine ZN.aload dX2_init_13 0 rfl ?_
  refine ZN.bipush (v := 48) dX2_init_14 (by decide) ?_
  refine ZN.newa (N := 48) (a0 := (48, .inl (fun _ => 0))) 1 dX2_init_16 kw50 rfl rfl (fun _ => rfl) (by decide) (by decide) (by decide) (by decide) (by decide) (fun q16 => ?_)
  refine ZN.putF (ws' := [(b, .inr (2, [.ref q8, .ref q16, .null, .int 0, .int 0, .int 0, .int 0, .int 0, .null, .null, .int 0, .null, .null, .null])), (q8, zZ E 144), (q16, zI E 48)]) dX2_init_18 inX2 tyX2_ok nmX2 rfl 0 rfl 1 (by decide) kw116 rfl rfl rfl rfl (tyX2_ok 1 (by decide)) rfl rfl (Nat.le_of_ble_eq_true rfl) rfl ?_
  refine ZN.aload dX2_init_21 0 rfl ?_
  refine ZN.bipush (v := 50) dX2_init_22 (by decide) ?_
  refine ZN.newa (N := 50) (a0 := (50, .inl (fun _ => 0))) 1 dX2_init_24 kw50 rfl rfl (fun _ => rfl) (by decide) (by decide) (by decide) (by decide) (by decide) (fun q24 => ?_)
  refine ZN.putF (ws' := [(b, .inr (2, [.ref q8, .ref q16, .ref q24, .int 0, .int 0, .int 0, .int 0, .int 0, .null, .null, .int 0, .null, .null, .null])), (q8, zZ E 144), (q16, zI E 48), (q24, zI E 50)]) dX2_init_26 inX2 tyX2_ok nmX2 rfl 0 rfl 2 (by decide) kw117 rfl rfl rfl rfl (tyX2_ok 2 (by decide)) rfl rfl (Nat.le_of_ble_eq_true rfl) rfl ?_
  refine ZN.aload dX2_init_29 0 rfl ?_
  refine ZN.bipush (v := 8) dX2_init_30 (by decide) ?_
  refine ZN.put (ws' := [(b, .inr (2, [.ref q8, .ref q16, .ref q24, .int 8, .int 0, .int 0, .int 0, .int 0, .null, .null, .int 0, .null, .null, .null])), (q8, zZ E 144), (q16, zI E 48), (q24, zI E 50)]) dX2_init_32 inX2 tyX2_ok nmX2 rfl 0 rfl 3 (by decide) kw118 rfl rfl (tyX2_ok 3 (by decide)) rfl rfl (Nat.le_of_ble_eq_true rfl) rfl ?_
  refine ZN.aload dX2_init_35 0 rfl ?_
  refine ZN.bipush (v := 8) dX2_init_36 (by decide) ?_
  refine ZN.put (ws' := [(b, .inr (2, [.ref q8, .ref q16, .ref q24, .int 8, .int 8, .int 0, .int 0, .int 0, .null, .null, .int 0, .null, .null, .null])), (q8, zZ E 144), (q16, zI E 48), (q24, zI E 50)]) dX2_init_38 inX2 tyX2_ok nmX2 rfl 0 rfl 4 (by decide) kw121 rfl rfl (tyX2_ok 4 (by decide)) rfl rfl (Nat.le_of_ble_eq_true rfl) rfl ?_
  refine ZN.aload dX2_init_41 0 rfl ?_
  refine ZN.iconst (v := 0) dX2_init_42 (by decide) ?_
  refine ZN.put (ws' := [(b, .inr (2, [.ref q8, .ref q16, .ref q24, .int 8, .int 8, .int 0, .int 0, .int 0, .null, .null, .int 0, .null, .null, .null])), (q8, zZ E 144), (q16, zI E 48), (q24, zI E 50)]) dX2_init_43 inX2 tyX2_ok nmX2 rfl 0 rfl 5 (by decide) kw124 rfl rfl (tyX2_ok 5 (by decide)) rfl rfl (Nat.le_of_ble_eq_true rfl) rfl ?_
  refine ZN.aload dX2_init_46 0 rfl ?_
  refine ZN.iconst (v := 0) dX2_init_47 (by decide) ?_
  refine ZN.put (ws' := [(b, .inr (2, [.ref q8, .ref q16, .ref q24, .int 8, .int 8, .int 0, .int 0, .int 0, .null, .null, .int 0, .null, .null, .null])), (q8, zZ E 144), (q16, zI E 48), (q24, zI E 50)]) dX2_init_48 inX2 tyX2_ok nmX2 rfl 0 rfl 6 (by decide) kw126 rfl rfl (tyX2_ok 6 (by decide)) rfl rfl (Nat.le_of_ble_eq_true rfl) rfl ?_
  refine ZN.aload dX2_init_51 0 rfl ?_
  refine ZN.iconst (v := 0) dX2_init_52 (by decide) ?_
  refine ZN.put (ws' := [(b, .inr (2, [.ref q8, .ref q16, .ref q24, .int 8, .int 8, .int 0, .int 0, .int 0, .null, .null, .int 0, .null, .null, .null])), (q8, zZ E 144), (q16, zI E 48), (q24, zI E 50)]) dX2_init_53 inX2 tyX2_ok nmX2 rfl 0 rfl 7 (by decide) kw128 rfl rfl (tyX2_ok 7 (by decide)) rfl rfl (Nat.le_of_ble_eq_true rfl) rfl ?_
  refine ZN.aload dX2_init_56 0 rfl ?_
  refine ZN.bipush (v := 8) dX2_init_57 (by decide) ?_
  refine ZN.newa (N := 8) (a0 := (8, .inl (fun _ => 0))) 1 dX2_init_59 kw50 rfl rfl (fun _ => rfl) (by decide) (by decide) (by decide) (by decide) (by decide) (fun q59 => ?_)
  refine ZN.putF (ws' := [(b, .inr (2, [.ref q8, .ref q16, .ref q24, .int 8, .int 8, .int 0, .int 0, .int 0, .ref q59, .null, .int 0, .null, .null, .null])), (q8, zZ E 144), (q16, zI E 48), (q24, zI E 50), (q59, zI E 8)]) dX2_init_61 inX2 tyX2_ok nmX2 rfl 0 rfl 8 (by decide) kw130 rfl rfl rfl rfl (tyX2_ok 8 (by decide)) rfl rfl (Nat.le_of_ble_eq_true rfl) rfl ?_
  refine ZN.aload dX2_init_64 0 rfl ?_
  refine ZN.sipush (v := 144) dX2_init_65 (by decide) ?_
  refine ZN.newa (N := 144) (a0 := (144, .inl (fun _ => 0))) 1 dX2_init_68 kw50 rfl rfl (fun _ => rfl) (by decide) (by decide) (by decide) (by decide) (by decide) (fun q68 => ?_)
  refine ZN.putF (ws' := [(b, .inr (2, [.ref q8, .ref q16, .ref q24, .int 8, .int 8, .int 0, .int 0, .int 0, .ref q59, .ref q68, .int 0, .null, .null, .null])), (q8, zZ E 144), (q16, zI E 48), (q24, zI E 50), (q59, zI E 8), (q68, zI E 144)]) dX2_init_70 inX2 tyX2_ok nmX2 rfl 0 rfl 9 (by decide) kw131 rfl rfl rfl rfl (tyX2_ok 9 (by decide)) rfl rfl (Nat.le_of_ble_eq_true rfl) rfl ?_
  refine ZN.aload dX2_init_73 0 rfl ?_
  refine ZN.bipush (v := -9) dX2_init_74 (by decide) ?_
  refine ZN.put (ws' := [(b, .inr (2, [.ref q8, .ref q16, .ref q24, .int 8, .int 8, .int 0, .int 0, .int 0, .ref q59, .ref q68, .int (-9), .null, .null, .null])), (q8, zZ E 144), (q16, zI E 48), (q24, zI E 50), (q59, zI E 8), (q68, zI E 144)]) dX2_init_76 inX2 tyX2_ok nmX2 rfl 0 rfl 10 (by decide) kw132 rfl rfl (tyX2_ok 10 (by decide)) rfl rfl (Nat.le_of_ble_eq_true rfl) rfl ?_
  refine ZN.aload dX2_init_79 0 rfl ?_
  refine ZN.bipush (v := 10) dX2_init_80 (by decide) ?_
  refine ZN.newa (N := 10) (a0 := (10, .inl (fun _ => 0))) 1 dX2_init_82 kw50 rfl rfl (fun _ => rfl) (by decide) (by decide) (by decide) (by decide) (by decide) (fun q82 => ?_)
  refine ZN.putF (ws' := [(b, .inr (2, [.ref q8, .ref q16, .ref q24, .int 8, .int 8, .int 0, .int 0, .int 0, .ref q59, .ref q68, .int (-9), .ref q82, .null, .null])), (q8, zZ E 144), (q16, zI E 48), (q24, zI E 50), (q59, zI E 8), (q68, zI E 144), (q82, zI E 10)]) dX2_init_84 inX2 tyX2_ok nmX2 rfl 0 rfl 11 (by decide) kw133 rfl rfl rfl rfl (tyX2_ok 11 (by decide)) rfl rfl (Nat.le_of_ble_eq_true rfl) rfl ?_
  refine ZN.aload dX2_init_87 0 rfl ?_
  refine ZN.bipush (v := 10) dX2_init_88 (by decide) ?_
  refine ZN.newa (N := 10) (a0 := (10, .inl (fun _ => 0))) 1 dX2_init_90 kw50 rfl rfl (fun _ => rfl) (by decide) (by decide) (by decide) (by decide) (by decide) (fun q90 => ?_)
  refine ZN.putF (ws' := [(b, .inr (2, [.ref q8, .ref q16, .ref q24, .int 8, .int 8, .int 0, .int 0, .int 0, .ref q59, .ref q68, .int (-9), .ref q82, .ref q90, .null])), (q8, zZ E 144), (q16, zI E 48), (q24, zI E 50), (q59, zI E 8), (q68, zI E 144), (q82, zI E 10), (q90, zI E 10)]) dX2_init_92 inX2 tyX2_ok nmX2 rfl 0 rfl 12 (by decide) kw135 rfl rfl rfl rfl (tyX2_ok 12 (by decide)) rfl rfl (Nat.le_of_ble_eq_true rfl) rfl ?_
  refine ZN.aload dX2_init_95 0 rfl ?_
  refine ZN.bipush (v := 10) dX2_init_96 (by decide) ?_
  refine ZN.newa (N := 10) (a0 := (10, .inr (.inl (fun _ => 0)))) 2 dX2_init_98 kw166 rfl rfl (fun _ => rfl) (by decide) (by decide) (by decide) (by decide) (by decide) (fun q98 => ?_)
  refine ZN.putF (ws' := [(b, .inr (2, [.ref q8, .ref q16, .ref q24, .int 8, .int 8, .int 0, .int 0, .int 0, .ref q59, .ref q68, .int (-9), .ref q82, .ref q90, .ref q98])), (q8, zZ E 144), (q16, zI E 48), (q24, zI E 50), (q59, zI E 8), (q68, zI E 144), (q82, zI E 10), (q90, zI E 10), (q98, zJ E 10)]) dX2_init_100 inX2 tyX2_ok nmX2 rfl 0 rfl 13 (by decide) kw136 rfl rfl rfl rfl (tyX2_ok 13 (by decide)) rfl rfl (Nat.le_of_ble_eq_true rfl) rfl ?_
  exact ZN.vret dX2_init_103 (by decide) (by decide) ⟨lu [b, q8, q16, q24, q59, q68, q82, q90, q98], rfl⟩

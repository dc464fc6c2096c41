abbrev rdW (E : Env5) (b : Nat) (u : Nat → Nat) : va_W := [(b, .inr (3, [.ref (u 1), .ref (u 2), .int 0, .int 0, .int 10, .int 0, .int 0])), ((u 1), zB E 400), ((u 2), zI E 6)]
set_option maxRecDepth 20000 in
set_option maxHeartbeats 4000000 in
theorem kX3_init (l : Launch) (E : Env5) (b : Nat) : KN l E yX3_init cX3_init 1 1 2 406 [.ref b] [(b, .inr (3, [.null, .null, .int 0, .int 0, .int 0, .int 0, .int 0]))] (fun w => ∃ u : Nat → Nat, w = rdW E b u) := by
  refine KN.ofZN (lv := [(0, .ref b)]) (by decide) (Nat.le_of_ble_eq_true rfl) rfl ?_
  refine ZN.aload dX3_init_0 0 rfl ?_
  refine ZN.obj dX3_init_1 kw25 kw18 kw19 (by decide) ?_
  refine ZN.aload dX3_init_4 0 rfl ?_
  refine ZN.sipush (v := 400) dX3_init_5 (by decide) ?_
  refine ZN.newa (N := 400) (a0 := (400, .inl (fun _ => 0))) 0 dX3_init_8 kw49 rfl rfl (fun _ => rfl) (by decide) (by decide) (by decide) (by decide) (by decide) (fun q8 => ?_)
  refine ZN.putF (ws' := [(b, .inr (3, [.ref q8, .null, .int 0, .int 0, .int 0, .int 0, .int 0])), (q8, zB E 400)]) dX3_init_10 inX3 tyX3_ok nmX3 rfl 0 rfl 0 (by decide) kw26 rfl rfl rfl rfl (tyX3_ok 0 (by decide)) rfl rfl (Nat.le_of_ble_eq_true rfl) rfl ?_
  refine ZN.aload dX3_init_13 0 rfl ?_
  refine ZN.bipush (v := 6) dX3_init_14 (by decide) ?_
  refine ZN.newa (N := 6) (a0 := (6, .inl (fun _ => 0))) 1 dX3_init_16 kw50 rfl rfl (fun _ => rfl) (by decide) (by decide) (by decide) (by decide) (by decide) (fun q16 => ?_)
  refine ZN.putF (ws' := [(b, .inr (3, [.ref q8, .ref q16, .int 0, .int 0, .int 0, .int 0, .int 0])), (q8, zB E 400), (q16, zI E 6)]) dX3_init_18 inX3 tyX3_ok nmX3 rfl 0 rfl 1 (by decide) kw27 rfl rfl rfl rfl (tyX3_ok 1 (by decide)) rfl rfl (Nat.le_of_ble_eq_true rfl) rfl ?_
  refine ZN.aload dX3_init_21 0 rfl ?_
  refine ZN.iconst (v := 0) dX3_init_22 (by decide) ?_
  refine ZN.put (ws' := [(b, .inr (3, [.ref q8, .ref q16, .int 0, .int 0, .int 0, .int 0, .int 0])), (q8, zB E 400), (q16, zI E 6)]) dX3_init_23 inX3 tyX3_ok nmX3 rfl 0 rfl 2 (by decide) kw28 rfl rfl (tyX3_ok 2 (by decide)) rfl rfl (Nat.le_of_ble_eq_true rfl) rfl ?_
  refine ZN.aload dX3_init_26 0 rfl ?_
  refine ZN.iconst (v := 0) dX3_init_27 (by decide) ?_
  refine ZN.put (ws' := [(b, .inr (3, [.ref q8, .ref q16, .int 0, .int 0, .int 0, .int 0, .int 0])), (q8, zB E 400), (q16, zI E 6)]) dX3_init_28 inX3 tyX3_ok nmX3 rfl 0 rfl 3 (by decide) kw30 rfl rfl (tyX3_ok 3 (by decide)) rfl rfl (Nat.le_of_ble_eq_true rfl) rfl ?_
  refine ZN.aload dX3_init_31 0 rfl ?_
  refine ZN.bipush (v := 10) dX3_init_32 (by decide) ?_
  refine ZN.put (ws' := [(b, .inr (3, [.ref q8, .ref q16, .int 0, .int 0, .int 10, .int 0, .int 0])), (q8, zB E 400), (q16, zI E 6)]) dX3_init_34 inX3 tyX3_ok nmX3 rfl 0 rfl 4 (by decide) kw31 rfl rfl (tyX3_ok 4 (by decide)) rfl rfl (Nat.le_of_ble_eq_true rfl) rfl ?_
  refine ZN.aload dX3_init_37 0 rfl ?_
  refine ZN.iconst (v := 0) dX3_init_38 (by decide) ?_
  refine ZN.put (ws' := [(b, .inr (3, [.ref q8, .ref q16, .int 0, .int 0, .int 10, .int 0, .int 0])), (q8, zB E 400), (q16, zI E 6)]) dX3_init_39 inX3 tyX3_ok nmX3 rfl 0 rfl 5 (by decide) kw32 rfl rfl (tyX3_ok 5 (by decide)) rfl rfl (Nat.le_of_ble_eq_true rfl) rfl ?_
  refine ZN.aload dX3_init_42 0 rfl ?_
  refine ZN.iconst (v := 0) dX3_init_43 (by decide) ?_
  refine ZN.put (ws' := [(b, .inr (3, [.ref q8, .ref q16, .int 0, .int 0, .int 10, .int 0, .int 0])), (q8, zB E 400), (q16, zI E 6)]) dX3_init_44 inX3 tyX3_ok nmX3 rfl 0 rfl 6 (by decide) kw33 rfl rfl (tyX3_ok 6 (by decide)) rfl rfl (Nat.le_of_ble_eq_true rfl) rfl ?_
  exact ZN.vret dX3_init_47 (by decide) (by decide) ⟨lu [b, q8, q16], rfl⟩

abbrev clW (E : Env5) (b : Nat) (u : Nat → Nat) : va_W := [(b, .inr (0, [.ref (u 1), .ref (u 2), .int 0, .int 0, .int 0])), ((u 1), zI E 648), ((u 2), zI E 4)]
set_option maxRecDepth 20000 in
set_option maxHeartbeats 4000000 in
theorem kX0_init (l : Launch) (E : Env5) (b : Nat) : KN l E yX0_init cX0_init 1 1 2 652 [.ref b] [(b, .inr (0, [.null, .null, .int 0, .int 0, .int 0]))] (fun w => ∃ u : Nat → Nat, w = clW E b u) := by
  refine KN.ofZN (lv := [(0, .ref b)]) (by decide) (Nat.le_of_ble_eq_true rfl) rfl ?_
  refine ZN.aload dX0_init_0 0 rfl ?_
  refine ZN.obj dX0_init_1 kw89 kw18 kw19 (by decide) ?_
  refine ZN.aload dX0_init_4 0 rfl ?_
  refine ZN.sipush (v := 648) dX0_init_5 (by decide) ?_
  refine ZN.newa (N := 648) (a0 := (648, .inl (fun _ => 0))) 1 dX0_init_8 kw50 rfl rfl (fun _ => rfl) (by decide) (by decide) (by decide) (by decide) (by decide) (fun q8 => ?_)
  refine ZN.putF (ws' := [(b, .inr (0, [.ref q8, .null, .int 0, .int 0, .int 0])), (q8, zI E 648)]) dX0_init_10 inX0 tyX0_ok nmX0 rfl 0 rfl 0 (by decide) kw90 rfl rfl rfl rfl (tyX0_ok 0 (by decide)) rfl rfl (Nat.le_of_ble_eq_true rfl) rfl ?_
  refine ZN.aload dX0_init_13 0 rfl ?_
  refine ZN.iconst (v := 4) dX0_init_14 (by decide) ?_
  refine ZN.newa (N := 4) (a0 := (4, .inl (fun _ => 0))) 1 dX0_init_15 kw50 rfl rfl (fun _ => rfl) (by decide) (by decide) (by decide) (by decide) (by decide) (fun q15 => ?_)
  refine ZN.putF (ws' := [(b, .inr (0, [.ref q8, .ref q15, .int 0, .int 0, .int 0])), (q8, zI E 648), (q15, zI E 4)]) dX0_init_17 inX0 tyX0_ok nmX0 rfl 0 rfl 1 (by decide) kw91 rfl rfl rfl rfl (tyX0_ok 1 (by decide)) rfl rfl (Nat.le_of_ble_eq_true rfl) rfl ?_
  refine ZN.aload dX0_init_20 0 rfl ?_
  refine ZN.iconst (v := 0) dX0_init_21 (by decide) ?_
  refine ZN.put (ws' := [(b, .inr (0, [.ref q8, .ref q15, .int 0, .int 0, .int 0])), (q8, zI E 648), (q15, zI E 4)]) dX0_init_22 inX0 tyX0_ok nmX0 rfl 0 rfl 2 (by decide) kw93 rfl rfl (tyX0_ok 2 (by decide)) rfl rfl (Nat.le_of_ble_eq_true rfl) rfl ?_
  refine ZN.aload dX0_init_25 0 rfl ?_
  refine ZN.iconst (v := 0) dX0_init_26 (by decide) ?_
  refine ZN.put (ws' := [(b, .inr (0, [.ref q8, .ref q15, .int 0, .int 0, .int 0])), (q8, zI E 648), (q15, zI E 4)]) dX0_init_27 inX0 tyX0_ok nmX0 rfl 0 rfl 3 (by decide) kw94 rfl rfl (tyX0_ok 3 (by decide)) rfl rfl (Nat.le_of_ble_eq_true rfl) rfl ?_
  refine ZN.aload dX0_init_30 0 rfl ?_
  refine ZN.iconst (v := 0) dX0_init_31 (by decide) ?_
  refine ZN.put (ws' := [(b, .inr (0, [.ref q8, .ref q15, .int 0, .int 0, .int 0])), (q8, zI E 648), (q15, zI E 4)]) dX0_init_32 inX0 tyX0_ok nmX0 rfl 0 rfl 4 (by decide) kw95 rfl rfl (tyX0_ok 4 (by decide)) rfl rfl (Nat.le_of_ble_eq_true rfl) rfl ?_
  exact ZN.vret dX0_init_35 (by decide) (by decide) ⟨lu [b, q8, q15], rfl⟩

abbrev ntW (E : Env5) (b : Nat) (u : Nat → Nat) : va_W := [(b, .inr (1, [.ref (u 1), .ref (u 2), .ref (u 3), .ref (u 4), .int 0, .int 0])), ((u 1), zI E 80), ((u 2), zI E 32), ((u 3), cIa E 10 (hatC 10)), ((u 4), zI E 8)]
set_option maxRecDepth 20000 in
set_option maxHeartbeats 4000000 in
theorem kX1_init (l : Launch) (E : Env5) (b : Nat) : KN l E yX1_init cX1_init 1 1 4 130 [.ref b] [(b, .inr (1, [.null, .null, .null, .null, .int 0, .int 0]))] (fun w => ∃ u : Nat → Nat, w = ntW E b u) := by
  refine KN.ofZN (lv := [(0, .ref b)]) (by decide) (Nat.le_of_ble_eq_true rfl) rfl ?_
  refine ZN.aload dX1_init_0 0 rfl ?_
  refine ZN.obj dX1_init_1 kw56 kw18 kw19 (by decide) ?_
  refine ZN.aload dX1_init_4 0 rfl ?_
  refine ZN.bipush (v := 80) dX1_init_5 (by decide) ?_
  refine ZN.newa (N := 80) (a0 := (80, .inl (fun _ => 0))) 1 dX1_init_7 kw50 rfl rfl (fun _ => rfl) (by decide) (by decide) (by decide) (by decide) (by decide) (fun q7 => ?_)
  refine ZN.putF (ws' := [(b, .inr (1, [.ref q7, .null, .null, .null, .int 0, .int 0])), (q7, zI E 80)]) dX1_init_9 inX1 tyX1_ok nmX1 rfl 0 rfl 0 (by decide) kw60 rfl rfl rfl rfl (tyX1_ok 0 (by decide)) rfl rfl (Nat.le_of_ble_eq_true rfl) rfl ?_
  refine ZN.aload dX1_init_12 0 rfl ?_
  refine ZN.bipush (v := 32) dX1_init_13 (by decide) ?_
  refine ZN.newa (N := 32) (a0 := (32, .inl (fun _ => 0))) 1 dX1_init_15 kw50 rfl rfl (fun _ => rfl) (by decide) (by decide) (by decide) (by decide) (by decide) (fun q15 => ?_)
  refine ZN.putF (ws' := [(b, .inr (1, [.ref q7, .ref q15, .null, .null, .int 0, .int 0])), (q7, zI E 80), (q15, zI E 32)]) dX1_init_17 inX1 tyX1_ok nmX1 rfl 0 rfl 1 (by decide) kw61 rfl rfl rfl rfl (tyX1_ok 1 (by decide)) rfl rfl (Nat.le_of_ble_eq_true rfl) rfl ?_
  refine ZN.aload dX1_init_20 0 rfl ?_
  refine ZN.bipush (v := 10) dX1_init_21 (by decide) ?_
  refine ZN.newa (N := 10) (a0 := (10, .inl (fun _ => 0))) 1 dX1_init_23 kw50 rfl rfl (fun _ => rfl) (by decide) (by decide) (by decide) (by decide) (by decide) (fun q23 => ?_)
  refine ZN.putF (ws' := [(b, .inr (1, [.ref q7, .ref q15, .ref q23, .null, .int 0, .int 0])), (q7, zI E 80), (q15, zI E 32), (q23, zI E 10)]) dX1_init_25 inX1 tyX1_ok nmX1 rfl 0 rfl 2 (by decide) kw62 rfl rfl rfl rfl (tyX1_ok 2 (by decide)) rfl rfl (Nat.le_of_ble_eq_true rfl) rfl ?_
  refine ZN.aload dX1_init_28 0 rfl ?_
  refine ZN.bipush (v := 8) dX1_init_29 (by decide) ?_
  refine ZN.newa (N := 8) (a0 := (8, .inl (fun _ => 0))) 1 dX1_init_31 kw50 rfl rfl (fun _ => rfl) (by decide) (by decide) (by decide) (by decide) (by decide) (fun q31 => ?_)
  refine ZN.putF (ws' := [(b, .inr (1, [.ref q7, .ref q15, .ref q23, .ref q31, .int 0, .int 0])), (q7, zI E 80), (q15, zI E 32), (q23, zI E 10), (q31, zI E 8)]) dX1_init_33 inX1 tyX1_ok nmX1 rfl 0 rfl 3 (by decide) kw64 rfl rfl rfl rfl (tyX1_ok 3 (by decide)) rfl rfl (Nat.le_of_ble_eq_true rfl) rfl ?_
  refine ZN.aload dX1_init_36 0 rfl ?_
  refine ZN.iconst (v := 0) dX1_init_37 (by decide) ?_
  refine ZN.put (ws' := [(b, .inr (1, [.ref q7, .ref q15, .ref q23, .ref q31, .int 0, .int 0])), (q7, zI E 80), (q15, zI E 32), (q23, zI E 10), (q31, zI E 8)]) dX1_init_38 inX1 tyX1_ok nmX1 rfl 0 rfl 4 (by decide) kw65 rfl rfl (tyX1_ok 4 (by decide)) rfl rfl (Nat.le_of_ble_eq_true rfl) rfl ?_
  refine ZN.aload dX1_init_41 0 rfl ?_
  refine ZN.iconst (v := 0) dX1_init_42 (by decide) ?_
  refine ZN.put (ws' := [(b, .inr (1, [.ref q7, .ref q15, .ref q23, .ref q31, .int 0, .int 0])), (q7, zI E 80), (q15, zI E 32), (q23, zI E 10), (q31, zI E 8)]) dX1_init_43 inX1 tyX1_ok nmX1 rfl 0 rfl 5 (by decide) kw68 rfl rfl (tyX1_ok 5 (by decide)) rfl rfl (Nat.le_of_ble_eq_true rfl) rfl ?_
  refine ZN.aload dX1_init_46 0 rfl ?_
  refine ZN.get (v := .ref q23) dX1_init_47 inX1 rfl 0 rfl 2 (by decide) kw62 rfl rfl ?_
  refine ZN.iconst (v := 2) dX1_init_50 (by decide) ?_
  refine ZN.perm (ws' := [(b, .inr (1, [.ref q7, .ref q15, .ref q23, .ref q31, .int 0, .int 0])), (q7, zI E 80), (q15, zI E 32), (q31, zI E 8)] ++ [(q23, zI E 10)]) [0, 1, 2, 4, 3] (by decide) rfl rfl ?_
  refine ZN.callS (wr := [(b, .inr (1, [.ref q7, .ref q15, .ref q23, .ref q31, .int 0, .int 0])), (q7, zI E 80), (q15, zI E 32), (q31, zI E 8)]) dX1_init_51 (kfill l E q23) kw57 kw58 kw4 kw59 ⟨by decide, by decide, by decide +kernel⟩ ⟨by decide, by decide⟩ (Nat.le_of_ble_eq_true rfl) ⟨by decide, by decide⟩ (fun w hw => ?_)
  subst hw
  refine ZN.perm (ws' := [(b, .inr (1, [.ref q7, .ref q15, .ref q23, .ref q31, .int 0, .int 0])), (q7, zI E 80), (q15, zI E 32), (q23, cIa E 10 (hatC 10)), (q31, zI E 8)]) [0, 1, 2, 4, 3] (by decide) rfl rfl ?_
  exact ZN.vret dX1_init_54 (by decide) (by decide) ⟨lu [b, q7, q15, q23, q31], rfl⟩

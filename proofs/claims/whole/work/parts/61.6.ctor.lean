abbrev moW (E : Env5) (b : Nat) (u : Nat → Nat) : va_W := [(b, .inr (5, [.long 0, .ref (u 1), .int 0, .ref (u 2), .ref (u 3), .ref (u 4), .ref (u 5), .ref (u 6), .ref (u 7), .ref (u 8), .int 0, .int 0, .int 0, .int 0, .int 0, .int 0, .int 0, .int 0, .int 0, .int 0, .ref (u 9), .ref (u 10), .ref (u 11), .ref (u 12), .ref (u 13), .ref (u 14), .ref (u 15), .ref (u 16), .ref (u 17), .ref (u 18), .ref (u 19), .ref (u 20), .ref (u 21), .ref (u 22), .ref (u 23), .ref (u 24), .int 0, .ref (u 25)])), ((u 1), zB E 400), ((u 2), cIa E 2 (upd (fun _ => 0) 0 8)), ((u 3), cIa E 2 (upd (fun _ => 0) 0 8)), ((u 4), zZ E 288), ((u 5), zI E 2), ((u 6), zI E 96), ((u 7), zI E 2), ((u 8), zI E 100), ((u 9), zI E 3), ((u 10), zI E 60), ((u 11), zI E 60), ((u 12), zI E 60), ((u 13), zI E 60), ((u 14), zI E 3), ((u 15), zI E 24), ((u 16), zI E 24), ((u 17), zI E 24), ((u 18), zI E 24), ((u 19), cIa E 30 (hatC 10)), ((u 20), zZ E 2), ((u 21), zI E 4), ((u 22), zI E 4), ((u 23), zI E 256), ((u 24), zI E 81), ((u 25), zI E 8)]
set_option maxRecDepth 20000 in
set_option maxHeartbeats 4000000 in
theorem kX5_init (l : Launch) (E : Env5) (b : Nat) : KN l E yX5_init cX5_init 2 1 25 1619 [.ref b] [(b, .inr (5, [.long 0, .null, .int 0, .null, .null, .null, .null, .null, .null, .null, .int 0, .int 0, .int 0, .int 0, .int 0, .int 0, .int 0, .int 0, .int 0, .int 0, .null, .null, .null, .null, .null, .null, .null, .null, .null, .null, .null, .null, .null, .null, .null, .null, .int 0, .null]))] (fun w => ∃ u : Nat → Nat, w = moW E b u) := by
  refine KN.ofZN (lv := [(0, .ref b)]) (by decide) (Nat.le_of_ble_eq_true rfl) rfl ?_
  refine ZN.aload dX5_init_0 0 rfl ?_
  refine ZN.obj dX5_init_1 kw678 kw18 kw19 (by decide) ?_
  refine ZN.aload dX5_init_4 0 rfl ?_
  refine ZN.sipush (v := 400) dX5_init_5 (by decide) ?_
  refine ZN.newa (N := 400) (a0 := (400, .inl (fun _ => 0))) 0 dX5_init_8 kw49 rfl rfl (fun _ => rfl) (by decide) (by decide) (by decide) (by decide) (by decide) (fun q8 => ?_)
  refine ZN.putF (ws' := [(b, .inr (5, [.long 0, .ref q8, .int 0, .null, .null, .null, .null, .null, .null, .null, .int 0, .int 0, .int 0, .int 0, .int 0, .int 0, .int 0, .int 0, .int 0, .int 0, .null, .null, .null, .null, .null, .null, .null, .null, .null, .null, .null, .null, .null, .null, .null, .null, .int 0, .null])), (q8, zB E 400)]) dX5_init_10 inX5 tyX5_ok nmX5 rfl 0 rfl 1 (by decide) kw680 rfl rfl rfl rfl (tyX5_ok 1 (by decide)) rfl rfl (Nat.le_of_ble_eq_true rfl) rfl ?_
  refine ZN.aload dX5_init_13 0 rfl ?_
  refine ZN.iconst (v := 2) dX5_init_14 (by decide) ?_
  refine ZN.newa (N := 2) (a0 := (2, .inl (fun _ => 0))) 1 dX5_init_15 kw50 rfl rfl (fun _ => rfl) (by decide) (by decide) (by decide) (by decide) (by decide) (fun q15 => ?_)
  refine ZN.putF (ws' := [(b, .inr (5, [.long 0, .ref q8, .int 0, .ref q15, .null, .null, .null, .null, .null, .null, .int 0, .int 0, .int 0, .int 0, .int 0, .int 0, .int 0, .int 0, .int 0, .int 0, .null, .null, .null, .null, .null, .null, .null, .null, .null, .null, .null, .null, .null, .null, .null, .null, .int 0, .null])), (q8, zB E 400), (q15, zI E 2)]) dX5_init_17 inX5 tyX5_ok nmX5 rfl 0 rfl 3 (by decide) kw682 rfl rfl rfl rfl (tyX5_ok 3 (by decide)) rfl rfl (Nat.le_of_ble_eq_true rfl) rfl ?_
  refine ZN.aload dX5_init_20 0 rfl ?_
  refine ZN.iconst (v := 2) dX5_init_21 (by decide) ?_
  refine ZN.newa (N := 2) (a0 := (2, .inl (fun _ => 0))) 1 dX5_init_22 kw50 rfl rfl (fun _ => rfl) (by decide) (by decide) (by decide) (by decide) (by decide) (fun q22 => ?_)
  refine ZN.putF (ws' := [(b, .inr (5, [.long 0, .ref q8, .int 0, .ref q15, .ref q22, .null, .null, .null, .null, .null, .int 0, .int 0, .int 0, .int 0, .int 0, .int 0, .int 0, .int 0, .int 0, .int 0, .null, .null, .null, .null, .null, .null, .null, .null, .null, .null, .null, .null, .null, .null, .null, .null, .int 0, .null])), (q8, zB E 400), (q15, zI E 2), (q22, zI E 2)]) dX5_init_24 inX5 tyX5_ok nmX5 rfl 0 rfl 4 (by decide) kw683 rfl rfl rfl rfl (tyX5_ok 4 (by decide)) rfl rfl (Nat.le_of_ble_eq_true rfl) rfl ?_
  refine ZN.aload dX5_init_27 0 rfl ?_
  refine ZN.sipush (v := 288) dX5_init_28 (by decide) ?_
  refine ZN.newa (N := 288) (a0 := (288, .inl (fun _ => 0))) 3 dX5_init_31 kw108 rfl rfl (fun _ => rfl) (by decide) (by decide) (by decide) (by decide) (by decide) (fun q31 => ?_)
  refine ZN.putF (ws' := [(b, .inr (5, [.long 0, .ref q8, .int 0, .ref q15, .ref q22, .ref q31, .null, .null, .null, .null, .int 0, .int 0, .int 0, .int 0, .int 0, .int 0, .int 0, .int 0, .int 0, .int 0, .null, .null, .null, .null, .null, .null, .null, .null, .null, .null, .null, .null, .null, .null, .null, .null, .int 0, .null])), (q8, zB E 400), (q15, zI E 2), (q22, zI E 2), (q31, zZ E 288)]) dX5_init_33 inX5 tyX5_ok nmX5 rfl 0 rfl 5 (by decide) kw684 rfl rfl rfl rfl (tyX5_ok 5 (by decide)) rfl rfl (Nat.le_of_ble_eq_true rfl) rfl ?_
  refine ZN.aload dX5_init_36 0 rfl ?_
  refine ZN.iconst (v := 2) dX5_init_37 (by decide) ?_
  refine ZN.newa (N := 2) (a0 := (2, .inl (fun _ => 0))) 1 dX5_init_38 kw50 rfl rfl (fun _ => rfl) (by decide) (by decide) (by decide) (by decide) (by decide) (fun q38 => ?_)
  refine ZN.putF (ws' := [(b, .inr (5, [.long 0, .ref q8, .int 0, .ref q15, .ref q22, .ref q31, .ref q38, .null, .null, .null, .int 0, .int 0, .int 0, .int 0, .int 0, .int 0, .int 0, .int 0, .int 0, .int 0, .null, .null, .null, .null, .null, .null, .null, .null, .null, .null, .null, .null, .null, .null, .null, .null, .int 0, .null])), (q8, zB E 400), (q15, zI E 2), (q22, zI E 2), (q31, zZ E 288), (q38, zI E 2)]) dX5_init_40 inX5 tyX5_ok nmX5 rfl 0 rfl 6 (by decide) kw685 rfl rfl rfl rfl (tyX5_ok 6 (by decide)) rfl rfl (Nat.le_of_ble_eq_true rfl) rfl ?_
  refine ZN.aload dX5_init_43 0 rfl ?_
  refine ZN.bipush (v := 96) dX5_init_44 (by decide) ?_
  refine ZN.newa (N := 96) (a0 := (96, .inl (fun _ => 0))) 1 dX5_init_46 kw50 rfl rfl (fun _ => rfl) (by decide) (by decide) (by decide) (by decide) (by decide) (fun q46 => ?_)
  refine ZN.putF (ws' := [(b, .inr (5, [.long 0, .ref q8, .int 0, .ref q15, .ref q22, .ref q31, .ref q38, .ref q46, .null, .null, .int 0, .int 0, .int 0, .int 0, .int 0, .int 0, .int 0, .int 0, .int 0, .int 0, .null, .null, .null, .null, .null, .null, .null, .null, .null, .null, .null, .null, .null, .null, .null, .null, .int 0, .null])), (q8, zB E 400), (q15, zI E 2), (q22, zI E 2), (q31, zZ E 288), (q38, zI E 2), (q46, zI E 96)]) dX5_init_48 inX5 tyX5_ok nmX5 rfl 0 rfl 7 (by decide) kw686 rfl rfl rfl rfl (tyX5_ok 7 (by decide)) rfl rfl (Nat.le_of_ble_eq_true rfl) rfl ?_
  refine ZN.aload dX5_init_51 0 rfl ?_
  refine ZN.iconst (v := 2) dX5_init_52 (by decide) ?_
  refine ZN.newa (N := 2) (a0 := (2, .inl (fun _ => 0))) 1 dX5_init_53 kw50 rfl rfl (fun _ => rfl) (by decide) (by decide) (by decide) (by decide) (by decide) (fun q53 => ?_)
  refine ZN.putF (ws' := [(b, .inr (5, [.long 0, .ref q8, .int 0, .ref q15, .ref q22, .ref q31, .ref q38, .ref q46, .ref q53, .null, .int 0, .int 0, .int 0, .int 0, .int 0, .int 0, .int 0, .int 0, .int 0, .int 0, .null, .null, .null, .null, .null, .null, .null, .null, .null, .null, .null, .null, .null, .null, .null, .null, .int 0, .null])), (q8, zB E 400), (q15, zI E 2), (q22, zI E 2), (q31, zZ E 288), (q38, zI E 2), (q46, zI E 96), (q53, zI E 2)]) dX5_init_55 inX5 tyX5_ok nmX5 rfl 0 rfl 8 (by decide) kw687 rfl rfl rfl rfl (tyX5_ok 8 (by decide)) rfl rfl (Nat.le_of_ble_eq_true rfl) rfl ?_
  refine ZN.aload dX5_init_58 0 rfl ?_
  refine ZN.bipush (v := 100) dX5_init_59 (by decide) ?_
  refine ZN.newa (N := 100) (a0 := (100, .inl (fun _ => 0))) 1 dX5_init_61 kw50 rfl rfl (fun _ => rfl) (by decide) (by decide) (by decide) (by decide) (by decide) (fun q61 => ?_)
  refine ZN.putF (ws' := [(b, .inr (5, [.long 0, .ref q8, .int 0, .ref q15, .ref q22, .ref q31, .ref q38, .ref q46, .ref q53, .ref q61, .int 0, .int 0, .int 0, .int 0, .int 0, .int 0, .int 0, .int 0, .int 0, .int 0, .null, .null, .null, .null, .null, .null, .null, .null, .null, .null, .null, .null, .null, .null, .null, .null, .int 0, .null])), (q8, zB E 400), (q15, zI E 2), (q22, zI E 2), (q31, zZ E 288), (q38, zI E 2), (q46, zI E 96), (q53, zI E 2), (q61, zI E 100)]) dX5_init_63 inX5 tyX5_ok nmX5 rfl 0 rfl 9 (by decide) kw688 rfl rfl rfl rfl (tyX5_ok 9 (by decide)) rfl rfl (Nat.le_of_ble_eq_true rfl) rfl ?_
  refine ZN.aload dX5_init_66 0 rfl ?_
  refine ZN.iconst (v := 3) dX5_init_67 (by decide) ?_
  refine ZN.newa (N := 3) (a0 := (3, .inl (fun _ => 0))) 1 dX5_init_68 kw50 rfl rfl (fun _ => rfl) (by decide) (by decide) (by decide) (by decide) (by decide) (fun q68 => ?_)
  refine ZN.putF (ws' := [(b, .inr (5, [.long 0, .ref q8, .int 0, .ref q15, .ref q22, .ref q31, .ref q38, .ref q46, .ref q53, .ref q61, .int 0, .int 0, .int 0, .int 0, .int 0, .int 0, .int 0, .int 0, .int 0, .int 0, .ref q68, .null, .null, .null, .null, .null, .null, .null, .null, .null, .null, .null, .null, .null, .null, .null, .int 0, .null])), (q8, zB E 400), (q15, zI E 2), (q22, zI E 2), (q31, zZ E 288), (q38, zI E 2), (q46, zI E 96), (q53, zI E 2), (q61, zI E 100), (q68, zI E 3)]) dX5_init_70 inX5 tyX5_ok nmX5 rfl 0 rfl 20 (by decide) kw699 rfl rfl rfl rfl (tyX5_ok 20 (by decide)) rfl rfl (Nat.le_of_ble_eq_true rfl) rfl ?_
  refine ZN.aload dX5_init_73 0 rfl ?_
  refine ZN.bipush (v := 60) dX5_init_74 (by decide) ?_
  refine ZN.newa (N := 60) (a0 := (60, .inl (fun _ => 0))) 1 dX5_init_76 kw50 rfl rfl (fun _ => rfl) (by decide) (by decide) (by decide) (by decide) (by decide) (fun q76 => ?_)
  refine ZN.putF (ws' := [(b, .inr (5, [.long 0, .ref q8, .int 0, .ref q15, .ref q22, .ref q31, .ref q38, .ref q46, .ref q53, .ref q61, .int 0, .int 0, .int 0, .int 0, .int 0, .int 0, .int 0, .int 0, .int 0, .int 0, .ref q68, .ref q76, .null, .null, .null, .null, .null, .null, .null, .null, .null, .null, .null, .null, .null, .null, .int 0, .null])), (q8, zB E 400), (q15, zI E 2), (q22, zI E 2), (q31, zZ E 288), (q38, zI E 2), (q46, zI E 96), (q53, zI E 2), (q61, zI E 100), (q68, zI E 3), (q76, zI E 60)]) dX5_init_78 inX5 tyX5_ok nmX5 rfl 0 rfl 21 (by decide) kw700 rfl rfl rfl rfl (tyX5_ok 21 (by decide)) rfl rfl (Nat.le_of_ble_eq_true rfl) rfl ?_
  refine ZN.aload dX5_init_81 0 rfl ?_
  refine ZN.bipush (v := 60) dX5_init_82 (by decide) ?_
  refine ZN.newa (N := 60) (a0 := (60, .inl (fun _ => 0))) 1 dX5_init_84 kw50 rfl rfl (fun _ => rfl) (by decide) (by decide) (by decide) (by decide) (by decide) (fun q84 => ?_)
  refine ZN.putF (ws' := [(b, .inr (5, [.long 0, .ref q8, .int 0, .ref q15, .ref q22, .ref q31, .ref q38, .ref q46, .ref q53, .ref q61, .int 0, .int 0, .int 0, .int 0, .int 0, .int 0, .int 0, .int 0, .int 0, .int 0, .ref q68, .ref q76, .ref q84, .null, .null, .null, .null, .null, .null, .null, .null, .null, .null, .null, .null, .null, .int 0, .null])), (q8, zB E 400), (q15, zI E 2), (q22, zI E 2), (q31, zZ E 288), (q38, zI E 2), (q46, zI E 96), (q53, zI E 2), (q61, zI E 100), (q68, zI E 3), (q76, zI E 60), (q84, zI E 60)]) dX5_init_86 inX5 tyX5_ok nmX5 rfl 0 rfl 22 (by decide) kw701 rfl rfl rfl rfl (tyX5_ok 22 (by decide)) rfl rfl (Nat.le_of_ble_eq_true rfl) rfl ?_
  refine ZN.aload dX5_init_89 0 rfl ?_
  refine ZN.bipush (v := 60) dX5_init_90 (by decide) ?_
  refine ZN.newa (N := 60) (a0 := (60, .inl (fun _ => 0))) 1 dX5_init_92 kw50 rfl rfl (fun _ => rfl) (by decide) (by decide) (by decide) (by decide) (by decide) (fun q92 => ?_)
  refine ZN.putF (ws' := [(b, .inr (5, [.long 0, .ref q8, .int 0, .ref q15, .ref q22, .ref q31, .ref q38, .ref q46, .ref q53, .ref q61, .int 0, .int 0, .int 0, .int 0, .int 0, .int 0, .int 0, .int 0, .int 0, .int 0, .ref q68, .ref q76, .ref q84, .ref q92, .null, .null, .null, .null, .null, .null, .null, .null, .null, .null, .null, .null, .int 0, .null])), (q8, zB E 400), (q15, zI E 2), (q22, zI E 2), (q31, zZ E 288), (q38, zI E 2), (q46, zI E 96), (q53, zI E 2), (q61, zI E 100), (q68, zI E 3), (q76, zI E 60), (q84, zI E 60), (q92, zI E 60)]) dX5_init_94 inX5 tyX5_ok nmX5 rfl 0 rfl 23 (by decide) kw702 rfl rfl rfl rfl (tyX5_ok 23 (by decide)) rfl rfl (Nat.le_of_ble_eq_true rfl) rfl ?_
  refine ZN.aload dX5_init_97 0 rfl ?_
  refine ZN.bipush (v := 60) dX5_init_98 (by decide) ?_
  refine ZN.newa (N := 60) (a0 := (60, .inl (fun _ => 0))) 1 dX5_init_100 kw50 rfl rfl (fun _ => rfl) (by decide) (by decide) (by decide) (by decide) (by decide) (fun q100 => ?_)
  refine ZN.putF (ws' := [(b, .inr (5, [.long 0, .ref q8, .int 0, .ref q15, .ref q22, .ref q31, .ref q38, .ref q46, .ref q53, .ref q61, .int 0, .int 0, .int 0, .int 0, .int 0, .int 0, .int 0, .int 0, .int 0, .int 0, .ref q68, .ref q76, .ref q84, .ref q92, .ref q100, .null, .null, .null, .null, .null, .null, .null, .null, .null, .null, .null, .int 0, .null])), (q8, zB E 400), (q15, zI E 2), (q22, zI E 2), (q31, zZ E 288), (q38, zI E 2), (q46, zI E 96), (q53, zI E 2), (q61, zI E 100), (q68, zI E 3), (q76, zI E 60), (q84, zI E 60), (q92, zI E 60), (q100, zI E 60)]) dX5_init_102 inX5 tyX5_ok nmX5 rfl 0 rfl 24 (by decide) kw703 rfl rfl rfl rfl (tyX5_ok 24 (by decide)) rfl rfl (Nat.le_of_ble_eq_true rfl) rfl ?_
  refine ZN.aload dX5_init_105 0 rfl ?_
  refine ZN.iconst (v := 3) dX5_init_106 (by decide) ?_
  refine ZN.newa (N := 3) (a0 := (3, .inl (fun _ => 0))) 1 dX5_init_107 kw50 rfl rfl (fun _ => rfl) (by decide) (by decide) (by decide) (by decide) (by decide) (fun q107 => ?_)
  refine ZN.putF (ws' := [(b, .inr (5, [.long 0, .ref q8, .int 0, .ref q15, .ref q22, .ref q31, .ref q38, .ref q46, .ref q53, .ref q61, .int 0, .int 0, .int 0, .int 0, .int 0, .int 0, .int 0, .int 0, .int 0, .int 0, .ref q68, .ref q76, .ref q84, .ref q92, .ref q100, .ref q107, .null, .null, .null, .null, .null, .null, .null, .null, .null, .null, .int 0, .null])), (q8, zB E 400), (q15, zI E 2), (q22, zI E 2), (q31, zZ E 288), (q38, zI E 2), (q46, zI E 96), (q53, zI E 2), (q61, zI E 100), (q68, zI E 3), (q76, zI E 60), (q84, zI E 60), (q92, zI E 60), (q100, zI E 60), (q107, zI E 3)]) dX5_init_109 inX5 tyX5_ok nmX5 rfl 0 rfl 25 (by decide) kw704 rfl rfl rfl rfl (tyX5_ok 25 (by decide)) rfl rfl (Nat.le_of_ble_eq_true rfl) rfl ?_
  refine ZN.aload dX5_init_112 0 rfl ?_
  refine ZN.bipush (v := 24) dX5_init_113 (by decide) ?_
  refine ZN.newa (N := 24) (a0 := (24, .inl (fun _ => 0))) 1 dX5_init_115 kw50 rfl rfl (fun _ => rfl) (by decide) (by decide) (by decide) (by decide) (by decide) (fun q115 => ?_)
  refine ZN.putF (ws' := [(b, .inr (5, [.long 0, .ref q8, .int 0, .ref q15, .ref q22, .ref q31, .ref q38, .ref q46, .ref q53, .ref q61, .int 0, .int 0, .int 0, .int 0, .int 0, .int 0, .int 0, .int 0, .int 0, .int 0, .ref q68, .ref q76, .ref q84, .ref q92, .ref q100, .ref q107, .ref q115, .null, .null, .null, .null, .null, .null, .null, .null, .null, .int 0, .null])), (q8, zB E 400), (q15, zI E 2), (q22, zI E 2), (q31, zZ E 288), (q38, zI E 2), (q46, zI E 96), (q53, zI E 2), (q61, zI E 100), (q68, zI E 3), (q76, zI E 60), (q84, zI E 60), (q92, zI E 60), (q100, zI E 60), (q107, zI E 3), (q115, zI E 24)]) dX5_init_117 inX5 tyX5_ok nmX5 rfl 0 rfl 26 (by decide) kw705 rfl rfl rfl rfl (tyX5_ok 26 (by decide)) rfl rfl (Nat.le_of_ble_eq_true rfl) rfl ?_
  refine ZN.aload dX5_init_120 0 rfl ?_
  refine ZN.bipush (v := 24) dX5_init_121 (by decide) ?_
  refine ZN.newa (N := 24) (a0 := (24, .inl (fun _ => 0))) 1 dX5_init_123 kw50 rfl rfl (fun _ => rfl) (by decide) (by decide) (by decide) (by decide) (by decide) (fun q123 => ?_)
  refine ZN.putF (ws' := [(b, .inr (5, [.long 0, .ref q8, .int 0, .ref q15, .ref q22, .ref q31, .ref q38, .ref q46, .ref q53, .ref q61, .int 0, .int 0, .int 0, .int 0, .int 0, .int 0, .int 0, .int 0, .int 0, .int 0, .ref q68, .ref q76, .ref q84, .ref q92, .ref q100, .ref q107, .ref q115, .ref q123, .null, .null, .null, .null, .null, .null, .null, .null, .int 0, .null])), (q8, zB E 400), (q15, zI E 2), (q22, zI E 2), (q31, zZ E 288), (q38, zI E 2), (q46, zI E 96), (q53, zI E 2), (q61, zI E 100), (q68, zI E 3), (q76, zI E 60), (q84, zI E 60), (q92, zI E 60), (q100, zI E 60), (q107, zI E 3), (q115, zI E 24), (q123, zI E 24)]) dX5_init_125 inX5 tyX5_ok nmX5 rfl 0 rfl 27 (by decide) kw706 rfl rfl rfl rfl (tyX5_ok 27 (by decide)) rfl rfl (Nat.le_of_ble_eq_true rfl) rfl ?_
  refine ZN.aload dX5_init_128 0 rfl ?_
  refine ZN.bipush (v := 24) dX5_init_129 (by decide) ?_
  refine ZN.newa (N := 24) (a0 := (24, .inl (fun _ => 0))) 1 dX5_init_131 kw50 rfl rfl (fun _ => rfl) (by decide) (by decide) (by decide) (by decide) (by decide) (fun q131 => ?_)
  refine ZN.putF (ws' := [(b, .inr (5, [.long 0, .ref q8, .int 0, .ref q15, .ref q22, .ref q31, .ref q38, .ref q46, .ref q53, .ref q61, .int 0, .int 0, .int 0, .int 0, .int 0, .int 0, .int 0, .int 0, .int 0, .int 0, .ref q68, .ref q76, .ref q84, .ref q92, .ref q100, .ref q107, .ref q115, .ref q123, .ref q131, .null, .null, .null, .null, .null, .null, .null, .int 0, .null])), (q8, zB E 400), (q15, zI E 2), (q22, zI E 2), (q31, zZ E 288), (q38, zI E 2), (q46, zI E 96), (q53, zI E 2), (q61, zI E 100), (q68, zI E 3), (q76, zI E 60), (q84, zI E 60), (q92, zI E 60), (q100, zI E 60), (q107, zI E 3), (q115, zI E 24), (q123, zI E 24), (q131, zI E 24)]) dX5_init_133 inX5 tyX5_ok nmX5 rfl 0 rfl 28 (by decide) kw707 rfl rfl rfl rfl (tyX5_ok 28 (by decide)) rfl rfl (Nat.le_of_ble_eq_true rfl) rfl ?_
  refine ZN.aload dX5_init_136 0 rfl ?_
  refine ZN.bipush (v := 24) dX5_init_137 (by decide) ?_
  refine ZN.newa (N := 24) (a0 := (24, .inl (fun _ => 0))) 1 dX5_init_139 kw50 rfl rfl (fun _ => rfl) (by decide) (by decide) (by decide) (by decide) (by decide) (fun q139 => ?_)
  refine ZN.putF (ws' := [(b, .inr (5, [.long 0, .ref q8, .int 0, .ref q15, .ref q22, .ref q31, .ref q38, .ref q46, .ref q53, .ref q61, .int 0, .int 0, .int 0, .int 0, .int 0, .int 0, .int 0, .int 0, .int 0, .int 0, .ref q68, .ref q76, .ref q84, .ref q92, .ref q100, .ref q107, .ref q115, .ref q123, .ref q131, .ref q139, .null, .null, .null, .null, .null, .null, .int 0, .null])), (q8, zB E 400), (q15, zI E 2), (q22, zI E 2), (q31, zZ E 288), (q38, zI E 2), (q46, zI E 96), (q53, zI E 2), (q61, zI E 100), (q68, zI E 3), (q76, zI E 60), (q84, zI E 60), (q92, zI E 60), (q100, zI E 60), (q107, zI E 3), (q115, zI E 24), (q123, zI E 24), (q131, zI E 24), (q139, zI E 24)]) dX5_init_141 inX5 tyX5_ok nmX5 rfl 0 rfl 29 (by decide) kw708 rfl rfl rfl rfl (tyX5_ok 29 (by decide)) rfl rfl (Nat.le_of_ble_eq_true rfl) rfl ?_
  refine ZN.aload dX5_init_144 0 rfl ?_
  refine ZN.bipush (v := 30) dX5_init_145 (by decide) ?_
  refine ZN.newa (N := 30) (a0 := (30, .inl (fun _ => 0))) 1 dX5_init_147 kw50 rfl rfl (fun _ => rfl) (by decide) (by decide) (by decide) (by decide) (by decide) (fun q147 => ?_)
  refine ZN.putF (ws' := [(b, .inr (5, [.long 0, .ref q8, .int 0, .ref q15, .ref q22, .ref q31, .ref q38, .ref q46, .ref q53, .ref q61, .int 0, .int 0, .int 0, .int 0, .int 0, .int 0, .int 0, .int 0, .int 0, .int 0, .ref q68, .ref q76, .ref q84, .ref q92, .ref q100, .ref q107, .ref q115, .ref q123, .ref q131, .ref q139, .ref q147, .null, .null, .null, .null, .null, .int 0, .null])), (q8, zB E 400), (q15, zI E 2), (q22, zI E 2), (q31, zZ E 288), (q38, zI E 2), (q46, zI E 96), (q53, zI E 2), (q61, zI E 100), (q68, zI E 3), (q76, zI E 60), (q84, zI E 60), (q92, zI E 60), (q100, zI E 60), (q107, zI E 3), (q115, zI E 24), (q123, zI E 24), (q131, zI E 24), (q139, zI E 24), (q147, zI E 30)]) dX5_init_149 inX5 tyX5_ok nmX5 rfl 0 rfl 30 (by decide) kw709 rfl rfl rfl rfl (tyX5_ok 30 (by decide)) rfl rfl (Nat.le_of_ble_eq_true rfl) rfl ?_
  refine ZN.aload dX5_init_152 0 rfl ?_
  refine ZN.iconst (v := 2) dX5_init_153 (by decide) ?_
  refine ZN.newa (N := 2) (a0 := (2, .inl (fun _ => 0))) 3 dX5_init_154 kw108 rfl rfl (fun _ => rfl) (by decide) (by decide) (by decide) (by decide) (by decide) (fun q154 => ?_)
  refine ZN.putF (ws' := [(b, .inr (5, [.long 0, .ref q8, .int 0, .ref q15, .ref q22, .ref q31, .ref q38, .ref q46, .ref q53, .ref q61, .int 0, .int 0, .int 0, .int 0, .int 0, .int 0, .int 0, .int 0, .int 0, .int 0, .ref q68, .ref q76, .ref q84, .ref q92, .ref q100, .ref q107, .ref q115, .ref q123, .ref q131, .ref q139, .ref q147, .ref q154, .null, .null, .null, .null, .int 0, .null])), (q8, zB E 400), (q15, zI E 2), (q22, zI E 2), (q31, zZ E 288), (q38, zI E 2), (q46, zI E 96), (q53, zI E 2), (q61, zI E 100), (q68, zI E 3), (q76, zI E 60), (q84, zI E 60), (q92, zI E 60), (q100, zI E 60), (q107, zI E 3), (q115, zI E 24), (q123, zI E 24), (q131, zI E 24), (q139, zI E 24), (q147, zI E 30), (q154, zZ E 2)]) dX5_init_156 inX5 tyX5_ok nmX5 rfl 0 rfl 31 (by decide) kw710 rfl rfl rfl rfl (tyX5_ok 31 (by decide)) rfl rfl (Nat.le_of_ble_eq_true rfl) rfl ?_
  refine ZN.aload dX5_init_159 0 rfl ?_
  refine ZN.iconst (v := 4) dX5_init_160 (by decide) ?_
  refine ZN.newa (N := 4) (a0 := (4, .inl (fun _ => 0))) 1 dX5_init_161 kw50 rfl rfl (fun _ => rfl) (by decide) (by decide) (by decide) (by decide) (by decide) (fun q161 => ?_)
  refine ZN.putF (ws' := [(b, .inr (5, [.long 0, .ref q8, .int 0, .ref q15, .ref q22, .ref q31, .ref q38, .ref q46, .ref q53, .ref q61, .int 0, .int 0, .int 0, .int 0, .int 0, .int 0, .int 0, .int 0, .int 0, .int 0, .ref q68, .ref q76, .ref q84, .ref q92, .ref q100, .ref q107, .ref q115, .ref q123, .ref q131, .ref q139, .ref q147, .ref q154, .ref q161, .null, .null, .null, .int 0, .null])), (q8, zB E 400), (q15, zI E 2), (q22, zI E 2), (q31, zZ E 288), (q38, zI E 2), (q46, zI E 96), (q53, zI E 2), (q61, zI E 100), (q68, zI E 3), (q76, zI E 60), (q84, zI E 60), (q92, zI E 60), (q100, zI E 60), (q107, zI E 3), (q115, zI E 24), (q123, zI E 24), (q131, zI E 24), (q139, zI E 24), (q147, zI E 30), (q154, zZ E 2), (q161, zI E 4)]) dX5_init_163 inX5 tyX5_ok nmX5 rfl 0 rfl 32 (by decide) kw711 rfl rfl rfl rfl (tyX5_ok 32 (by decide)) rfl rfl (Nat.le_of_ble_eq_true rfl) rfl ?_
  refine ZN.aload dX5_init_166 0 rfl ?_
  refine ZN.iconst (v := 4) dX5_init_167 (by decide) ?_
  refine ZN.newa (N := 4) (a0 := (4, .inl (fun _ => 0))) 1 dX5_init_168 kw50 rfl rfl (fun _ => rfl) (by decide) (by decide) (by decide) (by decide) (by decide) (fun q168 => ?_)
  refine ZN.putF (ws' := [(b, .inr (5, [.long 0, .ref q8, .int 0, .ref q15, .ref q22, .ref q31, .ref q38, .ref q46, .ref q53, .ref q61, .int 0, .int 0, .int 0, .int 0, .int 0, .int 0, .int 0, .int 0, .int 0, .int 0, .ref q68, .ref q76, .ref q84, .ref q92, .ref q100, .ref q107, .ref q115, .ref q123, .ref q131, .ref q139, .ref q147, .ref q154, .ref q161, .ref q168, .null, .null, .int 0, .null])), (q8, zB E 400), (q15, zI E 2), (q22, zI E 2), (q31, zZ E 288), (q38, zI E 2), (q46, zI E 96), (q53, zI E 2), (q61, zI E 100), (q68, zI E 3), (q76, zI E 60), (q84, zI E 60), (q92, zI E 60), (q100, zI E 60), (q107, zI E 3), (q115, zI E 24), (q123, zI E 24), (q131, zI E 24), (q139, zI E 24), (q147, zI E 30), (q154, zZ E 2), (q161, zI E 4), (q168, zI E 4)]) dX5_init_170 inX5 tyX5_ok nmX5 rfl 0 rfl 33 (by decide) kw712 rfl rfl rfl rfl (tyX5_ok 33 (by decide)) rfl rfl (Nat.le_of_ble_eq_true rfl) rfl ?_
  refine ZN.aload dX5_init_173 0 rfl ?_
  refine ZN.sipush (v := 256) dX5_init_174 (by decide) ?_
  refine ZN.newa (N := 256) (a0 := (256, .inl (fun _ => 0))) 1 dX5_init_177 kw50 rfl rfl (fun _ => rfl) (by decide) (by decide) (by decide) (by decide) (by decide) (fun q177 => ?_)
  refine ZN.putF (ws' := [(b, .inr (5, [.long 0, .ref q8, .int 0, .ref q15, .ref q22, .ref q31, .ref q38, .ref q46, .ref q53, .ref q61, .int 0, .int 0, .int 0, .int 0, .int 0, .int 0, .int 0, .int 0, .int 0, .int 0, .ref q68, .ref q76, .ref q84, .ref q92, .ref q100, .ref q107, .ref q115, .ref q123, .ref q131, .ref q139, .ref q147, .ref q154, .ref q161, .ref q168, .ref q177, .null, .int 0, .null])), (q8, zB E 400), (q15, zI E 2), (q22, zI E 2), (q31, zZ E 288), (q38, zI E 2), (q46, zI E 96), (q53, zI E 2), (q61, zI E 100), (q68, zI E 3), (q76, zI E 60), (q84, zI E 60), (q92, zI E 60), (q100, zI E 60), (q107, zI E 3), (q115, zI E 24), (q123, zI E 24), (q131, zI E 24), (q139, zI E 24), (q147, zI E 30), (q154, zZ E 2), (q161, zI E 4), (q168, zI E 4), (q177, zI E 256)]) dX5_init_179 inX5 tyX5_ok nmX5 rfl 0 rfl 34 (by decide) kw713 rfl rfl rfl rfl (tyX5_ok 34 (by decide)) rfl rfl (Nat.le_of_ble_eq_true rfl) rfl ?_
  refine ZN.aload dX5_init_182 0 rfl ?_
  refine ZN.bipush (v := 81) dX5_init_183 (by decide) ?_
  refine ZN.newa (N := 81) (a0 := (81, .inl (fun _ => 0))) 1 dX5_init_185 kw50 rfl rfl (fun _ => rfl) (by decide) (by decide) (by decide) (by decide) (by decide) (fun q185 => ?_)
  refine ZN.putF (ws' := [(b, .inr (5, [.long 0, .ref q8, .int 0, .ref q15, .ref q22, .ref q31, .ref q38, .ref q46, .ref q53, .ref q61, .int 0, .int 0, .int 0, .int 0, .int 0, .int 0, .int 0, .int 0, .int 0, .int 0, .ref q68, .ref q76, .ref q84, .ref q92, .ref q100, .ref q107, .ref q115, .ref q123, .ref q131, .ref q139, .ref q147, .ref q154, .ref q161, .ref q168, .ref q177, .ref q185, .int 0, .null])), (q8, zB E 400), (q15, zI E 2), (q22, zI E 2), (q31, zZ E 288), (q38, zI E 2), (q46, zI E 96), (q53, zI E 2), (q61, zI E 100), (q68, zI E 3), (q76, zI E 60), (q84, zI E 60), (q92, zI E 60), (q100, zI E 60), (q107, zI E 3), (q115, zI E 24), (q123, zI E 24), (q131, zI E 24), (q139, zI E 24), (q147, zI E 30), (q154, zZ E 2), (q161, zI E 4), (q168, zI E 4), (q177, zI E 256), (q185, zI E 81)]) dX5_init_187 inX5 tyX5_ok nmX5 rfl 0 rfl 35 (by decide) kw714 rfl rfl rfl rfl (tyX5_ok 35 (by decide)) rfl rfl (Nat.le_of_ble_eq_true rfl) rfl ?_
  refine ZN.aload dX5_init_190 0 rfl ?_
  refine ZN.bipush (v := 8) dX5_init_191 (by decide) ?_
  refine ZN.newa (N := 8) (a0 := (8, .inl (fun _ => 0))) 1 dX5_init_193 kw50 rfl rfl (fun _ => rfl) (by decide) (by decide) (by decide) (by decide) (by decide) (fun q193 => ?_)
  refine ZN.putF (ws' := [(b, .inr (5, [.long 0, .ref q8, .int 0, .ref q15, .ref q22, .ref q31, .ref q38, .ref q46, .ref q53, .ref q61, .int 0, .int 0, .int 0, .int 0, .int 0, .int 0, .int 0, .int 0, .int 0, .int 0, .ref q68, .ref q76, .ref q84, .ref q92, .ref q100, .ref q107, .ref q115, .ref q123, .ref q131, .ref q139, .ref q147, .ref q154, .ref q161, .ref q168, .ref q177, .ref q185, .int 0, .ref q193])), (q8, zB E 400), (q15, zI E 2), (q22, zI E 2), (q31, zZ E 288), (q38, zI E 2), (q46, zI E 96), (q53, zI E 2), (q61, zI E 100), (q68, zI E 3), (q76, zI E 60), (q84, zI E 60), (q92, zI E 60), (q100, zI E 60), (q107, zI E 3), (q115, zI E 24), (q123, zI E 24), (q131, zI E 24), (q139, zI E 24), (q147, zI E 30), (q154, zZ E 2), (q161, zI E 4), (q168, zI E 4), (q177, zI E 256), (q185, zI E 81), (q193, zI E 8)]) dX5_init_195 inX5 tyX5_ok nmX5 rfl 0 rfl 37 (by decide) kw716 rfl rfl rfl rfl (tyX5_ok 37 (by decide)) rfl rfl (Nat.le_of_ble_eq_true rfl) rfl ?_
  refine ZN.aload dX5_init_198 0 rfl ?_
  refine ZN.get (v := .ref q15) dX5_init_199 inX5 rfl 0 rfl 3 (by decide) kw682 rfl rfl ?_
  refine ZN.iconst (v := 0) dX5_init_202 (by decide) ?_
  refine ZN.bipush (v := 8) dX5_init_203 (by decide) ?_
  refine ZN.iast (N := 2) (f := (fun _ => 0)) (j := 0) (ws' := [(b, .inr (5, [.long 0, .ref q8, .int 0, .ref q15, .ref q22, .ref q31, .ref q38, .ref q46, .ref q53, .ref q61, .int 0, .int 0, .int 0, .int 0, .int 0, .int 0, .int 0, .int 0, .int 0, .int 0, .ref q68, .ref q76, .ref q84, .ref q92, .ref q100, .ref q107, .ref q115, .ref q123, .ref q131, .ref q139, .ref q147, .ref q154, .ref q161, .ref q168, .ref q177, .ref q185, .int 0, .ref q193])), (q8, zB E 400), (q15, cIa E 2 (upd (fun _ => 0) 0 8)), (q22, zI E 2), (q31, zZ E 288), (q38, zI E 2), (q46, zI E 96), (q53, zI E 2), (q61, zI E 100), (q68, zI E 3), (q76, zI E 60), (q84, zI E 60), (q92, zI E 60), (q100, zI E 60), (q107, zI E 3), (q115, zI E 24), (q123, zI E 24), (q131, zI E 24), (q139, zI E 24), (q147, zI E 30), (q154, zZ E 2), (q161, zI E 4), (q168, zI E 4), (q177, zI E 256), (q185, zI E 81), (q193, zI E 8)]) dX5_init_205 2 rfl (by unfold vp_in; decide) (by decide) rfl ?_
  refine ZN.aload dX5_init_206 0 rfl ?_
  refine ZN.get (v := .ref q22) dX5_init_207 inX5 rfl 0 rfl 4 (by decide) kw683 rfl rfl ?_
  refine ZN.iconst (v := 0) dX5_init_210 (by decide) ?_
  refine ZN.bipush (v := 8) dX5_init_211 (by decide) ?_
  refine ZN.iast (N := 2) (f := (fun _ => 0)) (j := 0) (ws' := [(b, .inr (5, [.long 0, .ref q8, .int 0, .ref q15, .ref q22, .ref q31, .ref q38, .ref q46, .ref q53, .ref q61, .int 0, .int 0, .int 0, .int 0, .int 0, .int 0, .int 0, .int 0, .int 0, .int 0, .ref q68, .ref q76, .ref q84, .ref q92, .ref q100, .ref q107, .ref q115, .ref q123, .ref q131, .ref q139, .ref q147, .ref q154, .ref q161, .ref q168, .ref q177, .ref q185, .int 0, .ref q193])), (q8, zB E 400), (q15, cIa E 2 (upd (fun _ => 0) 0 8)), (q22, cIa E 2 (upd (fun _ => 0) 0 8)), (q31, zZ E 288), (q38, zI E 2), (q46, zI E 96), (q53, zI E 2), (q61, zI E 100), (q68, zI E 3), (q76, zI E 60), (q84, zI E 60), (q92, zI E 60), (q100, zI E 60), (q107, zI E 3), (q115, zI E 24), (q123, zI E 24), (q131, zI E 24), (q139, zI E 24), (q147, zI E 30), (q154, zZ E 2), (q161, zI E 4), (q168, zI E 4), (q177, zI E 256), (q185, zI E 81), (q193, zI E 8)]) dX5_init_213 3 rfl (by unfold vp_in; decide) (by decide) rfl ?_
  refine ZN.iconst (v := 0) dX5_init_214 (by decide) ?_
  refine ZN.istore (lv' := [(1, .int 0), (0, .ref b)]) dX5_init_215 (by decide) rfl ?_
  refine ZN.iload dX5_init_216 0 rfl ?_
  refine ZN.bipush (v := 10) dX5_init_217 (by decide) ?_
  refine ZN.geF dX5_init_219 (by decide) ?_
  refine ZN.aload dX5_init_222 1 rfl ?_
  refine ZN.get (v := .ref q147) dX5_init_223 inX5 rfl 0 rfl 30 (by decide) kw709 rfl rfl ?_
  refine ZN.iload dX5_init_226 0 rfl ?_
  refine ZN.iconst (v := 2) dX5_init_227 (by decide) ?_
  refine ZN.iast (N := 30) (f := (fun _ => 0)) (j := 0) (ws' := [(b, .inr (5, [.long 0, .ref q8, .int 0, .ref q15, .ref q22, .ref q31, .ref q38, .ref q46, .ref q53, .ref q61, .int 0, .int 0, .int 0, .int 0, .int 0, .int 0, .int 0, .int 0, .int 0, .int 0, .ref q68, .ref q76, .ref q84, .ref q92, .ref q100, .ref q107, .ref q115, .ref q123, .ref q131, .ref q139, .ref q147, .ref q154, .ref q161, .ref q168, .ref q177, .ref q185, .int 0, .ref q193])), (q8, zB E 400), (q15, cIa E 2 (upd (fun _ => 0) 0 8)), (q22, cIa E 2 (upd (fun _ => 0) 0 8)), (q31, zZ E 288), (q38, zI E 2), (q46, zI E 96), (q53, zI E 2), (q61, zI E 100), (q68, zI E 3), (q76, zI E 60), (q84, zI E 60), (q92, zI E 60), (q100, zI E 60), (q107, zI E 3), (q115, zI E 24), (q123, zI E 24), (q131, zI E 24), (q139, zI E 24), (q147, cIa E 30 (hatC 1)), (q154, zZ E 2), (q161, zI E 4), (q168, zI E 4), (q177, zI E 256), (q185, zI E 81), (q193, zI E 8)]) dX5_init_228 19 rfl (by unfold vp_in; decide) (by decide) rfl ?_
  refine ZN.iinc (v := 1) (lv' := [(1, .int 1), (0, .ref b)]) dX5_init_229 0 rfl (by decide) (by decide) rfl ?_
  refine ZN.goto dX5_init_232 ?_
  refine ZN.iload dX5_init_216 0 rfl ?_
  refine ZN.bipush (v := 10) dX5_init_217 (by decide) ?_
  refine ZN.geF dX5_init_219 (by decide) ?_
  refine ZN.aload dX5_init_222 1 rfl ?_
  refine ZN.get (v := .ref q147) dX5_init_223 inX5 rfl 0 rfl 30 (by decide) kw709 rfl rfl ?_
  refine ZN.iload dX5_init_226 0 rfl ?_
  refine ZN.iconst (v := 2) dX5_init_227 (by decide) ?_
  refine ZN.iast (N := 30) (f := (hatC 1)) (j := 1) (ws' := [(b, .inr (5, [.long 0, .ref q8, .int 0, .ref q15, .ref q22, .ref q31, .ref q38, .ref q46, .ref q53, .ref q61, .int 0, .int 0, .int 0, .int 0, .int 0, .int 0, .int 0, .int 0, .int 0, .int 0, .ref q68, .ref q76, .ref q84, .ref q92, .ref q100, .ref q107, .ref q115, .ref q123, .ref q131, .ref q139, .ref q147, .ref q154, .ref q161, .ref q168, .ref q177, .ref q185, .int 0, .ref q193])), (q8, zB E 400), (q15, cIa E 2 (upd (fun _ => 0) 0 8)), (q22, cIa E 2 (upd (fun _ => 0) 0 8)), (q31, zZ E 288), (q38, zI E 2), (q46, zI E 96), (q53, zI E 2), (q61, zI E 100), (q68, zI E 3), (q76, zI E 60), (q84, zI E 60), (q92, zI E 60), (q100, zI E 60), (q107, zI E 3), (q115, zI E 24), (q123, zI E 24), (q131, zI E 24), (q139, zI E 24), (q147, cIa E 30 (hatC 2)), (q154, zZ E 2), (q161, zI E 4), (q168, zI E 4), (q177, zI E 256), (q185, zI E 81), (q193, zI E 8)]) dX5_init_228 19 rfl (by unfold vp_in; decide) (by decide) rfl ?_
  refine ZN.iinc (v := 2) (lv' := [(1, .int 2), (0, .ref b)]) dX5_init_229 0 rfl (by decide) (by decide) rfl ?_
  refine ZN.goto dX5_init_232 ?_
  refine ZN.iload dX5_init_216 0 rfl ?_
  refine ZN.bipush (v := 10) dX5_init_217 (by decide) ?_
  refine ZN.geF dX5_init_219 (by decide) ?_
  refine ZN.aload dX5_init_222 1 rfl ?_
  refine ZN.get (v := .ref q147) dX5_init_223 inX5 rfl 0 rfl 30 (by decide) kw709 rfl rfl ?_
  refine ZN.iload dX5_init_226 0 rfl ?_
  refine ZN.iconst (v := 2) dX5_init_227 (by decide) ?_
  refine ZN.iast (N := 30) (f := (hatC 2)) (j := 2) (ws' := [(b, .inr (5, [.long 0, .ref q8, .int 0, .ref q15, .ref q22, .ref q31, .ref q38, .ref q46, .ref q53, .ref q61, .int 0, .int 0, .int 0, .int 0, .int 0, .int 0, .int 0, .int 0, .int 0, .int 0, .ref q68, .ref q76, .ref q84, .ref q92, .ref q100, .ref q107, .ref q115, .ref q123, .ref q131, .ref q139, .ref q147, .ref q154, .ref q161, .ref q168, .ref q177, .ref q185, .int 0, .ref q193])), (q8, zB E 400), (q15, cIa E 2 (upd (fun _ => 0) 0 8)), (q22, cIa E 2 (upd (fun _ => 0) 0 8)), (q31, zZ E 288), (q38, zI E 2), (q46, zI E 96), (q53, zI E 2), (q61, zI E 100), (q68, zI E 3), (q76, zI E 60), (q84, zI E 60), (q92, zI E 60), (q100, zI E 60), (q107, zI E 3), (q115, zI E 24), (q123, zI E 24), (q131, zI E 24), (q139, zI E 24), (q147, cIa E 30 (hatC 3)), (q154, zZ E 2), (q161, zI E 4), (q168, zI E 4), (q177, zI E 256), (q185, zI E 81), (q193, zI E 8)]) dX5_init_228 19 rfl (by unfold vp_in; decide) (by decide) rfl ?_
  refine ZN.iinc (v := 3) (lv' := [(1, .int 3), (0, .ref b)]) dX5_init_229 0 rfl (by decide) (by decide) rfl ?_
  refine ZN.goto dX5_init_232 ?_
  refine ZN.iload dX5_init_216 0 rfl ?_
  refine ZN.bipush (v := 10) dX5_init_217 (by decide) ?_
  refine ZN.geF dX5_init_219 (by decide) ?_
  refine ZN.aload dX5_init_222 1 rfl ?_
  refine ZN.get (v := .ref q147) dX5_init_223 inX5 rfl 0 rfl 30 (by decide) kw709 rfl rfl ?_
  refine ZN.iload dX5_init_226 0 rfl ?_
  refine ZN.iconst (v := 2) dX5_init_227 (by decide) ?_
  refine ZN.iast (N := 30) (f := (hatC 3)) (j := 3) (ws' := [(b, .inr (5, [.long 0, .ref q8, .int 0, .ref q15, .ref q22, .ref q31, .ref q38, .ref q46, .ref q53, .ref q61, .int 0, .int 0, .int 0, .int 0, .int 0, .int 0, .int 0, .int 0, .int 0, .int 0, .ref q68, .ref q76, .ref q84, .ref q92, .ref q100, .ref q107, .ref q115, .ref q123, .ref q131, .ref q139, .ref q147, .ref q154, .ref q161, .ref q168, .ref q177, .ref q185, .int 0, .ref q193])), (q8, zB E 400), (q15, cIa E 2 (upd (fun _ => 0) 0 8)), (q22, cIa E 2 (upd (fun _ => 0) 0 8)), (q31, zZ E 288), (q38, zI E 2), (q46, zI E 96), (q53, zI E 2), (q61, zI E 100), (q68, zI E 3), (q76, zI E 60), (q84, zI E 60), (q92, zI E 60), (q100, zI E 60), (q107, zI E 3), (q115, zI E 24), (q123, zI E 24), (q131, zI E 24), (q139, zI E 24), (q147, cIa E 30 (hatC 4)), (q154, zZ E 2), (q161, zI E 4), (q168, zI E 4), (q177, zI E 256), (q185, zI E 81), (q193, zI E 8)]) dX5_init_228 19 rfl (by unfold vp_in; decide) (by decide) rfl ?_
  refine ZN.iinc (v := 4) (lv' := [(1, .int 4), (0, .ref b)]) dX5_init_229 0 rfl (by decide) (by decide) rfl ?_
  refine ZN.goto dX5_init_232 ?_
  refine ZN.iload dX5_init_216 0 rfl ?_
  refine ZN.bipush (v := 10) dX5_init_217 (by decide) ?_
  refine ZN.geF dX5_init_219 (by decide) ?_
  refine ZN.aload dX5_init_222 1 rfl ?_
  refine ZN.get (v := .ref q147) dX5_init_223 inX5 rfl 0 rfl 30 (by decide) kw709 rfl rfl ?_
  refine ZN.iload dX5_init_226 0 rfl ?_
  refine ZN.iconst (v := 2) dX5_init_227 (by decide) ?_
  refine ZN.iast (N := 30) (f := (hatC 4)) (j := 4) (ws' := [(b, .inr (5, [.long 0, .ref q8, .int 0, .ref q15, .ref q22, .ref q31, .ref q38, .ref q46, .ref q53, .ref q61, .int 0, .int 0, .int 0, .int 0, .int 0, .int 0, .int 0, .int 0, .int 0, .int 0, .ref q68, .ref q76, .ref q84, .ref q92, .ref q100, .ref q107, .ref q115, .ref q123, .ref q131, .ref q139, .ref q147, .ref q154, .ref q161, .ref q168, .ref q177, .ref q185, .int 0, .ref q193])), (q8, zB E 400), (q15, cIa E 2 (upd (fun _ => 0) 0 8)), (q22, cIa E 2 (upd (fun _ => 0) 0 8)), (q31, zZ E 288), (q38, zI E 2), (q46, zI E 96), (q53, zI E 2), (q61, zI E 100), (q68, zI E 3), (q76, zI E 60), (q84, zI E 60), (q92, zI E 60), (q100, zI E 60), (q107, zI E 3), (q115, zI E 24), (q123, zI E 24), (q131, zI E 24), (q139, zI E 24), (q147, cIa E 30 (hatC 5)), (q154, zZ E 2), (q161, zI E 4), (q168, zI E 4), (q177, zI E 256), (q185, zI E 81), (q193, zI E 8)]) dX5_init_228 19 rfl (by unfold vp_in; decide) (by decide) rfl ?_
  refine ZN.iinc (v := 5) (lv' := [(1, .int 5), (0, .ref b)]) dX5_init_229 0 rfl (by decide) (by decide) rfl ?_
  refine ZN.goto dX5_init_232 ?_
  refine ZN.iload dX5_init_216 0 rfl ?_
  refine ZN.bipush (v := 10) dX5_init_217 (by decide) ?_
  refine ZN.geF dX5_init_219 (by decide) ?_
  refine ZN.aload dX5_init_222 1 rfl ?_
  refine ZN.get (v := .ref q147) dX5_init_223 inX5 rfl 0 rfl 30 (by decide) kw709 rfl rfl ?_
  refine ZN.iload dX5_init_226 0 rfl ?_
  refine ZN.iconst (v := 2) dX5_init_227 (by decide) ?_
  refine ZN.iast (N := 30) (f := (hatC 5)) (j := 5) (ws' := [(b, .inr (5, [.long 0, .ref q8, .int 0, .ref q15, .ref q22, .ref q31, .ref q38, .ref q46, .ref q53, .ref q61, .int 0, .int 0, .int 0, .int 0, .int 0, .int 0, .int 0, .int 0, .int 0, .int 0, .ref q68, .ref q76, .ref q84, .ref q92, .ref q100, .ref q107, .ref q115, .ref q123, .ref q131, .ref q139, .ref q147, .ref q154, .ref q161, .ref q168, .ref q177, .ref q185, .int 0, .ref q193])), (q8, zB E 400), (q15, cIa E 2 (upd (fun _ => 0) 0 8)), (q22, cIa E 2 (upd (fun _ => 0) 0 8)), (q31, zZ E 288), (q38, zI E 2), (q46, zI E 96), (q53, zI E 2), (q61, zI E 100), (q68, zI E 3), (q76, zI E 60), (q84, zI E 60), (q92, zI E 60), (q100, zI E 60), (q107, zI E 3), (q115, zI E 24), (q123, zI E 24), (q131, zI E 24), (q139, zI E 24), (q147, cIa E 30 (hatC 6)), (q154, zZ E 2), (q161, zI E 4), (q168, zI E 4), (q177, zI E 256), (q185, zI E 81), (q193, zI E 8)]) dX5_init_228 19 rfl (by unfold vp_in; decide) (by decide) rfl ?_
  refine ZN.iinc (v := 6) (lv' := [(1, .int 6), (0, .ref b)]) dX5_init_229 0 rfl (by decide) (by decide) rfl ?_
  refine ZN.goto dX5_init_232 ?_
  refine ZN.iload dX5_init_216 0 rfl ?_
  refine ZN.bipush (v := 10) dX5_init_217 (by decide) ?_
  refine ZN.geF dX5_init_219 (by decide) ?_
  refine ZN.aload dX5_init_222 1 rfl ?_
  refine ZN.get (v := .ref q147) dX5_init_223 inX5 rfl 0 rfl 30 (by decide) kw709 rfl rfl ?_
  refine ZN.iload dX5_init_226 0 rfl ?_
  refine ZN.iconst (v := 2) dX5_init_227 (by decide) ?_
  refine ZN.iast (N := 30) (f := (hatC 6)) (j := 6) (ws' := [(b, .inr (5, [.long 0, .ref q8, .int 0, .ref q15, .ref q22, .ref q31, .ref q38, .ref q46, .ref q53, .ref q61, .int 0, .int 0, .int 0, .int 0, .int 0, .int 0, .int 0, .int 0, .int 0, .int 0, .ref q68, .ref q76, .ref q84, .ref q92, .ref q100, .ref q107, .ref q115, .ref q123, .ref q131, .ref q139, .ref q147, .ref q154, .ref q161, .ref q168, .ref q177, .ref q185, .int 0, .ref q193])), (q8, zB E 400), (q15, cIa E 2 (upd (fun _ => 0) 0 8)), (q22, cIa E 2 (upd (fun _ => 0) 0 8)), (q31, zZ E 288), (q38, zI E 2), (q46, zI E 96), (q53, zI E 2), (q61, zI E 100), (q68, zI E 3), (q76, zI E 60), (q84, zI E 60), (q92, zI E 60), (q100, zI E 60), (q107, zI E 3), (q115, zI E 24), (q123, zI E 24), (q131, zI E 24), (q139, zI E 24), (q147, cIa E 30 (hatC 7)), (q154, zZ E 2), (q161, zI E 4), (q168, zI E 4), (q177, zI E 256), (q185, zI E 81), (q193, zI E 8)]) dX5_init_228 19 rfl (by unfold vp_in; decide) (by decide) rfl ?_
  refine ZN.iinc (v := 7) (lv' := [(1, .int 7), (0, .ref b)]) dX5_init_229 0 rfl (by decide) (by decide) rfl ?_
  refine ZN.goto dX5_init_232 ?_
  refine ZN.iload dX5_init_216 0 rfl ?_
  refine ZN.bipush (v := 10) dX5_init_217 (by decide) ?_
  refine ZN.geF dX5_init_219 (by decide) ?_
  refine ZN.aload dX5_init_222 1 rfl ?_
  refine ZN.get (v := .ref q147) dX5_init_223 inX5 rfl 0 rfl 30 (by decide) kw709 rfl rfl ?_
  refine ZN.iload dX5_init_226 0 rfl ?_
  refine ZN.iconst (v := 2) dX5_init_227 (by decide) ?_
  refine ZN.iast (N := 30) (f := (hatC 7)) (j := 7) (ws' := [(b, .inr (5, [.long 0, .ref q8, .int 0, .ref q15, .ref q22, .ref q31, .ref q38, .ref q46, .ref q53, .ref q61, .int 0, .int 0, .int 0, .int 0, .int 0, .int 0, .int 0, .int 0, .int 0, .int 0, .ref q68, .ref q76, .ref q84, .ref q92, .ref q100, .ref q107, .ref q115, .ref q123, .ref q131, .ref q139, .ref q147, .ref q154, .ref q161, .ref q168, .ref q177, .ref q185, .int 0, .ref q193])), (q8, zB E 400), (q15, cIa E 2 (upd (fun _ => 0) 0 8)), (q22, cIa E 2 (upd (fun _ => 0) 0 8)), (q31, zZ E 288), (q38, zI E 2), (q46, zI E 96), (q53, zI E 2), (q61, zI E 100), (q68, zI E 3), (q76, zI E 60), (q84, zI E 60), (q92, zI E 60), (q100, zI E 60), (q107, zI E 3), (q115, zI E 24), (q123, zI E 24), (q131, zI E 24), (q139, zI E 24), (q147, cIa E 30 (hatC 8)), (q154, zZ E 2), (q161, zI E 4), (q168, zI E 4), (q177, zI E 256), (q185, zI E 81), (q193, zI E 8)]) dX5_init_228 19 rfl (by unfold vp_in; decide) (by decide) rfl ?_
  refine ZN.iinc (v := 8) (lv' := [(1, .int 8), (0, .ref b)]) dX5_init_229 0 rfl (by decide) (by decide) rfl ?_
  refine ZN.goto dX5_init_232 ?_
  refine ZN.iload dX5_init_216 0 rfl ?_
  refine ZN.bipush (v := 10) dX5_init_217 (by decide) ?_
  refine ZN.geF dX5_init_219 (by decide) ?_
  refine ZN.aload dX5_init_222 1 rfl ?_
  refine ZN.get (v := .ref q147) dX5_init_223 inX5 rfl 0 rfl 30 (by decide) kw709 rfl rfl ?_
  refine ZN.iload dX5_init_226 0 rfl ?_
  refine ZN.iconst (v := 2) dX5_init_227 (by decide) ?_
  refine ZN.iast (N := 30) (f := (hatC 8)) (j := 8) (ws' := [(b, .inr (5, [.long 0, .ref q8, .int 0, .ref q15, .ref q22, .ref q31, .ref q38, .ref q46, .ref q53, .ref q61, .int 0, .int 0, .int 0, .int 0, .int 0, .int 0, .int 0, .int 0, .int 0, .int 0, .ref q68, .ref q76, .ref q84, .ref q92, .ref q100, .ref q107, .ref q115, .ref q123, .ref q131, .ref q139, .ref q147, .ref q154, .ref q161, .ref q168, .ref q177, .ref q185, .int 0, .ref q193])), (q8, zB E 400), (q15, cIa E 2 (upd (fun _ => 0) 0 8)), (q22, cIa E 2 (upd (fun _ => 0) 0 8)), (q31, zZ E 288), (q38, zI E 2), (q46, zI E 96), (q53, zI E 2), (q61, zI E 100), (q68, zI E 3), (q76, zI E 60), (q84, zI E 60), (q92, zI E 60), (q100, zI E 60), (q107, zI E 3), (q115, zI E 24), (q123, zI E 24), (q131, zI E 24), (q139, zI E 24), (q147, cIa E 30 (hatC 9)), (q154, zZ E 2), (q161, zI E 4), (q168, zI E 4), (q177, zI E 256), (q185, zI E 81), (q193, zI E 8)]) dX5_init_228 19 rfl (by unfold vp_in; decide) (by decide) rfl ?_
  refine ZN.iinc (v := 9) (lv' := [(1, .int 9), (0, .ref b)]) dX5_init_229 0 rfl (by decide) (by decide) rfl ?_
  refine ZN.goto dX5_init_232 ?_
  refine ZN.iload dX5_init_216 0 rfl ?_
  refine ZN.bipush (v := 10) dX5_init_217 (by decide) ?_
  refine ZN.geF dX5_init_219 (by decide) ?_
  refine ZN.aload dX5_init_222 1 rfl ?_
  refine ZN.get (v := .ref q147) dX5_init_223 inX5 rfl 0 rfl 30 (by decide) kw709 rfl rfl ?_
  refine ZN.iload dX5_init_226 0 rfl ?_
  refine ZN.iconst (v := 2) dX5_init_227 (by decide) ?_
  refine ZN.iast (N := 30) (f := (hatC 9)) (j := 9) (ws' := [(b, .inr (5, [.long 0, .ref q8, .int 0, .ref q15, .ref q22, .ref q31, .ref q38, .ref q46, .ref q53, .ref q61, .int 0, .int 0, .int 0, .int 0, .int 0, .int 0, .int 0, .int 0, .int 0, .int 0, .ref q68, .ref q76, .ref q84, .ref q92, .ref q100, .ref q107, .ref q115, .ref q123, .ref q131, .ref q139, .ref q147, .ref q154, .ref q161, .ref q168, .ref q177, .ref q185, .int 0, .ref q193])), (q8, zB E 400), (q15, cIa E 2 (upd (fun _ => 0) 0 8)), (q22, cIa E 2 (upd (fun _ => 0) 0 8)), (q31, zZ E 288), (q38, zI E 2), (q46, zI E 96), (q53, zI E 2), (q61, zI E 100), (q68, zI E 3), (q76, zI E 60), (q84, zI E 60), (q92, zI E 60), (q100, zI E 60), (q107, zI E 3), (q115, zI E 24), (q123, zI E 24), (q131, zI E 24), (q139, zI E 24), (q147, cIa E 30 (hatC 10)), (q154, zZ E 2), (q161, zI E 4), (q168, zI E 4), (q177, zI E 256), (q185, zI E 81), (q193, zI E 8)]) dX5_init_228 19 rfl (by unfold vp_in; decide) (by decide) rfl ?_
  refine ZN.iinc (v := 10) (lv' := [(1, .int 10), (0, .ref b)]) dX5_init_229 0 rfl (by decide) (by decide) rfl ?_
  refine ZN.goto dX5_init_232 ?_
  refine ZN.iload dX5_init_216 0 rfl ?_
  refine ZN.bipush (v := 10) dX5_init_217 (by decide) ?_
  refine ZN.geT dX5_init_219 (by decide) ?_
  exact ZN.vret dX5_init_235 (by decide) (by decide) ⟨lu [b, q8, q15, q22, q31, q38, q46, q53, q61, q68, q76, q84, q92, q100, q107, q115, q123, q131, q139, q147, q154, q161, q168, q177, q185, q193], rfl⟩

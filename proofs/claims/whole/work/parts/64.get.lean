/-! The start. -/
theorem sta_get {args : Array Value} {s : State} {A : Nat → Prop} {C n : String} {t : List Int32} (hN : t.length < 2 ^ 31) (hl : (Cond.laysStatic C n "[I").before args s = true) (hini : (Cond.initialized C).before args s = true) (harr : (Cond.arrayOf (.static C n "[I") .int).before args s = true) (hlen : (Cond.eq (.length (.static C n "[I")) (.int (Int32.ofNat t.length))).before args s = true) (hel : ∀ j, j < t.length → (Cond.eq (.elem (.static C n "[I") (.int (Int32.ofNat j))) (.int (t.getD j 0))).before args s = true) (hA : ∀ a : Nat, a < s.heap.size → ¬ A a) : ∃ r : Nat, va_Z C n "[I" (.ref r) A s s.heap ∧ va_T .int r t.length (fun j => .int (t.getD j 0)) A s s.heap := by
  obtain ⟨r, h1, h2⟩ := va_Tof (A := A) hN harr (va_eqt hlen) (fun j hj => va_eqt (hel j hj)) hA
  exact ⟨r, va_Zof hl hini h1 hA, h2⟩
theorem stE_0 : ∀ j, j < tSX.length → Cond.eq (.elem (.static RX4 "STEP_X" "[I") (.int (Int32.ofNat j))) (.int (tSX.getD j 0)) ∈ flatC (Jvm.Cond.and given_1 narrow_1) := by decide +kernel
theorem stA_0 : Cond.arrayOf (.static RX4 "STEP_X" "[I") .int ∈ flatC (Jvm.Cond.and given_1 narrow_1) := by decide +kernel
theorem stL_0 : Cond.eq (.length (.static RX4 "STEP_X" "[I")) (.int (Int32.ofNat tSX.length)) ∈ flatC (Jvm.Cond.and given_1 narrow_1) := by decide +kernel
theorem stW_0 : Cond.laysStatic RX4 "STEP_X" "[I" ∈ lw_tbl := by decide +kernel
theorem stE_1 : ∀ j, j < tSY.length → Cond.eq (.elem (.static RX4 "STEP_Y" "[I") (.int (Int32.ofNat j))) (.int (tSY.getD j 0)) ∈ flatC (Jvm.Cond.and given_1 narrow_1) := by decide +kernel
theorem stA_1 : Cond.arrayOf (.static RX4 "STEP_Y" "[I") .int ∈ flatC (Jvm.Cond.and given_1 narrow_1) := by decide +kernel
theorem stL_1 : Cond.eq (.length (.static RX4 "STEP_Y" "[I")) (.int (Int32.ofNat tSY.length)) ∈ flatC (Jvm.Cond.and given_1 narrow_1) := by decide +kernel
theorem stW_1 : Cond.laysStatic RX4 "STEP_Y" "[I" ∈ lw_tbl := by decide +kernel
theorem stE_2 : ∀ j, j < tNO.length → Cond.eq (.elem (.static RX3 "NUMBERS_OF" "[I") (.int (Int32.ofNat j))) (.int (tNO.getD j 0)) ∈ flatC (Jvm.Cond.and given_1 narrow_1) := by decide +kernel
theorem stA_2 : Cond.arrayOf (.static RX3 "NUMBERS_OF" "[I") .int ∈ flatC (Jvm.Cond.and given_1 narrow_1) := by decide +kernel
theorem stL_2 : Cond.eq (.length (.static RX3 "NUMBERS_OF" "[I")) (.int (Int32.ofNat tNO.length)) ∈ flatC (Jvm.Cond.and given_1 narrow_1) := by decide +kernel
theorem stW_2 : Cond.laysStatic RX3 "NUMBERS_OF" "[I" ∈ lw_tbl := by decide +kernel
theorem stE_3 : ∀ j, j < tLE.length → Cond.eq (.elem (.static RX3 "LEAST" "[I") (.int (Int32.ofNat j))) (.int (tLE.getD j 0)) ∈ flatC (Jvm.Cond.and given_1 narrow_1) := by decide +kernel
theorem stA_3 : Cond.arrayOf (.static RX3 "LEAST" "[I") .int ∈ flatC (Jvm.Cond.and given_1 narrow_1) := by decide +kernel
theorem stL_3 : Cond.eq (.length (.static RX3 "LEAST" "[I")) (.int (Int32.ofNat tLE.length)) ∈ flatC (Jvm.Cond.and given_1 narrow_1) := by decide +kernel
theorem stW_3 : Cond.laysStatic RX3 "LEAST" "[I" ∈ lw_tbl := by decide +kernel
theorem stE_4 : ∀ j, j < tMO.length → Cond.eq (.elem (.static RX3 "MOST" "[I") (.int (Int32.ofNat j))) (.int (tMO.getD j 0)) ∈ flatC (Jvm.Cond.and given_1 narrow_1) := by decide +kernel
theorem stA_4 : Cond.arrayOf (.static RX3 "MOST" "[I") .int ∈ flatC (Jvm.Cond.and given_1 narrow_1) := by decide +kernel
theorem stL_4 : Cond.eq (.length (.static RX3 "MOST" "[I")) (.int (Int32.ofNat tMO.length)) ∈ flatC (Jvm.Cond.and given_1 narrow_1) := by decide +kernel
theorem stW_4 : Cond.laysStatic RX3 "MOST" "[I" ∈ lw_tbl := by decide +kernel
theorem aoW : Cond.arrayOver (.object "SquareAlbum$Notes") ∈ lw_tbl := by decide +kernel
theorem stat_get {s : State} {b : Nat} (hts : ∀ w ∈ lw_tbl, w.before #[Value.ref b] s = true) (hgv : (Jvm.Cond.and given_1 narrow_1).before #[Value.ref b] s = true) : ∃ st : Nat → Nat, ∀ E : Env5, E.2.2.2.2 = st → (∀ q, AW E q → s.heap.size ≤ q) → stat E s s.heap := by
  have hs := flat_of_before _ hgv
  have hA : ∀ a : Nat, a < s.heap.size → ¬ (fun q : Nat => s.heap.size ≤ q) a := fun a h => Nat.not_le.mpr h
  obtain ⟨r0, z0, t0⟩ := sta_get (t := tSX) (A := fun q : Nat => s.heap.size ≤ q) (by decide) (hts _ stW_0) (hts _ (gtbl_in _ kw1)) (hs _ stA_0) (hs _ stL_0) (fun j hj => hs _ (stE_0 j hj)) hA
  obtain ⟨r1, z1, t1⟩ := sta_get (t := tSY) (A := fun q : Nat => s.heap.size ≤ q) (by decide) (hts _ stW_1) (hts _ (gtbl_in _ kw1)) (hs _ stA_1) (hs _ stL_1) (fun j hj => hs _ (stE_1 j hj)) hA
  obtain ⟨r2, z2, t2⟩ := sta_get (t := tNO) (A := fun q : Nat => s.heap.size ≤ q) (by decide) (hts _ stW_2) (hts _ (gtbl_in _ kw2)) (hs _ stA_2) (hs _ stL_2) (fun j hj => hs _ (stE_2 j hj)) hA
  obtain ⟨r3, z3, t3⟩ := sta_get (t := tLE) (A := fun q : Nat => s.heap.size ≤ q) (by decide) (hts _ stW_3) (hts _ (gtbl_in _ kw2)) (hs _ stA_3) (hs _ stL_3) (fun j hj => hs _ (stE_3 j hj)) hA
  obtain ⟨r4, z4, t4⟩ := sta_get (t := tMO) (A := fun q : Nat => s.heap.size ≤ q) (by decide) (hts _ stW_4) (hts _ (gtbl_in _ kw2)) (hs _ stA_4) (hs _ stL_4) (fun j hj => hs _ (stE_4 j hj)) hA
  refine ⟨fun k => if k = 0 then r0 else if k = 1 then r1 else if k = 2 then r2 else if k = 3 then r3 else r4, fun E hE hW => ?_⟩
  have e0 : eS E 0 = r0 := by show E.2.2.2.2 0 = r0; rw [hE]; rfl
  have e1 : eS E 1 = r1 := by show E.2.2.2.2 1 = r1; rw [hE]; rfl
  have e2 : eS E 2 = r2 := by show E.2.2.2.2 2 = r2; rw [hE]; rfl
  have e3 : eS E 3 = r3 := by show E.2.2.2.2 3 = r3; rw [hE]; rfl
  have e4 : eS E 4 = r4 := by show E.2.2.2.2 4 = r4; rw [hE]; rfl
  refine ⟨⟨?_, ?_⟩, ⟨?_, ?_⟩, ⟨?_, ?_⟩, ⟨?_, ?_⟩, ⟨?_, ?_⟩⟩
  · rw [e0]; exact z0.narrow hW
  · rw [e0]; exact t0.narrow hW
  · rw [e1]; exact z1.narrow hW
  · rw [e1]; exact t1.narrow hW
  · rw [e2]; exact z2.narrow hW
  · rw [e2]; exact t2.narrow hW
  · rw [e3]; exact z3.narrow hW
  · rw [e3]; exact t3.narrow hW
  · rw [e4]; exact z4.narrow hW
  · rw [e4]; exact t4.narrow hW
theorem K_get {s : State} {args : Array Value} (g : ∀ w ∈ gtbl, w.before args s = true) (ao : (Cond.arrayOver (.object "SquareAlbum$Notes")).before args s = true) : ∃ (dC : Nat → ClassId) (dI : Nat → Nat → Nat) (cA : Nat → ClassId), ∀ (a st : Nat → Nat), va_K (eD (dC, dI, cA, a, st)) cls6 (tys5 (dC, dI, cA, a, st)) s := by
  obtain ⟨c0, i0, k0⟩ := u_known (C := RX0) (T := TX0) (N := 5) (n := 5) g inX0 (g _ kc85)
  obtain ⟨c1, i1, k1⟩ := u_known (C := RX1) (T := TX1) (N := 6) (n := 6) g inX1 (g _ kc52)
  obtain ⟨c2, i2, k2⟩ := u_known (C := RX2) (T := TX2) (N := 14) (n := 14) g inX2 (g _ kc110)
  obtain ⟨c3, i3, k3⟩ := u_known (C := RX3) (T := TX3) (N := 7) (n := 7) g inX3 (g _ kc21)
  obtain ⟨c4, i4, k4⟩ := u_known (C := RX4) (T := TX4) (N := 8) (n := 8) g inX4 (g _ kc13)
  obtain ⟨c5, i5, k5⟩ := u_known (C := RX5) (T := TX5) (N := 38) (n := 38) g inX5 (g _ kc674)
  obtain ⟨aB, kB, pB, fB, gB, hB⟩ := Cond.arrayClass_spec (g _ kw49)
  obtain ⟨aI, kI, pI, fI, gI, hI⟩ := Cond.arrayClass_spec (g _ kw50)
  obtain ⟨aJ, kJ, pJ, fJ, gJ, hJ⟩ := Cond.arrayClass_spec (g _ kw166)
  obtain ⟨aZ, kZ, pZ, fZ, gZ, hZ⟩ := Cond.arrayClass_spec (g _ kw108)
  obtain ⟨pN, aN, kN, fN1, fN2, fN3, fN4, fN5⟩ := Cond.arrayOver_spec ao
  refine ⟨fun k => if k = 0 then c0 else if k = 1 then c1 else if k = 2 then c2 else if k = 3 then c3 else if k = 4 then c4 else c5, fun k => if k = 0 then i0 else if k = 1 then i1 else if k = 2 then i2 else if k = 3 then i3 else if k = 4 then i4 else i5, fun k => if k = 0 then aB else if k = 1 then aI else if k = 2 then aJ else if k = 3 then aZ else aN, fun a st => ⟨fun c q hq => ?_, fun k q hk => ?_⟩⟩
  · rcases (show c = 0 ∨ c = 1 ∨ c = 2 ∨ c = 3 ∨ c = 4 ∨ c = 5 ∨ 6 ≤ c by omega) with rfl | rfl | rfl | rfl | rfl | rfl | h
    · cases hq; exact k0
    · cases hq; exact k1
    · cases hq; exact k2
    · cases hq; exact k3
    · cases hq; exact k4
    · cases hq; exact k5
    · rw [List.getElem?_eq_none (by simpa using h)] at hq; cases hq
  · rcases (show k = 0 ∨ k = 1 ∨ k = 2 ∨ k = 3 ∨ k = 4 ∨ 5 ≤ k by omega) with rfl | rfl | rfl | rfl | rfl | h
    · cases hk; exact ⟨fun n z => ⟨fun k h => (by cases h), kB, gB, pB, hB⟩, fB⟩
    · cases hk; exact ⟨fun n z => ⟨fun k h => (by cases h), kI, gI, pI, hI⟩, fI⟩
    · cases hk; exact ⟨fun n z => ⟨fun k h => (by cases h), kJ, gJ, pJ, hJ⟩, fJ⟩
    · cases hk; exact ⟨fun n z => ⟨fun k h => (by cases h), kZ, gZ, pZ, hZ⟩, fZ⟩
    · cases hk; exact ⟨fun n z => ⟨fun k h => (by cases h), kN, fN3, pN, fN4⟩, kN, pN, fN3, fN4, fN1, fN5⟩
    · rw [List.getElem?_eq_none (by simpa using h)] at hk; cases hk

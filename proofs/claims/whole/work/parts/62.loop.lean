/-! The law's loop. -/
theorem and31 (x : Int32) : ∃ k : Nat, k < 32 ∧ x &&& 31 = nI k := by
  refine ⟨x.toBitVec.toNat % 32, Nat.mod_lt _ (by decide), ?_⟩
  apply Int32.toBitVec_inj.mp
  apply BitVec.eq_of_toNat_eq
  have h1 : (x &&& 31).toBitVec.toNat = x.toBitVec.toNat % 32 := by
    rw [Int32.toBitVec_and, BitVec.toNat_and]
    exact Nat.and_two_pow_sub_one_eq_mod x.toBitVec.toNat 5
  rw [h1]
  show _ = (BitVec.ofNat 32 (x.toBitVec.toNat % 32)).toNat
  rw [BitVec.toNat_ofNat]
  have h2 : x.toBitVec.toNat % 32 < 32 := Nat.mod_lt _ (by decide)
  exact (Nat.mod_eq_of_lt (Nat.lt_of_lt_of_le h2 (by decide))).symm
section LAWL
variable {p : Program} {l : Launch} {e : Env} {s : State} {m : MethodId} {below : List Frame} {meth : Method} {c : Code} {b L : Nat} {xs : Nat → Int32} {E : Env5} {nc ns : Nat}
set_option maxRecDepth 20000 in
theorem law_loop (C : LC p s m meth c b L xs E) (hcs : nc ≤ 600000 ∧ ns ≤ 7302250) : ∀ (n i : Nat), L - i = n → i ≤ L → ∀ M : Mem, Inv M → ZL p l e s m below meth c b E nc ns 18 (lv0 b E i) [] M := by
  intro n
  induction n using Nat.strongRecOn with
  | ind n ih =>
    intro i hn hiL M hI hw H locs ls hP hS hl
    have hL := C.2.2.2.2.2.2
    obtain ⟨hx, hb, hr, hml, hown, hts, hX, hbl, hlocks, hgv⟩ := C.1
    have hbA : ¬ (fun q : Nat => s.heap.size ≤ q) b := Nat.not_le.mpr hbl
    refine lv_iload_n hx hb dL_law_18.1 rfl (lv_at hl 3 rfl) ?_
    refine lv_aload_n hx hb dL_law_19.1 rfl (lv_at hl 0 rfl) ?_
    refine va_slen hx hb hX hbl hbA hS dL_law_20.1 ?_
    refine lv_bipush (v := 6) hx hb dL_law_21.1 (by decide) ?_
    refine lv_isub hx hb dL_law_23.1 ?_
    refine lv_icmp_gt (tgt := 1189) hx hb dL_law_24.1 (by decide) (fun c1 => ?_) (fun c1 => ?_)
    · refine lv_iconst (v := 1) hx hb dL_law_1189.1 (by decide) ?_
      refine va_forget (fun q hq => hS.2.2 q hq) ?_
      refine W.widen (k := 600000) (n := 7302250) hcs.1 hcs.2 ?_
      exact lw_ret hx hb hr hlocks dL_law_1190.1
    · have hi : i + 6 ≤ L := by
        have e1 : Int32.ofNat L - 6 = i32 ((L : Int) - 6) := i32_sub (L : Int) 6
        have e2 : nI i = i32 (i : Int) := rfl
        rw [e1, e2, i32_lt (by omega)] at c1
        omega
      refine lv_aload_n hx hb dL_law_27.1 rfl (lv_at hl 0 rfl) ?_
      refine lv_iload_n hx hb dL_law_28.1 rfl (lv_at hl 3 rfl) ?_
      refine va_sld hx hb hX hbl hbA hS (vp_in_nI (show i < L by omega) (by omega)) dL_law_29.1 ?_
      rw [nI_clamp (show i < 2 ^ 31 by omega)]
      refine lv_bipush (v := 31) hx hb dL_law_30.1 (by decide) ?_
      refine lv_iand hx hb dL_law_32.1 ?_
      obtain ⟨k, hk, ek⟩ := and31 (xs i)
      rw [ek]
      have K : ∀ M : Mem, Inv M → ZL p l e s m below meth c b E nc ns 1183 (lv0 b E i) [] M := by
        intro M2 hI2 hw2 H2 locs2 ls2 hP2 hS2 hl2
        refine lv_iinc (v := nI (i + 6)) (lv' := [(3, .int (nI (i + 6))), (0, .ref b), (1, .ref (eA E 0)), (2, .ref (eA E 42))]) hx hb dL_law_1183.1 hl2 (k := 3) rfl (nI_add i 6) (by decide) rfl (fun ls3 hl3 => ?_)
        refine lv_goto (tgt := 18) hx hb dL_law_1186.1 (by decide) ?_
        exact ih (L - (i + 6)) (by omega) (i + 6) rfl hi M2 hI2 hw2 H2 locs2 ls3 hP2 hS2 (lv_sub hl3 [1, 2, 3, 0] rfl)
      rcases (show k = 0 ∨ k = 1 ∨ k = 2 ∨ k = 3 ∨ k = 4 ∨ k = 5 ∨ k = 6 ∨ k = 7 ∨ k = 8 ∨ k = 9 ∨ k = 10 ∨ k = 11 ∨ k = 12 ∨ k = 13 ∨ k = 14 ∨ k = 15 ∨ k = 16 ∨ k = 17 ∨ k = 18 ∨ k = 19 ∨ k = 20 ∨ k = 21 ∨ k = 22 ∨ k = 23 ∨ k = 24 ∨ k = 25 ∨ k = 26 ∨ k = 27 ∨ k = 28 ∨ k = 29 ∨ k = 30 ∨ k = 31 by omega) with rfl | rfl | rfl | rfl | rfl | rfl | rfl | rfl | rfl | rfl | rfl | rfl | rfl | rfl | rfl | rfl | rfl | rfl | rfl | rfl | rfl | rfl | rfl | rfl | rfl | rfl | rfl | rfl | rfl | rfl | rfl | rfl
      · exact lv_tableIn (tgt := 176) (off := 143) hx hb dL_law_33.1 (by decide) (by decide) rfl (by decide) (law_0 C hcs hi hI K hw H locs ls hP hS hl)
      · exact lv_tableIn (tgt := 239) (off := 206) hx hb dL_law_33.1 (by decide) (by decide) rfl (by decide) (law_1 C hcs hi hI K hw H locs ls hP hS hl)
      · exact lv_tableIn (tgt := 252) (off := 219) hx hb dL_law_33.1 (by decide) (by decide) rfl (by decide) (law_2 C hcs hi hI K hw H locs ls hP hS hl)
      · exact lv_tableIn (tgt := 265) (off := 232) hx hb dL_law_33.1 (by decide) (by decide) rfl (by decide) (law_3 C hcs hi hI K hw H locs ls hP hS hl)
      · exact lv_tableIn (tgt := 298) (off := 265) hx hb dL_law_33.1 (by decide) (by decide) rfl (by decide) (law_4 C hcs hi hI K hw H locs ls hP hS hl)
      · exact lv_tableIn (tgt := 331) (off := 298) hx hb dL_law_33.1 (by decide) (by decide) rfl (by decide) (law_5 C hcs hi hI K hw H locs ls hP hS hl)
      · exact lv_tableIn (tgt := 364) (off := 331) hx hb dL_law_33.1 (by decide) (by decide) rfl (by decide) (law_6 C hcs hi hI K hw H locs ls hP hS hl)
      · exact lv_tableIn (tgt := 397) (off := 364) hx hb dL_law_33.1 (by decide) (by decide) rfl (by decide) (law_7 C hcs hi hI K hw H locs ls hP hS hl)
      · exact lv_tableIn (tgt := 440) (off := 407) hx hb dL_law_33.1 (by decide) (by decide) rfl (by decide) (law_8 C hcs hi hI K hw H locs ls hP hS hl)
      · exact lv_tableIn (tgt := 463) (off := 430) hx hb dL_law_33.1 (by decide) (by decide) rfl (by decide) (law_9 C hcs hi hI K hw H locs ls hP hS hl)
      · exact lv_tableIn (tgt := 526) (off := 493) hx hb dL_law_33.1 (by decide) (by decide) rfl (by decide) (law_10 C hcs hi hI K hw H locs ls hP hS hl)
      · exact lv_tableIn (tgt := 559) (off := 526) hx hb dL_law_33.1 (by decide) (by decide) rfl (by decide) (law_11 C hcs hi hI K hw H locs ls hP hS hl)
      · exact lv_tableIn (tgt := 612) (off := 579) hx hb dL_law_33.1 (by decide) (by decide) rfl (by decide) (law_12 C hcs hi hI K hw H locs ls hP hS hl)
      · exact lv_tableIn (tgt := 665) (off := 632) hx hb dL_law_33.1 (by decide) (by decide) rfl (by decide) (law_13 C hcs hi hI K hw H locs ls hP hS hl)
      · exact lv_tableIn (tgt := 688) (off := 655) hx hb dL_law_33.1 (by decide) (by decide) rfl (by decide) (law_14 C hcs hi hI K hw H locs ls hP hS hl)
      · exact lv_tableIn (tgt := 741) (off := 708) hx hb dL_law_33.1 (by decide) (by decide) rfl (by decide) (law_15 C hcs hi hI K hw H locs ls hP hS hl)
      · exact lv_tableIn (tgt := 754) (off := 721) hx hb dL_law_33.1 (by decide) (by decide) rfl (by decide) (law_16 C hcs hi hI K hw H locs ls hP hS hl)
      · exact lv_tableIn (tgt := 767) (off := 734) hx hb dL_law_33.1 (by decide) (by decide) rfl (by decide) (law_17 C hcs hi hI K hw H locs ls hP hS hl)
      · exact lv_tableIn (tgt := 810) (off := 777) hx hb dL_law_33.1 (by decide) (by decide) rfl (by decide) (law_18 C hcs hi hI K hw H locs ls hP hS hl)
      · exact lv_tableIn (tgt := 843) (off := 810) hx hb dL_law_33.1 (by decide) (by decide) rfl (by decide) (law_19 C hcs hi hI K hw H locs ls hP hS hl)
      · exact lv_tableIn (tgt := 866) (off := 833) hx hb dL_law_33.1 (by decide) (by decide) rfl (by decide) (law_20 C hcs hi hI K hw H locs ls hP hS hl)
      · exact lv_tableIn (tgt := 909) (off := 876) hx hb dL_law_33.1 (by decide) (by decide) rfl (by decide) (law_21 C hcs hi hI K hw H locs ls hP hS hl)
      · exact lv_tableIn (tgt := 942) (off := 909) hx hb dL_law_33.1 (by decide) (by decide) rfl (by decide) (law_22 C hcs hi hI K hw H locs ls hP hS hl)
      · exact lv_tableIn (tgt := 965) (off := 932) hx hb dL_law_33.1 (by decide) (by decide) rfl (by decide) (law_23 C hcs hi hI K hw H locs ls hP hS hl)
      · exact lv_tableIn (tgt := 978) (off := 945) hx hb dL_law_33.1 (by decide) (by decide) rfl (by decide) (law_24 C hcs hi hI K hw H locs ls hP hS hl)
      · exact lv_tableIn (tgt := 1011) (off := 978) hx hb dL_law_33.1 (by decide) (by decide) rfl (by decide) (law_25 C hcs hi hI K hw H locs ls hP hS hl)
      · exact lv_tableIn (tgt := 1034) (off := 1001) hx hb dL_law_33.1 (by decide) (by decide) rfl (by decide) (law_26 C hcs hi hI K hw H locs ls hP hS hl)
      · exact lv_tableIn (tgt := 1067) (off := 1034) hx hb dL_law_33.1 (by decide) (by decide) rfl (by decide) (law_27 C hcs hi hI K hw H locs ls hP hS hl)
      · exact lv_tableIn (tgt := 1100) (off := 1067) hx hb dL_law_33.1 (by decide) (by decide) rfl (by decide) (law_28 C hcs hi hI K hw H locs ls hP hS hl)
      · exact lv_tableIn (tgt := 1123) (off := 1090) hx hb dL_law_33.1 (by decide) (by decide) rfl (by decide) (law_29 C hcs hi hI K hw H locs ls hP hS hl)
      · exact lv_tableIn (tgt := 1146) (off := 1113) hx hb dL_law_33.1 (by decide) (by decide) rfl (by decide) (law_30 C hcs hi hI K hw H locs ls hP hS hl)
      · exact lv_tableIn (tgt := 1169) (off := 1136) hx hb dL_law_33.1 (by decide) (by decide) rfl (by decide) (law_31 C hcs hi hI K hw H locs ls hP hS hl)
end LAWL

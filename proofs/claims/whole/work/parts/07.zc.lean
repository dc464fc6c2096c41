/-! Calls. -/
theorem ntbl_tab : ∀ w ∈ ntbl, w.onTables = true := by
  intro w hw
  rcases ntbl_kind w hw with ⟨a, i, b, n, d, h2, rfl⟩ | ⟨a, i, x, h2, rfl⟩ <;> rfl
theorem nests.same {u U : State} (h : u.vm = U.vm) (hn : nests u) : nests U := fun w hw => va_Nw.same (ntbl_tab w hw) h (hn w hw)
theorem Wld.blind {E : Env5} {M : Mem} {av : List Value} : FrameBlind (va_Pc av (Wld E M)) := by
  intro a U g mk hv
  obtain ⟨rfl, hP, hK, hi, hst, hn, hw⟩ := hv
  exact ⟨rfl, hP, va_K.moved (u := U) (Vm.Alike.refl U.vm) hK, hi, stat.moved (u := U) (Vm.Alike.refl U.vm) hst, nests.same (u := U) rfl hn, hw⟩
theorem Wld.at {E : Env5} {M : Mem} {p : Program} {s U : State} {m : MethodId} {args : Array Value} {meth : Method} {c : Code} {own : String} {cc : ByteArray} {nL : Nat} {ret : Option FieldType} {H : Heap} {locs : List Loc} {av : List Value} (C : Cx E p s m args meth c own cc nL ret) (hP : va_P (eD E) cls6 (wd E M) H) (hS : va_S (AW E) s.heap H locs) (hw : WfM M) (hU : U.heap = H) (hW : s.WarmedH U.vm) : va_Pc av (Wld E M) av.toArray U :=
  ⟨rfl, by rw [hU]; exact hP, va_K.moved hW.alike C.2.2.2.2.2.2.2.1, C.2.2.2.2.2.2.2.2.1, by rw [hU]; exact (stat.moved hW.alike C.2.2.2.2.2.2.2.2.2.1).kept hS.2.1, nests.warm hW C.2.2.2.2.2.2.2.2.2.2, hw⟩
theorem good_wsY {y : MethodName} {cc : ByteArray} {nL : Nat} {ret : Option FieldType} (hc : Cond.code y cc nL ret ∈ gtbl) : GoodIn gtbl (wsY y cc nL ret) := by
  intro w hw
  have h : w ∈ gtbl := by
    rcases List.mem_cons.mp hw with rfl | h
    · exact hc
    · exact h
  exact ⟨h, good_of_word (gtbl_good w h)⟩
theorem zcall {p : Program} {l : Launch} {e : Env} {R : Room} {s : State} {m : MethodId} {args : Array Value} {below : List Frame} {meth : Method} {c : Code} {H : Heap} {locs : List Loc} {cells slots : Nat} {Q : State → Prop} {E : Env5} {Q' : Option Value → Mem → Prop} {pc : Nat} {ls : Array Slot} {rest st0 : List Value} {a : Array Value}
    (hr : va_Run p l e R s m args below meth c H locs cells slots 0 0 (F0 m pc ls st0) rest (QQ E Q' a) (AW E)) (hS : va_S (AW E) s.heap H locs)
    (kk : ∀ (r : Option Value) (M' : Mem) (H1 : Heap) (locs1 : List Loc), Q' r M' → WfM M' → va_P (eD E) cls6 (wd E M') H1 → va_S (AW E) s.heap H1 locs1 → W p l e R s m args below meth c H1 locs1 cells slots Q (F0 m (pc + 3) ls (r.toList ++ rest))) : W p l e R s m args below meth c H locs cells slots Q (F0 m pc ls st0) := by
  intro T hT X
  obtain ⟨v, st₀, t, T', L, h0, X', hL, e1, e2, ⟨r, M', hv, hq, hw, hP, hz, hk⟩, st⟩ := hr T hT X
  cases hv
  rw [h0] at hz hk
  obtain ⟨t2, a1, b1⟩ := kk v M' T'.heap (locs ++ L) hq hw (by rw [e1]; exact hP)
    ⟨Nat.le_trans hS.1 (by rw [e1]; exact hz), fun q h1 h2 => by rw [e1, hk q (Nat.lt_of_lt_of_le h1 hS.1) h2]; exact hS.2.1 q h1 h2, fun q hq => by
      rcases List.mem_append.mp hq with h | h
      · exact hS.2.2 q h
      · exact hL q h⟩ T' rfl X'
  exact ⟨t2, st t2 a1, b1⟩
/-- what a callee answers, and the memory behind it -/
def PR (r0 : Option Value) (M1 : Mem) : Option Value → Mem → Prop := fun r M => r = r0 ∧ M = M1
section ZC
variable {l : Launch} {E : Env5} {own : String} {cc : ByteArray} {nL : Nat} {ret : Option FieldType} {h : Nat} {pc pc' tgt : Nat} {lv lv' : List (Nat × Value)} {st st' : List Value} {M M' : Mem} {Q : Option Value → Mem → Prop}
theorem Z.callV {x b h' n ci N nL' : Nat} {y : MethodName} {cc' : ByteArray} {ret' : Option FieldType} {As rest : List Value} {TT : u_T} {fs : List Value} {r0 : Option Value} (hd : dq cc pc (.invokevirtual x) 3 pc') (hM : Cn l E y cc' nL' ret' h' (.ref (eA E b) :: As) M (PR r0 M'))
    (w1 : Cond.methodLink own x y ∈ gtbl) (w2 : Cond.instanceMethod y ∈ gtbl) (w3 : Cond.selects y.cls y y ∈ gtbl) (w4 : Cond.initialized y.cls ∈ gtbl) (w5 : Cond.code y cc' nL' ret' ∈ gtbl)
    (hdesc : y.cls ≠ "java/lang/invoke/MethodHandle" ∧ y.cls ≠ "java/lang/invoke/VarHandle" ∧ (parseMethodDescriptor y.desc).map (fun d => d.parameters.length) = some n)
    (hb : b < KW) (he : cellM E M b = .inr (ci, fs)) (hc : cls6[ci]? = some (y.cls, TT, N)) (hR : h' < h) (hm : nL' ≤ 21) (hn : As.length = n) (hst : st = As.reverse ++ .ref (eA E b) :: rest) (hW : (rest.map fun v => v.category).sum ≤ 8) (hst' : r0.toList ++ rest = st')
    (k : Z l E own cc nL ret h pc' lv st' M' Q) : Z l E own cc nL ret h pc lv st M Q := by
  obtain ⟨hd, rfl⟩ := hd
  subst hst'
  intro hw p e s m args below meth c H locs ls C hP hS hl
  have hts := C.2.2.2.2.1
  refine zcall (va_runV (As := As) (rest := rest) (C := y.cls) (b := eA E b) (bytes := cc') (maxL := nL') (ret := ret') (n := n) (Ts := gtbl) ⟨C.1, C.2.1, C.2.2.1, C.2.2.2.1, hts⟩ hM ⟨callB_of n hts (good_wsY w5) rfl rfl rfl (hts _ w4) (hts _ w1) hdesc ⟨hR, ?_⟩, hts _ w2, hts _ w3⟩ ⟨Wld.blind, va_recv C.2.2.2.2.2.2.2.1 hP hc (wd_at hb he), fun U hU hW2 => Wld.at C hP hS hw hU hW2⟩ rfl hn hl.1 hst (lv_room hW) hd ⟨Nat.zero_le _, Nat.zero_le _⟩) hS ?_
  · show 8 + (nL' + 11) + 40 * h' ≤ 40 * h
    omega
  · rintro r M2 H1 locs1 ⟨rfl, rfl⟩ hw2 hP1 hS1
    exact k hw2 p e s m args below meth c H1 locs1 ls C hP1 hS1 hl
theorem Z.callS {x h' n nL' : Nat} {y : MethodName} {cc' : ByteArray} {ret' : Option FieldType} {As rest : List Value} {r0 : Option Value} (hd : dq cc pc (.invokestatic x) 3 pc') (hM : Cn l E y cc' nL' ret' h' As M (PR r0 M'))
    (w1 : Cond.methodLink own x y ∈ gtbl) (w2 : Cond.static y ∈ gtbl) (w4 : Cond.initialized y.cls ∈ gtbl) (w5 : Cond.code y cc' nL' ret' ∈ gtbl)
    (hdesc : y.cls ≠ "java/lang/invoke/MethodHandle" ∧ y.cls ≠ "java/lang/invoke/VarHandle" ∧ (parseMethodDescriptor y.desc).map (fun d => d.parameters.length) = some n)
    (hR : h' < h) (hm : nL' ≤ 21) (hn : As.length = n) (hst : st = As.reverse ++ rest) (hW : (rest.map fun v => v.category).sum ≤ 8) (hst' : r0.toList ++ rest = st')
    (k : Z l E own cc nL ret h pc' lv st' M' Q) : Z l E own cc nL ret h pc lv st M Q := by
  obtain ⟨hd, rfl⟩ := hd
  subst hst'
  intro hw p e s m args below meth c H locs ls C hP hS hl
  have hts := C.2.2.2.2.1
  refine zcall (va_runS (As := As) (rest := rest) (bytes := cc') (maxL := nL') (ret := ret') (n := n) (Ts := gtbl) ⟨C.1, C.2.1, C.2.2.1, C.2.2.2.1, hts⟩ hM ⟨callB_of n hts (good_wsY w5) rfl rfl rfl (hts _ w4) (hts _ w1) hdesc ⟨hR, ?_⟩, hts _ w2⟩ ⟨Wld.blind, fun U hU hW2 => Wld.at C hP hS hw hU hW2⟩ rfl hn hl.1 hst (lv_room hW) hd ⟨Nat.zero_le _, Nat.zero_le _⟩) hS ?_
  · show 8 + (nL' + 11) + 40 * h' ≤ 40 * h
    omega
  · rintro r M2 H1 locs1 ⟨rfl, rfl⟩ hw2 hP1 hS1
    exact k hw2 p e s m args below meth c H1 locs1 ls C hP1 hS1 hl
theorem Z.callSN {x h' n nL' : Nat} {y : MethodName} {host : String} {cc' : ByteArray} {ret' : Option FieldType} {As rest : List Value} {r0 : Option Value} (hd : dq cc pc (.invokestatic x) 3 pc') (hM : Cn l E y cc' nL' ret' h' As M (PR r0 M'))
    (w1 : Cond.methodLinkNest own x y host ∈ ntbl) (w2 : Cond.static y ∈ gtbl) (w4 : Cond.initialized y.cls ∈ gtbl) (w5 : Cond.code y cc' nL' ret' ∈ gtbl)
    (hdesc : y.cls ≠ "java/lang/invoke/MethodHandle" ∧ y.cls ≠ "java/lang/invoke/VarHandle" ∧ (parseMethodDescriptor y.desc).map (fun d => d.parameters.length) = some n)
    (hR : h' < h) (hm : nL' ≤ 21) (hn : As.length = n) (hst : st = As.reverse ++ rest) (hW : (rest.map fun v => v.category).sum ≤ 8) (hst' : r0.toList ++ rest = st')
    (k : Z l E own cc nL ret h pc' lv st' M' Q) : Z l E own cc nL ret h pc lv st M Q := by
  obtain ⟨hd, rfl⟩ := hd
  subst hst'
  intro hw p e s m args below meth c H locs ls C hP hS hl
  have hts := C.2.2.2.2.1
  refine zcall (va_runSN (As := As) (rest := rest) (host := host) (bytes := cc') (maxL := nL') (ret := ret') (n := n) (Ts := gtbl) ⟨C.1, C.2.1, C.2.2.1, C.2.2.2.1, hts⟩ hM ⟨va_cnB n hts (good_wsY w5) rfl rfl rfl (C.2.2.2.2.2.2.2.2.2.2 _ w1) (hts _ w4) hdesc ⟨hR, ?_⟩, hts _ w2, trivial⟩ ⟨Wld.blind, fun U hU hW2 => Wld.at C hP hS hw hU hW2⟩ rfl hn hl.1 hst (lv_room hW) hd ⟨Nat.zero_le _, Nat.zero_le _⟩) hS ?_
  · show 8 + (nL' + 11) + 40 * h' ≤ 40 * h
    omega
  · rintro r M2 H1 locs1 ⟨rfl, rfl⟩ hw2 hP1 hS1
    exact k hw2 p e s m args below meth c H1 locs1 ls C hP1 hS1 hl
/-- System.arraycopy between two int arrays -/
theorem Z.acopy {x a0 a1 n0 n1 : Nat} {sp dp n : Int32} (hd : dq cc pc (.invokestatic x) 3 pc') (w1 : Cond.methodLink own x arraycopyName ∈ gtbl) (w2 : Cond.native arraycopyName ∈ gtbl) (w3 : Cond.static arraycopyName ∈ gtbl) (w4 : Cond.initialized "java/lang/System" ∈ gtbl)
    (ha0 : iA a0 n0) (ha1 : iA a1 n1) (h1 : ¬ sp < 0) (h2 : ¬ dp < 0) (h3 : ¬ n < 0) (h4 : sp.toNatClampNeg + n.toNatClampNeg ≤ n0) (h5 : dp.toNatClampNeg + n.toNatClampNeg ≤ n1) (hR : 0 < h) (hW : (st.map fun v => v.category).sum ≤ 8)
    (k : Z l E own cc nL ret h pc' lv st (sW M a1 (va_cpy (M.1 a0) (M.1 a1) sp.toNatClampNeg dp.toNatClampNeg n.toNatClampNeg)) Q) : Z l E own cc nL ret h pc lv (.int n :: .int dp :: .ref (eA E a1) :: .int sp :: .ref (eA E a0) :: st) M Q := by
  obtain ⟨hd, rfl⟩ := hd
  intro hw p e s m args below meth c H locs ls C hP hS hl
  have hts := C.2.2.2.2.1
  refine va_copyi C.1 C.2.1 (C.2.2.1.trans hl.1.symm) C.2.2.2.1 (hts _ w1) (hts _ w2) (hts _ w3) (hts _ w4) C.2.2.2.2.2.2.2.1 hP (wd_D C.2.2.2.2.2.2.2.2.1) hS a0 a1 1 1 (wd_at ha0.1 (ha0.2.2 _ _ _ _)) (wd_at ha1.1 (ha1.2.2 _ _ _ _)) rfl rfl rfl h1 h2 h3 h4 h5 (fun i _ => rfl) hR ?_ hd ?_
  · have : nativeFrameWords "java/lang/System" "arraycopy" 5 + 11 ≤ 32 := by decide +kernel
    show _ ≤ 40 * h
    omega
  · intro H1 locs1 hP1 _ hS1
    refine k hw p e s m args below meth c H1 locs1 ls C ?_ hS1 hl
    rw [wd_set (M' := sW M a1 (va_cpy (M.1 a0) (M.1 a1) sp.toNatClampNeg dp.toNatClampNeg n.toNatClampNeg)) (by unfold cellM; rw [ha1.2.2, sW_k]) sW_o] at hP1
    exact hP1
end ZC

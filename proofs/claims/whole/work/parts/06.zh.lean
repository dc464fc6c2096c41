/-! Heap, calls, ends. -/
section ZH
variable {l : Launch} {E : Env5} {own : String} {cc : ByteArray} {nL : Nat} {ret : Option FieldType} {h : Nat} {pc pc' tgt : Nat} {lv lv' : List (Nat × Value)} {st st' : List Value} {M M' : Mem} {Q : Option Value → Mem → Prop}
theorem WfM_of {M M' : Mem} (he : M'.2.2 0 = M.2.2 0) (h : WfM M) : WfM M' := by unfold WfM at *; rw [he]; exact h
theorem WfM_sI {k j : Nat} {x : Int32} (h : WfM M) : WfM (sI M k j x) := h
theorem WfM_sJ {k j : Nat} {x : Int64} (h : WfM M) : WfM (sJ M k j x) := h
theorem WfM_sW {k : Nat} {f : Nat → Int32} (h : WfM M) : WfM (sW M k f) := h
/-- a field read: ref's own word -/
theorem Z.get {x : Nat} {C : String} {TT : u_T} {N ci b : Nat} {fs : List Value} {v : Value} (hd : dq cc pc (.getfield x) 3 pc') (hin : ∀ w ∈ u_ws C TT N, w ∈ gtbl) (hc : cls6[ci]? = some (C, TT, N)) (hb : b < KW) (he : cellM E M b = .inr (ci, fs)) (k : Nat) (hk : k < N) (hw0 : Cond.fieldLink own x C (TT k).2.1 (TT k).2.2.1 ∈ gtbl) (ho : (TT k).1 = C) (hv : fs[k]? = some v)
    (kk : Z l E own cc nL ret h pc' lv (v :: st) M Q) : Z l E own cc nL ret h pc lv (.ref (eA E b) :: st) M Q := by
  obtain ⟨hd, rfl⟩ := hd
  exact fun hw p e s m args below meth c H locs ls Cc hP hS hl => va_get (ref := C) Cc.1 Cc.2.1 Cc.2.2.2.2.1 hin Cc.2.2.2.1 Cc.2.2.2.2.2.2.2.1 hP b (wd_at hb he) hc k hk (Cc.2.2.2.2.1 _ hw0) (fun y hy => by rw [ho] at hy; exact hy) hv hd (kk hw p e s m args below meth c H locs ls Cc hP hS hl)
theorem Z.getN {x : Nat} {C host : String} {TT : u_T} {N ci b : Nat} {fs : List Value} {v : Value} (hd : dq cc pc (.getfield x) 3 pc') (hin : ∀ w ∈ u_ws C TT N, w ∈ gtbl) (hc : cls6[ci]? = some (C, TT, N)) (hb : b < KW) (he : cellM E M b = .inr (ci, fs)) (k : Nat) (hk : k < N) (hw0 : Cond.fieldLinkNest own x C (TT k).2.1 (TT k).2.2.1 host ∈ ntbl) (ho : (TT k).1 = C) (hv : fs[k]? = some v)
    (kk : Z l E own cc nL ret h pc' lv (v :: st) M Q) : Z l E own cc nL ret h pc lv (.ref (eA E b) :: st) M Q := by
  obtain ⟨hd, rfl⟩ := hd
  exact fun hw p e s m args below meth c H locs ls Cc hP hS hl => va_getN (ref := C) Cc.1 Cc.2.1 Cc.2.2.2.2.1 hin Cc.2.2.2.1 Cc.2.2.2.2.2.2.2.1 hP b (wd_at hb he) hc k hk (va_Nw.use rfl (Cc.2.2.2.2.2.2.2.2.2.2 _ hw0)) (fun y hy => by rw [ho] at hy; exact hy) hv hd (kk hw p e s m args below meth c H locs ls Cc hP hS hl)
theorem Z.put {x : Nat} {C : String} {TT : u_T} {ty0 : Nat → FieldType} {N ci b : Nat} {fs : List Value} {v : Value} {ty : FieldType} (hd : dq cc pc (.putfield x) 3 pc') (hin : ∀ w ∈ u_ws C TT N, w ∈ gtbl) (hty : ∀ k, k < N → parseFieldDescriptor (TT k).2.2.1 = some (ty0 k)) (hnm : ∀ a, a < N → ∀ b, b < N → a ≠ b → (TT a).2.1 ≠ (TT b).2.1) (hc : cls6[ci]? = some (C, TT, N)) (hb : b < KW) (he : cellM E M b = .inr (ci, fs)) (k : Nat) (hk : k < N) (hw0 : Cond.fieldLink own x C (TT k).2.1 (TT k).2.2.1 ∈ gtbl) (ho : (TT k).1 = C) (hfin : (TT k).2.2.2 = false) (hpd : parseFieldDescriptor (TT k).2.2.1 = some ty) (hn : narrow ty v = v) (hfit : fits ty v = true) (hlen : k < fs.length)
    (he' : cellM E M' b = .inr (ci, fs.set k v)) (ho' : ∀ a, a ≠ b → M'.1 a = M.1 a ∧ M'.2.1 a = M.2.1 a ∧ M'.2.2 a = M.2.2 a) (hwf : WfM M → WfM M')
    (kk : Z l E own cc nL ret h pc' lv st M' Q) : Z l E own cc nL ret h pc lv (v :: .ref (eA E b) :: st) M Q := by
  obtain ⟨hd, rfl⟩ := hd
  exact fun hw p e s m args below meth c H locs ls Cc hP hS hl => va_put (ref := C) Cc.1 Cc.2.1 Cc.2.2.2.2.1 hin ty0 hty hnm Cc.2.2.2.1 Cc.2.2.2.2.2.2.2.1 hP (wd_D Cc.2.2.2.2.2.2.2.2.1) hS b (wd_at hb he) hc k hk (Cc.2.2.2.2.1 _ hw0) (fun y hy => by rw [ho] at hy; exact hy) hfin hpd hn hfit hlen hd
    (fun H1 locs1 hP1 _ hS1 => kk (hwf hw) p e s m args below meth c H1 locs1 ls Cc (by rw [wd_set he' ho'] at hP1; exact hP1) hS1 hl)
theorem Z.putN {x : Nat} {C host : String} {TT : u_T} {ty0 : Nat → FieldType} {N ci b : Nat} {fs : List Value} {v : Value} {ty : FieldType} (hd : dq cc pc (.putfield x) 3 pc') (hin : ∀ w ∈ u_ws C TT N, w ∈ gtbl) (hty : ∀ k, k < N → parseFieldDescriptor (TT k).2.2.1 = some (ty0 k)) (hnm : ∀ a, a < N → ∀ b, b < N → a ≠ b → (TT a).2.1 ≠ (TT b).2.1) (hc : cls6[ci]? = some (C, TT, N)) (hb : b < KW) (he : cellM E M b = .inr (ci, fs)) (k : Nat) (hk : k < N) (hw0 : Cond.fieldLinkNest own x C (TT k).2.1 (TT k).2.2.1 host ∈ ntbl) (ho : (TT k).1 = C) (hfin : (TT k).2.2.2 = false) (hpd : parseFieldDescriptor (TT k).2.2.1 = some ty) (hn : narrow ty v = v) (hfit : fits ty v = true) (hlen : k < fs.length)
    (he' : cellM E M' b = .inr (ci, fs.set k v)) (ho' : ∀ a, a ≠ b → M'.1 a = M.1 a ∧ M'.2.1 a = M.2.1 a ∧ M'.2.2 a = M.2.2 a) (hwf : WfM M → WfM M')
    (kk : Z l E own cc nL ret h pc' lv st M' Q) : Z l E own cc nL ret h pc lv (v :: .ref (eA E b) :: st) M Q := by
  obtain ⟨hd, rfl⟩ := hd
  exact fun hw p e s m args below meth c H locs ls Cc hP hS hl => va_putN (ref := C) Cc.1 Cc.2.1 Cc.2.2.2.2.1 hin ty0 hty hnm Cc.2.2.2.1 Cc.2.2.2.2.2.2.2.1 hP (wd_D Cc.2.2.2.2.2.2.2.2.1) hS b (wd_at hb he) hc k hk (va_Nw.use rfl (Cc.2.2.2.2.2.2.2.2.2.2 _ hw0)) (fun y hy => by rw [ho] at hy; exact hy) hfin hpd hn hfit hlen hd
    (fun H1 locs1 hP1 _ hS1 => kk (hwf hw) p e s m args below meth c H1 locs1 ls Cc (by rw [wd_set he' ho'] at hP1; exact hP1) hS1 hl)
theorem Z.iald {a n : Nat} {i : Int32} (hd : dq cc pc .iaload 1 pc') (ha : iA a n) (hin : vp_in i n) (k : Z l E own cc nL ret h pc' lv (.int (M.1 a i.toNatClampNeg) :: st) M Q) : Z l E own cc nL ret h pc lv (.int i :: .ref (eA E a) :: st) M Q := by
  obtain ⟨hd, rfl⟩ := hd
  exact fun hw p e s m args below meth c H locs ls C hP hS hl => va_iald C.1 C.2.1 C.2.2.2.2.2.2.2.1 hP a 1 (wd_at ha.1 (ha.2.2 _ _ _ _)) rfl hin hd (k hw p e s m args below meth c H locs ls C hP hS hl)
theorem Z.bald {a n : Nat} {i : Int32} (hd : dq cc pc .baload 1 pc') (ha : bA a n) (hin : vp_in i n) (k : Z l E own cc nL ret h pc' lv (.int (M.1 a i.toNatClampNeg) :: st) M Q) : Z l E own cc nL ret h pc lv (.int i :: .ref (eA E a) :: st) M Q := by
  obtain ⟨hd, rfl⟩ := hd
  exact fun hw p e s m args below meth c H locs ls C hP hS hl => va_bald C.1 C.2.1 C.2.2.2.2.2.2.2.1 hP a 0 (wd_at ha.1 (ha.2.2 _ _ _ _)) rfl hin hd (k hw p e s m args below meth c H locs ls C hP hS hl)
theorem Z.zald {a n : Nat} {i : Int32} (hd : dq cc pc .baload 1 pc') (ha : zA a n) (hin : vp_in i n) (k : Z l E own cc nL ret h pc' lv (.int (M.1 a i.toNatClampNeg) :: st) M Q) : Z l E own cc nL ret h pc lv (.int i :: .ref (eA E a) :: st) M Q := by
  obtain ⟨hd, rfl⟩ := hd
  exact fun hw p e s m args below meth c H locs ls C hP hS hl => va_zald C.1 C.2.1 C.2.2.2.2.2.2.2.1 hP a 3 (wd_at ha.1 (ha.2.2 _ _ _ _)) rfl hin hd (k hw p e s m args below meth c H locs ls C hP hS hl)
theorem Z.lald {a n : Nat} {i : Int32} (hd : dq cc pc .laload 1 pc') (ha : jA a n) (hin : vp_in i n) (k : Z l E own cc nL ret h pc' lv (.long (M.2.1 a i.toNatClampNeg) :: st) M Q) : Z l E own cc nL ret h pc lv (.int i :: .ref (eA E a) :: st) M Q := by
  obtain ⟨hd, rfl⟩ := hd
  exact fun hw p e s m args below meth c H locs ls C hP hS hl => va_lald C.1 C.2.1 C.2.2.2.2.2.2.2.1 hP a 2 (wd_at ha.1 (ha.2.2 _ _ _ _)) rfl hin hd (k hw p e s m args below meth c H locs ls C hP hS hl)
theorem Z.aald {i : Int32} (hd : dq cc pc .aaload 1 pc') (hin : vp_in i 2) (k : Z l E own cc nL ret h pc' lv (.ref (eA E (10 + 5 * i.toNatClampNeg)) :: st) M Q) : Z l E own cc nL ret h pc lv (.int i :: .ref (eA E 9) :: st) M Q := by
  obtain ⟨hd, rfl⟩ := hd
  exact fun hw p e s m args below meth c H locs ls C hP hS hl => va_aldq C.1 C.2.1 C.2.2.2.2.2.2.2.1 hP 9 4 (wd_at (k := 9) (by decide) rfl) rfl hin hd (k hw p e s m args below meth c H locs ls C hP hS hl)
theorem Z.iast {a n : Nat} {i x : Int32} (hd : dq cc pc .iastore 1 pc') (ha : iA a n) (hin : vp_in i n) (k : Z l E own cc nL ret h pc' lv st (sI M a i.toNatClampNeg x) Q) : Z l E own cc nL ret h pc lv (.int x :: .int i :: .ref (eA E a) :: st) M Q := by
  obtain ⟨hd, rfl⟩ := hd
  exact fun hw p e s m args below meth c H locs ls C hP hS hl => va_iast C.1 C.2.1 C.2.2.2.2.2.2.2.1 hP (wd_D C.2.2.2.2.2.2.2.2.1) hS a 1 (wd_at ha.1 (ha.2.2 _ _ _ _)) rfl hin hd
    (fun H1 locs1 hP1 _ hS1 => k hw p e s m args below meth c H1 locs1 ls C (by rw [wd_set (M' := sI M a i.toNatClampNeg x) (by unfold cellM; rw [ha.2.2, sI_k]) sI_o] at hP1; exact hP1) hS1 hl)
theorem Z.bast {a n : Nat} {i x : Int32} (hd : dq cc pc .bastore 1 pc') (ha : bA a n) (hin : vp_in i n) (k : Z l E own cc nL ret h pc' lv st (sI M a i.toNatClampNeg (vp_nar .byte x)) Q) : Z l E own cc nL ret h pc lv (.int x :: .int i :: .ref (eA E a) :: st) M Q := by
  obtain ⟨hd, rfl⟩ := hd
  exact fun hw p e s m args below meth c H locs ls C hP hS hl => va_bast C.1 C.2.1 C.2.2.2.2.2.2.2.1 hP (wd_D C.2.2.2.2.2.2.2.2.1) hS a 0 (wd_at ha.1 (ha.2.2 _ _ _ _)) rfl hin hd
    (fun H1 locs1 hP1 _ hS1 => k hw p e s m args below meth c H1 locs1 ls C (by rw [wd_set (M' := sI M a i.toNatClampNeg (vp_nar .byte x)) (by unfold cellM; rw [ha.2.2, sI_k]) sI_o] at hP1; exact hP1) hS1 hl)
theorem Z.zast {a n : Nat} {i x : Int32} (hd : dq cc pc .bastore 1 pc') (ha : zA a n) (hin : vp_in i n) (k : Z l E own cc nL ret h pc' lv st (sI M a i.toNatClampNeg (vp_nar .boolean x)) Q) : Z l E own cc nL ret h pc lv (.int x :: .int i :: .ref (eA E a) :: st) M Q := by
  obtain ⟨hd, rfl⟩ := hd
  exact fun hw p e s m args below meth c H locs ls C hP hS hl => va_zast C.1 C.2.1 C.2.2.2.2.2.2.2.1 hP (wd_D C.2.2.2.2.2.2.2.2.1) hS a 3 (wd_at ha.1 (ha.2.2 _ _ _ _)) rfl hin hd
    (fun H1 locs1 hP1 _ hS1 => k hw p e s m args below meth c H1 locs1 ls C (by rw [wd_set (M' := sI M a i.toNatClampNeg (vp_nar .boolean x)) (by unfold cellM; rw [ha.2.2, sI_k]) sI_o] at hP1; exact hP1) hS1 hl)
theorem Z.last {a n : Nat} {i : Int32} {x : Int64} (hd : dq cc pc .lastore 1 pc') (ha : jA a n) (hin : vp_in i n) (k : Z l E own cc nL ret h pc' lv st (sJ M a i.toNatClampNeg x) Q) : Z l E own cc nL ret h pc lv (.long x :: .int i :: .ref (eA E a) :: st) M Q := by
  obtain ⟨hd, rfl⟩ := hd
  exact fun hw p e s m args below meth c H locs ls C hP hS hl => va_last C.1 C.2.1 C.2.2.2.2.2.2.2.1 hP (wd_D C.2.2.2.2.2.2.2.2.1) hS a 2 (wd_at ha.1 (ha.2.2 _ _ _ _)) rfl hin hd
    (fun H1 locs1 hP1 _ hS1 => k hw p e s m args below meth c H1 locs1 ls C (by rw [wd_set (M' := sJ M a i.toNatClampNeg x) (by unfold cellM; rw [ha.2.2, sJ_k]) sJ_o] at hP1; exact hP1) hS1 hl)
theorem Z.alen {a n : Nat} {v : Int32} (hd : dq cc pc .arraylength 1 pc') (ha : iA a n) (hv : Int32.ofNat n = v) (k : Z l E own cc nL ret h pc' lv (.int v :: st) M Q) : Z l E own cc nL ret h pc lv (.ref (eA E a) :: st) M Q := by
  obtain ⟨hd, rfl⟩ := hd
  exact fun hw p e s m args below meth c H locs ls C hP hS hl => va_alen C.1 C.2.1 C.2.2.2.2.2.2.2.1 hP a 1 (wd_at ha.1 (ha.2.2 _ _ _ _)) rfl hv hd (k hw p e s m args below meth c H locs ls C hP hS hl)
/-- a static array's reference; a place of it -/
theorem Z.gets {x j : Nat} {C n : String} {t : List Int32} (hd : dq cc pc (.getstatic x) 3 pc') (hs : ∀ (U : State) (H : Heap), stat E U H → sta E C n j t U H) (hw0 : Cond.fieldLink own x C n "[I" ∈ gtbl) (k : Z l E own cc nL ret h pc' lv (.ref (eS E j) :: st) M Q) : Z l E own cc nL ret h pc lv st M Q := by
  obtain ⟨hd, rfl⟩ := hd
  exact fun hw p e s m args below meth c H locs ls Cc hP hS hl => va_gets (ref := C) Cc.1 Cc.2.1 (hs _ _ Cc.2.2.2.2.2.2.2.2.2.1).1 hS Cc.2.2.2.1 (Cc.2.2.2.2.1 _ hw0) (fun y hy => hy) hd (k hw p e s m args below meth c H locs ls Cc hP hS hl)
theorem Z.getsN {x j : Nat} {C n host : String} {t : List Int32} (hd : dq cc pc (.getstatic x) 3 pc') (hs : ∀ (U : State) (H : Heap), stat E U H → sta E C n j t U H) (hw0 : Cond.fieldLinkNest own x C n "[I" host ∈ ntbl) (k : Z l E own cc nL ret h pc' lv (.ref (eS E j) :: st) M Q) : Z l E own cc nL ret h pc lv st M Q := by
  obtain ⟨hd, rfl⟩ := hd
  exact fun hw p e s m args below meth c H locs ls Cc hP hS hl => va_getsN (ref := C) Cc.1 Cc.2.1 (hs _ _ Cc.2.2.2.2.2.2.2.2.2.1).1 hS Cc.2.2.2.1 (va_Nw.use rfl (Cc.2.2.2.2.2.2.2.2.2.2 _ hw0)) (fun y hy => hy) hd (k hw p e s m args below meth c H locs ls Cc hP hS hl)
theorem Z.tald {j : Nat} {C n : String} {t : List Int32} {i : Int32} (hd : dq cc pc .iaload 1 pc') (hs : ∀ (U : State) (H : Heap), stat E U H → sta E C n j t U H) (hin : vp_in i t.length) (k : Z l E own cc nL ret h pc' lv (.int (t.getD i.toNatClampNeg 0) :: st) M Q) : Z l E own cc nL ret h pc lv (.int i :: .ref (eS E j) :: st) M Q := by
  obtain ⟨hd, rfl⟩ := hd
  exact fun hw p e s m args below meth c H locs ls Cc hP hS hl => va_ti Cc.1 Cc.2.1 (hs _ _ Cc.2.2.2.2.2.2.2.2.2.1).2 hS hin rfl hd (k hw p e s m args below meth c H locs ls Cc hP hS hl)
/-- ends -/
theorem Z.iret {v : Int32} (hr : ret = some .int) (hd : dq cc pc .ireturn 1 pc') (hq : Q (some (.int v)) M) : Z l E own cc nL ret h pc lv [.int v] M Q := by
  obtain ⟨hd, rfl⟩ := hd
  exact fun hw p e s m args below meth c H locs ls C hP hS hl => W.iret C.1 C.2.1 (C.2.2.2.2.2.2.1.trans hr) (fun t ht hW => ⟨_, M, rfl, hq, hw, by rw [ht]; exact hP, hS.F ht⟩) hS.2.2 hd C.2.2.2.2.2.1
theorem Z.zret {v : Int32} (hr : ret = some .boolean) (hn : narrow .boolean (.int v) = .int v) (hd : dq cc pc .ireturn 1 pc') (hq : Q (some (.int v)) M) : Z l E own cc nL ret h pc lv [.int v] M Q := by
  obtain ⟨hd, rfl⟩ := hd
  exact fun hw p e s m args below meth c H locs ls C hP hS hl => W.zret C.1 C.2.1 (C.2.2.2.2.2.2.1.trans hr) hn (fun t ht hW => ⟨_, M, rfl, hq, hw, by rw [ht]; exact hP, hS.F ht⟩) hS.2.2 hd C.2.2.2.2.2.1
theorem Z.lret {v : Int64} (hr : ret = some .long) (hd : dq cc pc .lreturn 1 pc') (hq : Q (some (.long v)) M) : Z l E own cc nL ret h pc lv [.long v] M Q := by
  obtain ⟨hd, rfl⟩ := hd
  exact fun hw p e s m args below meth c H locs ls C hP hS hl => W.lret C.1 C.2.1 (C.2.2.2.2.2.2.1.trans hr) (fun t ht hW => ⟨_, M, rfl, hq, hw, by rw [ht]; exact hP, hS.F ht⟩) hS.2.2 hd C.2.2.2.2.2.1
theorem Z.vret (hr : ret = none) (hd : dq cc pc .return_ 1 pc') (hq : Q none M) : Z l E own cc nL ret h pc lv [] M Q := by
  obtain ⟨hd, rfl⟩ := hd
  exact fun hw p e s m args below meth c H locs ls C hP hS hl => W.vret C.1 C.2.1 (C.2.2.2.2.2.2.1.trans hr) (fun t ht hW => ⟨_, M, rfl, hq, hw, by rw [ht]; exact hP, hS.F ht⟩) hS.2.2 hd C.2.2.2.2.2.1
/-- switches -/
theorem Z.tabIn {dflt lo hi off : Int} {offs : Array Int} {n : Nat} {x : Int32} (hd : dq cc pc (.tableswitch dflt lo hi offs) n pc') (h1 : ¬ x.toInt < lo) (h2 : ¬ hi < x.toInt) (ho : offs[(x.toInt - lo).toNat]? = some off) (ht : (pc : Int) + off = (tgt : Int)) (k : Z l E own cc nL ret h tgt lv st M Q) : Z l E own cc nL ret h pc lv (.int x :: st) M Q := by
  obtain ⟨hd, rfl⟩ := hd
  exact fun hw p e s m args below meth c H locs ls C hP hS hl => lv_tableIn C.1 C.2.1 hd h1 h2 ho ht (k hw p e s m args below meth c H locs ls C hP hS hl)
theorem Z.tabOut {dflt lo hi : Int} {offs : Array Int} {n : Nat} {x : Int32} (hd : dq cc pc (.tableswitch dflt lo hi offs) n pc') (h1 : x.toInt < lo ∨ hi < x.toInt) (ht : (pc : Int) + dflt = (tgt : Int)) (k : Z l E own cc nL ret h tgt lv st M Q) : Z l E own cc nL ret h pc lv (.int x :: st) M Q := by
  obtain ⟨hd, rfl⟩ := hd
  exact fun hw p e s m args below meth c H locs ls C hP hS hl => lv_tableOut C.1 C.2.1 hd h1 ht (k hw p e s m args below meth c H locs ls C hP hS hl)
theorem Z.look {dflt off : Int} {ps : Array (Int × Int)} {n : Nat} {x : Int32} (hd : dq cc pc (.lookupswitch dflt ps) n pc') (hp : (ps.toList.zip (ps.toList.drop 1)).all (fun (a, next) => a.1 < next.1) = true) (ho : Op.lookupswitch.offset ps.toList dflt x.toInt = off) (ht : (pc : Int) + off = (tgt : Int)) (k : Z l E own cc nL ret h tgt lv st M Q) : Z l E own cc nL ret h pc lv (.int x :: st) M Q := by
  obtain ⟨hd, rfl⟩ := hd
  exact fun hw p e s m args below meth c H locs ls C hP hS hl => lv_lookup C.1 C.2.1 hd hp ho ht (k hw p e s m args below meth c H locs ls C hP hS hl)
end ZH

/-! Constructors: a world that grows. -/
def nR (h mc ms : Nat) : Room := { frames := h, cells := mc, slots := ms, locals := 40 * h }
/-- what a state must hold at a constructor's start -/
def WlN (E : Env5) (sz : Nat) (w0 : va_W) (U : State) : Prop := U.heap.size = sz ∧ va_P (eD E) cls6 w0 U.heap ∧ va_D (fun _ => True) w0 ∧ va_K (eD E) cls6 (tys5 E) U ∧ nests U ∧ va_AO "SquareAlbum$Notes" U
def BN (E : Env5) (A : Nat → Prop) (w : va_W) (t : State) : Prop := va_P (eD E) cls6 w t.heap ∧ va_D A w
/-- a constructor's contract: from the cells w0 to cells w with Q w; mc cells, ms slots are new -/
def KN (l : Launch) (E : Env5) (y : MethodName) (cc : ByteArray) (nL h mc ms : Nat) (av : List Value) (w0 : va_W) (Q : va_W → Prop) : Prop :=
  ∀ sz : Nat, Met l y (wsY y cc nL none) (nR h mc ms) (va_Pc av (WlN E sz w0)) (va_Qv Q (BN E (va_A w0 sz)) (va_A w0 sz)) mc ms (va_A w0 sz)
def CxN (E : Env5) (p : Program) (s : State) (m : MethodId) (args : Array Value) (meth : Method) (c : Code) (own : String) (cc : ByteArray) (nL : Nat) : Prop :=
  p.tables.exec = Jvm.exec ∧ c.code = cc ∧ c.maxLocals = nL ∧ s.vm.findClass own = some m.cls ∧ (∀ w ∈ gtbl, w.before args s = true) ∧ meth.locks = false ∧ meth.sig.returnType = none ∧ va_K (eD E) cls6 (tys5 E) s ∧ nests s ∧ va_AO "SquareAlbum$Notes" s
def ZN (l : Launch) (E : Env5) (own nm : String) (cc : ByteArray) (nL h mc ms : Nat) (w0 : va_W) (Q : va_W → Prop) (k n pc : Nat) (lv : List (Nat × Value)) (st : List Value) (ws : va_W) : Prop :=
  ∀ (p : Program) (e : Env) (s : State) (m : MethodId) (args : Array Value) (below : List Frame) (meth : Method) (c : Code) (H : Heap) (locs : List Loc) (ls : Array Slot),
    CxN E p s m args meth c own cc nL → meth.name = nm → va_P (eD E) cls6 ws H → va_D (va_A w0 s.heap.size) ws → va_S (va_A w0 s.heap.size) s.heap H locs → lv_has ls nL lv → W p l e (nR h mc ms) s m args below meth c H locs k n (MQ below (va_Qv Q (BN E (va_A w0 s.heap.size)) (va_A w0 s.heap.size)) args s mc ms (va_A w0 s.heap.size)) (F0 m pc ls st)
theorem WlN.blind {E : Env5} {sz : Nat} {w0 : va_W} {av : List Value} : FrameBlind (va_Pc av (WlN E sz w0)) := by
  intro a U g mk q
  obtain ⟨q0, q1, qP, qD, qK, qn, qa⟩ := q
  exact ⟨q0, q1, qP, qD, va_K.moved (u := U) (U := U.calling g mk a) (Vm.Alike.refl U.vm) qK, nests.same (u := U) rfl qn, va_AO.moved (u := U) (U := U.calling g mk a) (Vm.Alike.refl U.vm) qa⟩
theorem va_RA_uniq {U : State} {c1 c2 : ClassId} {ty : FieldType} (h1 : va_RA U c1 ty) (h2 : va_RA U c2 ty) : c1 = c2 := by
  cases ty with
  | object C =>
    obtain ⟨k1, m1, a1, a2, a3, a4⟩ := h1
    obtain ⟨k2, m2, b1, b2, b3, b4⟩ := h2
    rw [a4] at b4
    exact Option.some.inj b4
  | _ =>
    have a4 : U.vm.findClass _ = some c1 := h1
    have b4 : U.vm.findClass _ = some c2 := h2
    rw [a4] at b4
    exact Option.some.inj b4
theorem nd_range (n : Nat) : va_nd (List.range n) = true := by
  have key : ∀ l : List Nat, l.Nodup → va_nd l = true := by
    intro l
    induction l with
    | nil => intro _; rfl
    | cons a l ih =>
      intro h
      rw [List.nodup_cons] at h
      simp only [va_nd, ih h.2, Bool.and_true, decide_eq_true_eq]
      exact h.1
  exact key _ List.nodup_range
theorem wr_at {wr : va_W} {x : Nat × va_E} : (List.range wr.length).map (fun i => (wr ++ [x])[i]?) = wr.map some := by
  apply List.ext_getElem?
  intro j
  simp only [List.getElem?_map]
  by_cases hj : j < wr.length
  · rw [List.getElem?_range hj]
    simp only [Option.map_some]
    rw [List.getElem?_append_left hj, List.getElem?_eq_getElem hj]
    rfl
  · rw [List.getElem?_eq_none (by simpa using hj), List.getElem?_eq_none (by simpa using hj)]
    rfl
theorem wr_last {wr : va_W} {x : Nat × va_E} : [wr.length].map (fun i => (wr ++ [x])[i]?) = [x].map some := by simp
theorem one_D {A : Nat → Prop} {x : Nat × va_E} (h : A x.1) : va_D A [x] := by
  have key : ∀ (k : Nat) (q : Nat × va_E), [x][k]? = some q → k = 0 ∧ q = x := by
    intro k q hk
    cases k with
    | zero => cases hk; exact ⟨rfl, rfl⟩
    | succ k => simp at hk
  refine ⟨fun i j a b hi hj _ => ?_, fun k q hk => ?_⟩
  · rw [(key i a hi).1, (key j b hj).1]
  · rw [(key k q hk).2]; exact h
section ZNR
variable {l : Launch} {E : Env5} {own nm : String} {cc : ByteArray} {nL h mc ms : Nat} {w0 : va_W} {Q : va_W → Prop} {k n pc pc' tgt : Nat} {lv lv' : List (Nat × Value)} {st st' : List Value} {ws ws' : va_W}
theorem KN.ofZN {y : MethodName} {av : List Value} (hy : plainName y.cls = true) (hlen : (lg_sl av).length ≤ nL) (hl : lv_args 0 av = lv) (K : ZN l E y.cls y.name cc nL h mc ms w0 Q 0 0 0 lv [] w0) : KN l E y cc nL h mc ms av w0 Q := by
  intro sz
  refine Met.ofW (cc := cc) (maxL := nL) (ret := none) hy rfl ?_
  intro p e s m args' below meth c s₁ B hml hv
  obtain ⟨rfl, rfl, hP, hD, hK, hn, hao⟩ := hv
  have hts := atoms_spec (ws := wsY y cc nL none) B.pre
  have hl2 := lv_entry av (n := nL) hlen
  rw [lg_entry_eq]
  rw [hl] at hl2
  exact K p e s m _ below meth c s.heap [] _ ⟨B.exec, B.bytes, hml, findClass_of_methodNamed B.named, fun w hw => hts w (List.mem_cons_of_mem _ hw), B.notSynchronized, B.returns, hK, hn, hao⟩ (name_of_methodNamed B.named B.method).1 hP hD.self va_S.rf hl2
theorem ZN.perm (is : List Nat) (hn : va_nd is = true) (hs : is.map (fun i => ws[i]?) = ws'.map some) (hs2 : is.filterMap (fun i => ws[i]?) = ws') (kk : ZN l E own nm cc nL h mc ms w0 Q k n pc lv st ws') : ZN l E own nm cc nL h mc ms w0 Q k n pc lv st ws :=
  fun p e s m args below meth c H locs ls C hm hP hD hS hl => kk p e s m args below meth c H locs ls C hm (hP.sub is hs2) (hD.sub is hn hs) hS hl
theorem ZN.iconst {x : Int} {v : Int32} (hd : dq cc pc (.iconst x) 1 pc') (hv : Int32.ofInt x = v) (kk : ZN l E own nm cc nL h mc ms w0 Q k n pc' lv (.int v :: st) ws) : ZN l E own nm cc nL h mc ms w0 Q k n pc lv st ws := by
  obtain ⟨hd, rfl⟩ := hd
  exact fun p e s m args below meth c H locs ls C hm hP hD hS hl => lv_iconst C.1 C.2.1 hd hv (kk p e s m args below meth c H locs ls C hm hP hD hS hl)
theorem ZN.bipush {x : Int} {v : Int32} (hd : dq cc pc (.bipush x) 2 pc') (hv : (Int8.ofInt x).toInt32 = v) (kk : ZN l E own nm cc nL h mc ms w0 Q k n pc' lv (.int v :: st) ws) : ZN l E own nm cc nL h mc ms w0 Q k n pc lv st ws := by
  obtain ⟨hd, rfl⟩ := hd
  exact fun p e s m args below meth c H locs ls C hm hP hD hS hl => lv_bipush C.1 C.2.1 hd hv (kk p e s m args below meth c H locs ls C hm hP hD hS hl)
theorem ZN.sipush {x : Int} {v : Int32} (hd : dq cc pc (.sipush x) 3 pc') (hv : (Int16.ofInt x).toInt32 = v) (kk : ZN l E own nm cc nL h mc ms w0 Q k n pc' lv (.int v :: st) ws) : ZN l E own nm cc nL h mc ms w0 Q k n pc lv st ws := by
  obtain ⟨hd, rfl⟩ := hd
  exact fun p e s m args below meth c H locs ls C hm hP hD hS hl => lv_sipush C.1 C.2.1 hd hv (kk p e s m args below meth c H locs ls C hm hP hD hS hl)
theorem ZN.lconst {x : Fin 2} {v : Int64} (hd : dq cc pc (.lconst x) 1 pc') (hv : Int64.ofNat (x : Nat) = v) (kk : ZN l E own nm cc nL h mc ms w0 Q k n pc' lv (.long v :: st) ws) : ZN l E own nm cc nL h mc ms w0 Q k n pc lv st ws := by
  obtain ⟨hd, rfl⟩ := hd
  exact fun p e s m args below meth c H locs ls C hm hP hD hS hl => lv_lconst C.1 C.2.1 hd hv (kk p e s m args below meth c H locs ls C hm hP hD hS hl)
theorem ZN.dup {x : Nat} (hd : dq cc pc .dup 1 pc') (kk : ZN l E own nm cc nL h mc ms w0 Q k n pc' lv (.ref x :: .ref x :: st) ws) : ZN l E own nm cc nL h mc ms w0 Q k n pc lv (.ref x :: st) ws := by
  obtain ⟨hd, rfl⟩ := hd
  exact fun p e s m args below meth c H locs ls C hm hP hD hS hl => lv_dup C.1 C.2.1 hd rfl (kk p e s m args below meth c H locs ls C hm hP hD hS hl)
theorem ZN.aload {i : Fin 4} {x : Nat} (hd : dq cc pc (.aload_n i) 1 pc') (j : Nat) (hj : lv[j]? = some ((i : Nat), .ref x)) (kk : ZN l E own nm cc nL h mc ms w0 Q k n pc' lv (.ref x :: st) ws) : ZN l E own nm cc nL h mc ms w0 Q k n pc lv st ws := by
  obtain ⟨hd, rfl⟩ := hd
  exact fun p e s m args below meth c H locs ls C hm hP hD hS hl => lv_aload_n C.1 C.2.1 hd rfl (lv_at hl j hj) (kk p e s m args below meth c H locs ls C hm hP hD hS hl)
theorem ZN.iload {i : Fin 4} {x : Int32} (hd : dq cc pc (.iload_n i) 1 pc') (j : Nat) (hj : lv[j]? = some ((i : Nat), .int x)) (kk : ZN l E own nm cc nL h mc ms w0 Q k n pc' lv (.int x :: st) ws) : ZN l E own nm cc nL h mc ms w0 Q k n pc lv st ws := by
  obtain ⟨hd, rfl⟩ := hd
  exact fun p e s m args below meth c H locs ls C hm hP hD hS hl => lv_iload_n C.1 C.2.1 hd rfl (lv_at hl j hj) (kk p e s m args below meth c H locs ls C hm hP hD hS hl)
theorem ZN.istore {i : Fin 4} {x : Int32} (hd : dq cc pc (.istore_n i) 1 pc') (hi : (i : Nat) < nL) (hj : ((i : Nat), Value.int x) :: lv.filter (fun q => !(q.1 == (i : Nat)) && !(q.1 + 1 == (i : Nat) && q.2.category == 2)) = lv') (kk : ZN l E own nm cc nL h mc ms w0 Q k n pc' lv' st ws) : ZN l E own nm cc nL h mc ms w0 Q k n pc lv (.int x :: st) ws := by
  obtain ⟨hd, rfl⟩ := hd
  exact fun p e s m args below meth c H locs ls C hm hP hD hS hl => lv_istore_n C.1 C.2.1 hd rfl hl hi hj (fun ls2 hl2 => kk p e s m args below meth c H locs ls2 C hm hP hD hS hl2)
theorem ZN.iinc {i : Nat} {d : Int} {x v : Int32} (hd : dq cc pc (.iinc i d) 3 pc') (j : Nat) (hk : lv[j]? = some (i, .int x)) (hv : x + Int32.ofInt d = v) (hi : i < nL) (hj : (i, Value.int v) :: lv.filter (fun q => !(q.1 == i) && !(q.1 + 1 == i && q.2.category == 2)) = lv') (kk : ZN l E own nm cc nL h mc ms w0 Q k n pc' lv' st ws) : ZN l E own nm cc nL h mc ms w0 Q k n pc lv st ws := by
  obtain ⟨hd, rfl⟩ := hd
  exact fun p e s m args below meth c H locs ls C hm hP hD hS hl => lv_iinc C.1 C.2.1 hd hl hk hv hi hj (fun ls2 hl2 => kk p e s m args below meth c H locs ls2 C hm hP hD hS hl2)
theorem ZN.goto {off : Int} (hd : dj cc pc (.goto off) 3 pc' off tgt) (kk : ZN l E own nm cc nL h mc ms w0 Q k n tgt lv st ws) : ZN l E own nm cc nL h mc ms w0 Q k n pc lv st ws := by
  obtain ⟨hd, rfl, ht⟩ := hd
  exact fun p e s m args below meth c H locs ls C hm hP hD hS hl => lv_goto C.1 C.2.1 hd ht (kk p e s m args below meth c H locs ls C hm hP hD hS hl)
theorem ZN.geT {x y : Int32} {off : Int} (hd : dj cc pc (.if_icmp .ge off) 3 pc' off tgt) (hc : y ≤ x) (kk : ZN l E own nm cc nL h mc ms w0 Q k n tgt lv st ws) : ZN l E own nm cc nL h mc ms w0 Q k n pc lv (.int y :: .int x :: st) ws := by
  obtain ⟨hd, rfl, ht⟩ := hd
  exact fun p e s m args below meth c H locs ls C hm hP hD hS hl => lv_icmp_ge C.1 C.2.1 hd ht (fun _ => kk p e s m args below meth c H locs ls C hm hP hD hS hl) (fun q => absurd hc q)
theorem ZN.geF {x y : Int32} {off : Int} (hd : dj cc pc (.if_icmp .ge off) 3 pc' off tgt) (hc : ¬ y ≤ x) (kk : ZN l E own nm cc nL h mc ms w0 Q k n pc' lv st ws) : ZN l E own nm cc nL h mc ms w0 Q k n pc lv (.int y :: .int x :: st) ws := by
  obtain ⟨hd, rfl, ht⟩ := hd
  exact fun p e s m args below meth c H locs ls C hm hP hD hS hl => lv_icmp_ge C.1 C.2.1 hd ht (fun q => absurd q hc) (fun _ => kk p e s m args below meth c H locs ls C hm hP hD hS hl)
theorem ZN.obj {x a : Nat} (hd : dq cc pc (.invokespecial x) 3 pc') (w1 : Cond.methodLink own x Lib.objectInit ∈ gtbl) (w2 : Cond.instanceMethod Lib.objectInit ∈ gtbl) (w3 : Cond.code Lib.objectInit ⟨#[0xb1]⟩ 1 none ∈ gtbl) (hh : 1 ≤ h) (kk : ZN l E own nm cc nL h mc ms w0 Q k n pc' lv [] ws) : ZN l E own nm cc nL h mc ms w0 Q k n pc lv [.ref a] ws := by
  obtain ⟨hd, rfl⟩ := hd
  intro p e s m args below meth c H locs ls C hm hP hD hS hl
  have hts := C.2.2.2.2.1
  refine W.objInit C.1 C.2.1 C.2.2.2.1 (hts _ w1) (hts _ w2) (hts _ w3) rfl (by rw [C.2.2.1]; exact hl.1) rfl hd hh ?_ ?_
  · show 0 + 0 + 12 ≤ 40 * h
    omega
  · exact W.eq (g2 := F0 m (pc + 3) ls []) rfl (kk p e s m args below meth c H locs ls C hm hP hD hS hl)
theorem ZN.newa {aty : ArrayType} {ty : FieldType} {x : Int32} {N : Nat} {a0 : vp_A} {cA : ClassId} (t0 : Nat) (hd : dq cc pc (.newarray aty) 2 pc') (hw0 : Cond.arrayClass (newarray.typeOf aty) ∈ gtbl) (hty : newarray.typeOf aty = ty) (ht : (tys5 E)[t0]? = some (cA, ty)) (ha : ∀ cA : ClassId, vp_cell cA a0 = arrV cA N (fun _ => defaultValue ty)) (hn : ¬ x < 0) (hN : x.toNatClampNeg = N) (hby : N * componentBytes ty ≤ 536870912) (hc : k + 1 ≤ mc) (hs : n + N ≤ ms)
    (kk : ∀ q : Nat, ZN l E own nm cc nL h mc ms w0 Q (k + 1) (n + N) pc' lv (.ref q :: st) (ws ++ [(q, .inl (cA, a0))])) : ZN l E own nm cc nL h mc ms w0 Q k n pc lv (.int x :: st) ws := by
  obtain ⟨hd, rfl⟩ := hd
  intro p e s m args below meth c H locs ls C hm hP hD hS hl
  have hK := C.2.2.2.2.2.2.2.1
  refine va_newa C.1 C.2.1 (C.2.2.2.2.1 _ hw0) hty hK hP hD hS (fun q hq => Or.inr hq) ha hn hN hby hc hs hd (fun q cB H1 hK1 hP1 hD1 hS1 => ?_)
  have e1 := (hK1.2 (tys5 E).length (cB, ty) (by simp)).2
  have e2 := (hK.2 t0 _ ht).2
  have e3 : cB = cA := va_RA_uniq e1 e2
  subst e3
  exact kk q p e s m args below meth c H1 locs ls C hm hP1 hD1 hS1 hl
theorem ZN.newq {x : Int32} {N i : Nat} (hd : dq cc pc (.anewarray i) 3 pc') (w1 : Cond.classLink own i "SquareAlbum$Notes" ∈ gtbl) (hn : ¬ x < 0) (hN : x.toNatClampNeg = N) (hby : N * 4 ≤ 536870912) (hc : k + 1 ≤ mc) (hs : n + N ≤ ms)
    (kk : ∀ q : Nat, ZN l E own nm cc nL h mc ms w0 Q (k + 1) (n + N) pc' lv (.ref q :: st) (ws ++ [(q, .inl (eC E 4, N, .inr (.inr (.inr (.inr (fun _ => none))))))])) : ZN l E own nm cc nL h mc ms w0 Q k n pc lv (.int x :: st) ws := by
  obtain ⟨hd, rfl⟩ := hd
  intro p e s m args below meth c H locs ls C hm hP hD hS hl
  have hK := C.2.2.2.2.2.2.2.1
  refine va_newq (C := "SquareAlbum$Notes") C.1 C.2.1 C.2.2.2.1 (C.2.2.2.2.1 _ w1) C.2.2.2.2.2.2.2.2.2 hK hP hD hS (fun q hq => Or.inr hq) hn hN hby hc hs hd (fun q cB H1 hK1 hP1 hD1 hS1 => ?_)
  have e1 := (hK1.2 (tys5 E).length (cB, .object "SquareAlbum$Notes") (by simp)).2
  have e2 := (hK.2 4 _ rfl).2
  have e3 : cB = eC E 4 := va_RA_uniq e1 e2
  subst e3
  exact kk q p e s m args below meth c H1 locs ls C hm hP1 hD1 hS1 hl
theorem ZN.new {C : String} {TT : u_T} {ty0 : Nat → FieldType} {N ci i : Nat} {fs : List Value} (hd : dq cc pc (.new i) 3 pc') (hin : ∀ w ∈ u_ws C TT N, w ∈ gtbl) (hty : ∀ k, k < N → parseFieldDescriptor (TT k).2.2.1 = some (ty0 k)) (w1 : Cond.classLink own i C ∈ gtbl) (w2 : Cond.instantiable C N ∈ gtbl) (w3 : Cond.initialized C ∈ gtbl) (hci : cls6[ci]? = some (C, TT, N)) (hfs : ∀ j, j < N → defaultValue (ty0 j) = vp_V fs j) (hc : k + 1 ≤ mc) (hs : n + N ≤ ms)
    (kk : ∀ q : Nat, ZN l E own nm cc nL h mc ms w0 Q (k + 1) (n + N) pc' lv (.ref q :: st) (ws ++ [(q, .inr (ci, fs))])) : ZN l E own nm cc nL h mc ms w0 Q k n pc lv st ws := by
  obtain ⟨hd, rfl⟩ := hd
  intro p e s m args below meth c H locs ls Cx hm hP hD hS hl
  have hts := Cx.2.2.2.2.1
  exact va_new Cx.1 Cx.2.1 hts hin ty0 hty Cx.2.2.2.1 (hts _ w1) (hts _ w2) (hts _ w3) Cx.2.2.2.2.2.2.2.1 hP hD hS (fun q hq => Or.inr hq) hci hfs hc hs hd (fun q H1 hP1 hD1 hS1 => kk q p e s m args below meth c H1 locs ls Cx hm hP1 hD1 hS1 hl)
theorem ZN.putF {C : String} {TT : u_T} {ty0 : Nat → FieldType} {N ci x b : Nat} {fs : List Value} {v : Value} {ty : FieldType} (hd : dq cc pc (.putfield x) 3 pc') (hin : ∀ w ∈ u_ws C TT N, w ∈ gtbl) (hty : ∀ k, k < N → parseFieldDescriptor (TT k).2.2.1 = some (ty0 k)) (hnm : ∀ a, a < N → ∀ b, b < N → a ≠ b → (TT a).2.1 ≠ (TT b).2.1) (hci : cls6[ci]? = some (C, TT, N)) (q0 : Nat) (he : ws[q0]? = some (b, .inr (ci, fs))) (j : Nat) (hj : j < N) (w1 : Cond.fieldLink own x C (TT j).2.1 (TT j).2.2.1 ∈ gtbl) (ho : (TT j).1 = C) (ho2 : (TT j).1 = own) (hfin : (TT j).2.2.2 = true) (hnm2 : nm = "<init>") (hpd : parseFieldDescriptor (TT j).2.2.1 = some ty) (hn : narrow ty v = v) (hfit : fits ty v = true) (hlen : j < fs.length) (hw : ws.set q0 (b, .inr (ci, fs.set j v)) = ws')
    (kk : ZN l E own nm cc nL h mc ms w0 Q k n pc' lv st ws') : ZN l E own nm cc nL h mc ms w0 Q k n pc lv (v :: .ref b :: st) ws := by
  obtain ⟨hd, rfl⟩ := hd
  subst hw
  intro p e s m args below meth c H locs ls Cx hm hP hD hS hl
  have hts := Cx.2.2.2.2.1
  exact va_putF (ref := C) Cx.1 Cx.2.1 hts hin ty0 hty hnm Cx.2.2.2.1 Cx.2.2.2.2.2.2.2.1 hP hD hS q0 he hci j hj (hts _ w1) (fun y hy => by rw [ho] at hy; exact hy) hfin (hm.trans hnm2) ho2 hpd hn hfit hlen hd (fun H1 locs1 hP1 hD1 hS1 => kk p e s m args below meth c H1 locs1 ls Cx hm hP1 hD1 hS1 hl)
theorem ZN.put {C : String} {TT : u_T} {ty0 : Nat → FieldType} {N ci x b : Nat} {fs : List Value} {v : Value} {ty : FieldType} (hd : dq cc pc (.putfield x) 3 pc') (hin : ∀ w ∈ u_ws C TT N, w ∈ gtbl) (hty : ∀ k, k < N → parseFieldDescriptor (TT k).2.2.1 = some (ty0 k)) (hnm : ∀ a, a < N → ∀ b, b < N → a ≠ b → (TT a).2.1 ≠ (TT b).2.1) (hci : cls6[ci]? = some (C, TT, N)) (q0 : Nat) (he : ws[q0]? = some (b, .inr (ci, fs))) (j : Nat) (hj : j < N) (w1 : Cond.fieldLink own x C (TT j).2.1 (TT j).2.2.1 ∈ gtbl) (ho : (TT j).1 = C) (hfin : (TT j).2.2.2 = false) (hpd : parseFieldDescriptor (TT j).2.2.1 = some ty) (hn : narrow ty v = v) (hfit : fits ty v = true) (hlen : j < fs.length) (hw : ws.set q0 (b, .inr (ci, fs.set j v)) = ws')
    (kk : ZN l E own nm cc nL h mc ms w0 Q k n pc' lv st ws') : ZN l E own nm cc nL h mc ms w0 Q k n pc lv (v :: .ref b :: st) ws := by
  obtain ⟨hd, rfl⟩ := hd
  subst hw
  intro p e s m args below meth c H locs ls Cx hm hP hD hS hl
  have hts := Cx.2.2.2.2.1
  exact va_put (ref := C) Cx.1 Cx.2.1 hts hin ty0 hty hnm Cx.2.2.2.1 Cx.2.2.2.2.2.2.2.1 hP hD hS q0 he hci j hj (hts _ w1) (fun y hy => by rw [ho] at hy; exact hy) hfin hpd hn hfit hlen hd (fun H1 locs1 hP1 hD1 hS1 => kk p e s m args below meth c H1 locs1 ls Cx hm hP1 hD1 hS1 hl)
theorem ZN.get {C : String} {TT : u_T} {N ci x b : Nat} {fs : List Value} {v : Value} (hd : dq cc pc (.getfield x) 3 pc') (hin : ∀ w ∈ u_ws C TT N, w ∈ gtbl) (hci : cls6[ci]? = some (C, TT, N)) (q0 : Nat) (he : ws[q0]? = some (b, .inr (ci, fs))) (j : Nat) (hj : j < N) (w1 : Cond.fieldLink own x C (TT j).2.1 (TT j).2.2.1 ∈ gtbl) (ho : (TT j).1 = C) (hv : fs[j]? = some v)
    (kk : ZN l E own nm cc nL h mc ms w0 Q k n pc' lv (v :: st) ws) : ZN l E own nm cc nL h mc ms w0 Q k n pc lv (.ref b :: st) ws := by
  obtain ⟨hd, rfl⟩ := hd
  intro p e s m args below meth c H locs ls Cx hm hP hD hS hl
  have hts := Cx.2.2.2.2.1
  exact va_get (ref := C) Cx.1 Cx.2.1 hts hin Cx.2.2.2.1 Cx.2.2.2.2.2.2.2.1 hP q0 he hci j hj (hts _ w1) (fun y hy => by rw [ho] at hy; exact hy) hv hd (kk p e s m args below meth c H locs ls Cx hm hP hD hS hl)
theorem ZN.iast {a N j : Nat} {f : Nat → Int32} {i x : Int32} (hd : dq cc pc .iastore 1 pc') (q0 : Nat) (he : ws[q0]? = some (a, .inl (eC E 1, N, .inl f))) (hin : vp_in i N) (hj : i.toNatClampNeg = j) (hw : ws.set q0 (a, .inl (eC E 1, N, .inl (upd f j x))) = ws')
    (kk : ZN l E own nm cc nL h mc ms w0 Q k n pc' lv st ws') : ZN l E own nm cc nL h mc ms w0 Q k n pc lv (.int x :: .int i :: .ref a :: st) ws := by
  obtain ⟨hd, rfl⟩ := hd
  subst hw
  subst hj
  intro p e s m args below meth c H locs ls Cx hm hP hD hS hl
  exact va_iast Cx.1 Cx.2.1 Cx.2.2.2.2.2.2.2.1 hP hD hS q0 1 he rfl hin hd (fun H1 locs1 hP1 hD1 hS1 => kk p e s m args below meth c H1 locs1 ls Cx hm hP1 hD1 hS1 hl)
theorem ZN.ast {a N j v : Nat} {f : Nat → Option Nat} {i : Int32} {vs : List Value} (hd : dq cc pc .aastore 1 pc') (q0 qk : Nat) (he : ws[q0]? = some (a, .inl (eC E 4, N, .inr (.inr (.inr (.inr f)))))) (hv : ws[qk]? = some (v, .inr (1, vs))) (hin : vp_in i N) (hj : i.toNatClampNeg = j) (hw : ws.set q0 (a, .inl (eC E 4, N, .inr (.inr (.inr (.inr (va_up f j (some v))))))) = ws')
    (kk : ZN l E own nm cc nL h mc ms w0 Q k n pc' lv st ws') : ZN l E own nm cc nL h mc ms w0 Q k n pc lv (.ref v :: .int i :: .ref a :: st) ws := by
  obtain ⟨hd, rfl⟩ := hd
  subst hw
  subst hj
  intro p e s m args below meth c H locs ls Cx hm hP hD hS hl
  exact va_astq (r := (RX1, TX1, 6)) Cx.1 Cx.2.1 Cx.2.2.2.2.2.2.2.1 hP hD hS q0 4 qk 1 he rfl hv rfl hin hd (fun H1 locs1 hP1 hD1 hS1 => kk p e s m args below meth c H1 locs1 ls Cx hm hP1 hD1 hS1 hl)
theorem ZN.alen {a N : Nat} {f : Nat → Int32} {v : Int32} (hd : dq cc pc .arraylength 1 pc') (q0 : Nat) (he : ws[q0]? = some (a, .inl (eC E 1, N, .inl f))) (hv : Int32.ofNat N = v)
    (kk : ZN l E own nm cc nL h mc ms w0 Q k n pc' lv (.int v :: st) ws) : ZN l E own nm cc nL h mc ms w0 Q k n pc lv (.ref a :: st) ws := by
  obtain ⟨hd, rfl⟩ := hd
  intro p e s m args below meth c H locs ls Cx hm hP hD hS hl
  exact va_alen Cx.1 Cx.2.1 Cx.2.2.2.2.2.2.2.1 hP q0 1 he rfl hv hd (kk p e s m args below meth c H locs ls Cx hm hP hD hS hl)
theorem ZN.vret (hd : dq cc pc .return_ 1 pc') (hc : k ≤ mc) (hs : n ≤ ms) (hq : Q ws) : ZN l E own nm cc nL h mc ms w0 Q k n pc lv [] ws := by
  obtain ⟨hd, rfl⟩ := hd
  intro p e s m args below meth c H locs ls Cx hm hP hD hS hl
  refine W.widen (k := mc) (n := ms) hc hs ?_
  exact W.vret Cx.1 Cx.2.1 Cx.2.2.2.2.2.2.1 (fun t ht hW => ⟨⟨ws, rfl, hq, by rw [ht]; exact hP, hD⟩, hS.F ht⟩) hS.2.2 hd Cx.2.2.2.2.2.1
/-- behind a call on the last cell -/
theorem zn_join {p : Program} {e : Env} {R : Room} {s : State} {m : MethodId} {args a : Array Value} {below : List Frame} {meth : Method} {c : Code} {H : Heap} {locs : List Loc} {cells slots mc' ms' : Nat} {QS : State → Prop} {Q' : va_W → Prop} {ls : Array Slot} {rest st0 : List Value} {A : Nat → Prop} {wr : va_W} {x : Nat × va_E} (hA : ∀ q, s.heap.size ≤ q → A q)
    (hr : va_Run p l e R s m args below meth c H locs cells slots mc' ms' (F0 m pc ls st0) rest (va_Qv Q' (BN E (va_A [x] H.size)) (va_A [x] H.size) a) (va_A [x] H.size)) (hP : va_P (eD E) cls6 (wr ++ [x]) H) (hD : va_D A (wr ++ [x])) (hS : va_S A s.heap H locs)
    (kk : ∀ (w : va_W) (H1 : Heap) (locs1 : List Loc), Q' w → va_P (eD E) cls6 (wr ++ w) H1 → va_D A (wr ++ w) → va_S A s.heap H1 locs1 → W p l e R s m args below meth c H1 locs1 (cells + mc') (slots + ms') QS (F0 m (pc + 3) ls rest)) : W p l e R s m args below meth c H locs cells slots QS (F0 m pc ls st0) := by
  have hFc := va_free (wc := [x]) hD hS hA [wr.length] wr_last
  refine va_callv hr hS (fun q _ h => hFc q h) hFc (fun w t H1 locs1 ht hvm hq hB hz1 hk1 hS1 => ?_)
  obtain ⟨hP1, hD1⟩ := hB
  rw [ht] at hP1
  obtain ⟨hP2, hD2⟩ := va_join (wr := wr) (w1 := w) hP hD [wr.length] (List.range wr.length) wr_last wr_at (nd_range _) (fun i hi hj => by simp at hi hj; omega) hk1 hFc hP1 hD1
  exact kk w H1 locs1 hq hP2 hD2 hS1
theorem last_P {D : va_G} {cl : List vw_C} {wr : va_W} {x : Nat × va_E} {H : Heap} (hP : va_P D cl (wr ++ [x]) H) : va_P D cl [x] H := hP.sub [wr.length] (by simp)
theorem ZN.callI {x h' nL' mc' ms' q ci : Nat} {y : MethodName} {cc' : ByteArray} {fs : List Value} {wr : va_W} {Q' : va_W → Prop} (hd : dq cc pc (.invokespecial x) 3 pc') (hM : KN l E y cc' nL' h' mc' ms' [.ref q] [(q, .inr (ci, fs))] Q') (w1 : Cond.methodLink own x y ∈ gtbl) (w2 : Cond.instanceMethod y ∈ gtbl) (w4 : Cond.initialized y.cls ∈ gtbl) (w5 : Cond.code y cc' nL' none ∈ gtbl) (hy1 : y.name = "<init>") (hdesc : y.cls ≠ "java/lang/invoke/MethodHandle" ∧ y.cls ≠ "java/lang/invoke/VarHandle" ∧ (parseMethodDescriptor y.desc).map (fun d => d.parameters.length) = some 0) (hR : h' + 1 ≤ h ∧ 8 + (nL' + 11) + 40 * h' ≤ 40 * h) (hW : (st.map fun v => v.category).sum ≤ 8) (hf : k + mc' ≤ mc ∧ n + ms' ≤ ms)
    (kk : ∀ w, Q' w → ZN l E own nm cc nL h mc ms w0 Q (k + mc') (n + ms') pc' lv st (wr ++ w)) : ZN l E own nm cc nL h mc ms w0 Q k n pc lv (.ref q :: st) (wr ++ [(q, .inr (ci, fs))]) := by
  obtain ⟨hd, rfl⟩ := hd
  intro p e s m args below meth c H locs ls C hm hP hD hS hl
  have hts := C.2.2.2.2.1
  refine zn_join (fun q hq => Or.inr hq) (va_runI (As := []) (rest := st) (b := q) (bytes := cc') (maxL := nL') (n := 0) (Ts := gtbl) ⟨C.1, C.2.1, C.2.2.1, C.2.2.2.1, hts⟩ (hM H.size) ⟨callB_of 0 hts (good_wsY w5) rfl rfl rfl (hts _ w4) (hts _ w1) hdesc hR, hy1, hts _ w2⟩ ⟨WlN.blind, fun U hU hW2 => ⟨rfl, by rw [hU], by rw [hU]; exact last_P hP, one_D trivial, va_K.moved hW2.alike C.2.2.2.2.2.2.2.1, nests.warm hW2 C.2.2.2.2.2.2.2.2.1, va_AO.moved hW2.alike C.2.2.2.2.2.2.2.2.2⟩⟩ rfl rfl hl.1 rfl (lv_room hW) hd hf) hP hD hS ?_
  exact fun w H1 locs1 hq hP1 hD1 hS1 => kk w hq p e s m args below meth c H1 locs1 ls C hm hP1 hD1 hS1 hl
theorem ZN.callN {x h' nL' mc' ms' q ci : Nat} {y : MethodName} {host : String} {cc' : ByteArray} {fs : List Value} {wr : va_W} {Q' : va_W → Prop} (hd : dq cc pc (.invokespecial x) 3 pc') (hM : KN l E y cc' nL' h' mc' ms' [.ref q] [(q, .inr (ci, fs))] Q') (w1 : Cond.methodLinkNest own x y host ∈ ntbl) (w2 : Cond.instanceMethod y ∈ gtbl) (w4 : Cond.initialized y.cls ∈ gtbl) (w5 : Cond.code y cc' nL' none ∈ gtbl) (hy1 : y.name = "<init>") (hdesc : y.cls ≠ "java/lang/invoke/MethodHandle" ∧ y.cls ≠ "java/lang/invoke/VarHandle" ∧ (parseMethodDescriptor y.desc).map (fun d => d.parameters.length) = some 0) (hR : h' + 1 ≤ h ∧ 8 + (nL' + 11) + 40 * h' ≤ 40 * h) (hW : (st.map fun v => v.category).sum ≤ 8) (hf : k + mc' ≤ mc ∧ n + ms' ≤ ms)
    (kk : ∀ w, Q' w → ZN l E own nm cc nL h mc ms w0 Q (k + mc') (n + ms') pc' lv st (wr ++ w)) : ZN l E own nm cc nL h mc ms w0 Q k n pc lv (.ref q :: st) (wr ++ [(q, .inr (ci, fs))]) := by
  obtain ⟨hd, rfl⟩ := hd
  intro p e s m args below meth c H locs ls C hm hP hD hS hl
  have hts := C.2.2.2.2.1
  refine zn_join (fun q hq => Or.inr hq) (va_runIN (As := []) (rest := st) (b := q) (bytes := cc') (maxL := nL') (n := 0) (Ts := gtbl) (host := host) ⟨C.1, C.2.1, C.2.2.1, C.2.2.2.1, hts⟩ (hM H.size) ⟨va_cnB 0 hts (good_wsY w5) rfl rfl rfl (C.2.2.2.2.2.2.2.2.1 _ w1) (hts _ w4) hdesc hR, hy1, hts _ w2⟩ ⟨WlN.blind, fun U hU hW2 => ⟨rfl, by rw [hU], by rw [hU]; exact last_P hP, one_D trivial, va_K.moved hW2.alike C.2.2.2.2.2.2.2.1, nests.warm hW2 C.2.2.2.2.2.2.2.2.1, va_AO.moved hW2.alike C.2.2.2.2.2.2.2.2.2⟩⟩ rfl rfl hl.1 rfl (lv_room hW) hd hf) hP hD hS ?_
  exact fun w H1 locs1 hq hP1 hD1 hS1 => kk w hq p e s m args below meth c H1 locs1 ls C hm hP1 hD1 hS1 hl
theorem ZN.callS {x h' nL' mc' ms' a : Nat} {v : Int32} {y : MethodName} {cc' : ByteArray} {ae : va_E} {wr : va_W} {Q' : va_W → Prop} (hd : dq cc pc (.invokestatic x) 3 pc') (hM : KN l E y cc' nL' h' mc' ms' [.ref a, .int v] [(a, ae)] Q') (w1 : Cond.methodLink own x y ∈ gtbl) (w2 : Cond.static y ∈ gtbl) (w4 : Cond.initialized y.cls ∈ gtbl) (w5 : Cond.code y cc' nL' none ∈ gtbl) (hdesc : y.cls ≠ "java/lang/invoke/MethodHandle" ∧ y.cls ≠ "java/lang/invoke/VarHandle" ∧ (parseMethodDescriptor y.desc).map (fun d => d.parameters.length) = some 2) (hR : h' + 1 ≤ h ∧ 8 + (nL' + 11) + 40 * h' ≤ 40 * h) (hW : (st.map fun v => v.category).sum ≤ 8) (hf : k + mc' ≤ mc ∧ n + ms' ≤ ms)
    (kk : ∀ w, Q' w → ZN l E own nm cc nL h mc ms w0 Q (k + mc') (n + ms') pc' lv st (wr ++ w)) : ZN l E own nm cc nL h mc ms w0 Q k n pc lv (.int v :: .ref a :: st) (wr ++ [(a, ae)]) := by
  obtain ⟨hd, rfl⟩ := hd
  intro p e s m args below meth c H locs ls C hm hP hD hS hl
  have hts := C.2.2.2.2.1
  refine zn_join (fun q hq => Or.inr hq) (va_runS (As := [.ref a, .int v]) (rest := st) (bytes := cc') (maxL := nL') (ret := none) (n := 2) (Ts := gtbl) ⟨C.1, C.2.1, C.2.2.1, C.2.2.2.1, hts⟩ (hM H.size) ⟨callB_of 2 hts (good_wsY w5) rfl rfl rfl (hts _ w4) (hts _ w1) hdesc hR, hts _ w2⟩ ⟨WlN.blind, fun U hU hW2 => ⟨rfl, by rw [hU], by rw [hU]; exact last_P hP, one_D trivial, va_K.moved hW2.alike C.2.2.2.2.2.2.2.1, nests.warm hW2 C.2.2.2.2.2.2.2.2.1, va_AO.moved hW2.alike C.2.2.2.2.2.2.2.2.2⟩⟩ rfl rfl hl.1 rfl (lv_room hW) hd hf) hP hD hS ?_
  exact fun w H1 locs1 hq hP1 hD1 hS1 => kk w hq p e s m args below meth c H1 locs1 ls C hm hP1 hD1 hS1 hl
end ZNR

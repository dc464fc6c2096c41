/-! THE CLAIM OUT OF ONE WALK OF THE LAW'S BODY. Your part is whole_start (and what it stands on); all else here is the same for every law, but numbers. -/
def R_law : String := "SquareAlbumLaw"
def lw_P (b : Addr) (xs : List Int32) (args : Array Value) (s : State) : Prop := args = #[.ref b] ∧ s.IntsAt b xs ∧ xs.length ≤ 3072 ∧ (Jvm.Cond.and given_1 narrow_1).before args s = true
def lw_Q (_ : Array Value) (s : State) (o : Outcome) (t : State) : Prop := o = .returned (some (.int 1)) ∧ Framed s o t [] 600000 7302250
def lw_Z (below : List Frame) (a : Array Value) (s : State) : State → Prop := fun t => ∃ o, t.status = .running ∧ Ended t below o ∧ lw_Q a s o t
/-- the law's own end, with 1 on the stack, nothing written that was there before, its room as the claim has it -/
theorem lw_ret {p : Program} {l : Launch} {e : Env} {s : State} {m : MethodId} {below : List Frame} {meth : Method} {c : Code} {b : Nat} (hx : p.tables.exec = Jvm.exec) (hb : c.code = code) (hr : meth.sig.returnType = ret) (hlocks : meth.locks = false) {pc : Nat} {H : Heap} {ls : Array Slot} (hdg : decode code pc = .ok (.ireturn, 1)) : W p l e room_1 s m #[Value.ref b] below meth c H [] 600000 7302250 (lw_Z below #[Value.ref b] s) (F0 m pc ls [.int 1]) := by
  intro T hT X
  obtain ⟨fs, hret, hrun, hended, hW, hframe⟩ := X.leave (v := some (.int 1)) (hlocks := hlocks) (fun h => by rw [hr] at h; cases h)
  have hmeth' : T.vm.method? m = some meth := X.method'
  refine ⟨T.setFrames fs, ?_, .returned (some (.int 1)), hrun, hended, rfl, ⟨_, rfl⟩, hW, hframe⟩
  jvm_step X.here [X.here.top, hx, hb, hdg, hmeth', hr, ret, narrow_b1]
  (try refine ⟨rfl, ?_⟩); (try refine ⟨rfl, ?_⟩)
  first | (intro acts; rw [hret _ acts rfl rfl rfl]) | rw [hret _ _ rfl rfl rfl]
  exact Steps.refl _
/-- what holds at the law's entry: the machine, the code, the tables' words (any of lw_tbl by 'hts w (by decide +kernel)'), the script of L ints xs at the cell b, what the Statement gives of the start (any of its parts by flat_of_before) -/
def lw_At (p : Program) (s : State) (m : MethodId) (meth : Method) (c : Code) (b L : Nat) (xs : Nat → Int32) : Prop :=
  p.tables.exec = Jvm.exec ∧ c.code = code ∧ meth.sig.returnType = ret ∧ c.maxLocals = 4 ∧ s.vm.findClass R_law = some m.cls ∧ (∀ w ∈ lw_tbl, w.before #[Value.ref b] s = true) ∧ va_X b L xs s s.heap ∧ b < s.heap.size ∧ meth.locks = false ∧ (Jvm.Cond.and given_1 narrow_1).before #[Value.ref b] s = true
/-! The law: its rules over the memory. -/
def LC (p : Program) (s : State) (m : MethodId) (meth : Method) (c : Code) (b L : Nat) (xs : Nat → Int32) (E : Env5) : Prop := lw_At p s m meth c b L xs ∧ va_K (eD E) cls6 (tys5 E) s ∧ inj E ∧ stat E s s.heap ∧ nests s ∧ (∀ k, k < KW → s.heap.size ≤ eA E k) ∧ L ≤ 3072
def ZL (p : Program) (l : Launch) (e : Env) (s : State) (m : MethodId) (below : List Frame) (meth : Method) (c : Code) (b : Nat) (E : Env5) (nc ns : Nat) (pc : Nat) (lv : List (Nat × Value)) (st : List Value) (M : Mem) : Prop :=
  WfM M → ∀ (H : Heap) (locs : List Loc) (ls : Array Slot), va_P (eD E) cls6 (wd E M) H → va_S (fun q : Nat => s.heap.size ≤ q) s.heap H locs → lv_has ls 4 lv → W p l e room_1 s m #[Value.ref b] below meth c H locs nc ns (lw_Z below #[Value.ref b] s) (F0 m pc ls st)
def lv0 (b : Nat) (E : Env5) (i : Nat) : List (Nat × Value) := [(0, .ref b), (1, .ref (eA E 0)), (2, .ref (eA E 42)), (3, .int (nI i))]
section LAWR
variable {p : Program} {l : Launch} {e : Env} {s : State} {m : MethodId} {below : List Frame} {meth : Method} {c : Code} {b L : Nat} {xs : Nat → Int32} {E : Env5} {nc ns pc pc' tgt : Nat} {lv : List (Nat × Value)} {st : List Value} {M M' : Mem}
theorem LC.hx (C : LC p s m meth c b L xs E) : p.tables.exec = Jvm.exec := C.1.1
theorem LC.hb (C : LC p s m meth c b L xs E) : c.code = cL_law := C.1.2.1
theorem LC.hts (C : LC p s m meth c b L xs E) : ∀ w ∈ gtbl, w.before #[Value.ref b] s = true := fun w h => C.1.2.2.2.2.2.1 w (gtbl_in w h)
theorem ZL.al (C : LC p s m meth c b L xs E) {i : Fin 4} {x : Nat} (hd : dq cL_law pc (.aload_n i) 1 pc') (j : Nat) (hj : lv[j]? = some ((i : Nat), .ref x)) (k : ZL p l e s m below meth c b E nc ns pc' lv (.ref x :: st) M) : ZL p l e s m below meth c b E nc ns pc lv st M := by
  obtain ⟨hd, rfl⟩ := hd
  exact fun hw H locs ls hP hS hl => lv_aload_n C.hx C.hb hd rfl (lv_at hl j hj) (k hw H locs ls hP hS hl)
theorem ZL.i2l (C : LC p s m meth c b L xs E) {x : Int32} (hd : dq cL_law pc (.i2l) 1 pc') (k : ZL p l e s m below meth c b E nc ns pc' lv (.long x.toInt64 :: st) M) : ZL p l e s m below meth c b E nc ns pc lv (.int x :: st) M := by
  obtain ⟨hd, rfl⟩ := hd
  exact fun hw H locs ls hP hS hl => lv_i2l C.hx C.hb hd rfl (k hw H locs ls hP hS hl)
theorem ZL.bip (C : LC p s m meth c b L xs E) {n : Int} {v : Int32} (hd : dq cL_law pc (.bipush n) 2 pc') (hv : (Int8.ofInt n).toInt32 = v) (k : ZL p l e s m below meth c b E nc ns pc' lv (.int v :: st) M) : ZL p l e s m below meth c b E nc ns pc lv st M := by
  obtain ⟨hd, rfl⟩ := hd
  exact fun hw H locs ls hP hS hl => lv_bipush C.hx C.hb hd hv (k hw H locs ls hP hS hl)
theorem ZL.lshl (C : LC p s m meth c b L xs E) {x : Int64} {y : Int32} (hd : dq cL_law pc (.lshl) 1 pc') (k : ZL p l e s m below meth c b E nc ns pc' lv (.long (x <<< (y.toInt64 &&& 63)) :: st) M) : ZL p l e s m below meth c b E nc ns pc lv (.int y :: .long x :: st) M := by
  obtain ⟨hd, rfl⟩ := hd
  exact fun hw H locs ls hP hS hl => lv_lshl C.hx C.hb hd rfl (k hw H locs ls hP hS hl)
theorem ZL.ldc2 (C : LC p s m meth c b L xs E) {x : Nat} {v : Int64} (hd : dq cL_law pc (.ldc2_w x) 3 pc') (hw0 : Cond.constantLong R_law x v ∈ gtbl) (k : ZL p l e s m below meth c b E nc ns pc' lv (.long v :: st) M) : ZL p l e s m below meth c b E nc ns pc lv st M := by
  obtain ⟨hd, rfl⟩ := hd
  exact fun hw H locs ls hP hS hl => lv_ldc2 C.hx C.hb C.1.2.2.2.2.1 (C.hts _ hw0) hd (k hw H locs ls hP hS hl)
theorem ZL.land (C : LC p s m meth c b L xs E) {x y : Int64} (hd : dq cL_law pc (.land) 1 pc') (k : ZL p l e s m below meth c b E nc ns pc' lv (.long (x &&& y) :: st) M) : ZL p l e s m below meth c b E nc ns pc lv (.long y :: .long x :: st) M := by
  obtain ⟨hd, rfl⟩ := hd
  exact fun hw H locs ls hP hS hl => lv_land C.hx C.hb hd (k hw H locs ls hP hS hl)
theorem ZL.lor (C : LC p s m meth c b L xs E) {x y : Int64} (hd : dq cL_law pc (.lor) 1 pc') (k : ZL p l e s m below meth c b E nc ns pc' lv (.long (x ||| y) :: st) M) : ZL p l e s m below meth c b E nc ns pc lv (.long y :: .long x :: st) M := by
  obtain ⟨hd, rfl⟩ := hd
  exact fun hw H locs ls hP hS hl => lv_lor C.hx C.hb hd (k hw H locs ls hP hS hl)
/-- one int of the script -/
theorem ZL.arg (C : LC p s m meth c b L xs E) {p1 p2 p3 p4 p5 i k : Nat} (d0 : dq cL_law pc (.aload_n 0) 1 p1) (d1 : dq cL_law p1 (.iload_n 3) 1 p2) (d2 : dq cL_law p2 (.iconst (k : Int)) 1 p3) (d3 : dq cL_law p3 .iadd 1 p4) (d4 : dq cL_law p4 .iaload 1 p5) (hi : i + 6 ≤ L) (hk : k < 6) (kk : ZL p l e s m below meth c b E nc ns p5 (lv0 b E i) (.int (xs (i + k)) :: st) M) : ZL p l e s m below meth c b E nc ns pc (lv0 b E i) st M := by
  obtain ⟨d0, rfl⟩ := d0
  obtain ⟨d1, rfl⟩ := d1
  obtain ⟨d2, rfl⟩ := d2
  obtain ⟨d3, rfl⟩ := d3
  obtain ⟨d4, rfl⟩ := d4
  intro hw H locs ls hP hS hl
  have hL := C.2.2.2.2.2.2
  obtain ⟨hx, hb, hr, hml, hown, hts, hX, hbl, hlocks, hgv⟩ := C.1
  have hbA : ¬ (fun q : Nat => s.heap.size ≤ q) b := Nat.not_le.mpr hbl
  have e1 : nI i + Int32.ofInt (k : Int) = nI (i + k) := by
    show i32 (i : Int) + i32 (k : Int) = i32 ((i + k : Nat) : Int)
    rw [i32_add]; rfl
  refine lv_aload_n hx hb d0 rfl (lv_at hl 0 rfl) ?_
  refine lv_iload_n hx hb d1 rfl (lv_at hl 3 rfl) ?_
  refine lv_iconst (v := Int32.ofInt (k : Int)) hx hb d2 rfl ?_
  refine lv_iadd hx hb d3 ?_
  rw [e1]
  refine va_sld hx hb hX hbl hbA hS (vp_in_nI (show i + k < L by omega) (by omega)) d4 ?_
  rw [nI_clamp (show i + k < 2 ^ 31 by omega)]
  exact kk hw H locs ls hP hS hl
theorem ZL.lcmp (C : LC p s m meth c b L xs E) {x y : Int64} (hd : dq cL_law pc (.lcmp) 1 pc') (k : ZL p l e s m below meth c b E nc ns pc' lv (.int (lg_cmp x y) :: st) M) : ZL p l e s m below meth c b E nc ns pc lv (.long y :: .long x :: st) M := by
  obtain ⟨hd, rfl⟩ := hd
  exact fun hw H locs ls hP hS hl => W.lcmp C.hx C.hb hd (k hw H locs ls hP hS hl)
theorem ZL.ieq (C : LC p s m meth c b L xs E) {x : Int32} {off : Int} (hd : dj cL_law pc (.if_icmp .eq off) 3 pc' off tgt) (k : ZL p l e s m below meth c b E nc ns tgt lv st M) : ZL p l e s m below meth c b E nc ns pc lv (.int x :: .int x :: st) M := by
  obtain ⟨hd, rfl, ht⟩ := hd
  exact fun hw H locs ls hP hS hl => lv_icmp_eq C.hx C.hb hd ht (fun _ => k hw H locs ls hP hS hl) (fun q => absurd rfl q)
theorem ZL.zeq (C : LC p s m meth c b L xs E) {x : Int64} {off : Int} (hd : dj cL_law pc (.ifCond .eq off) 3 pc' off tgt) (k : ZL p l e s m below meth c b E nc ns tgt lv st M) : ZL p l e s m below meth c b E nc ns pc lv (.int (lg_cmp x x) :: st) M := by
  obtain ⟨hd, rfl, ht⟩ := hd
  exact fun hw H locs ls hP hS hl => lv_if_eq C.hx C.hb hd ht (fun _ => k hw H locs ls hP hS hl) (fun q => absurd ((lg_e x x).mpr rfl) q)
theorem zcallL {p : Program} {l : Launch} {e : Env} {R : Room} {s : State} {m : MethodId} {args : Array Value} {below : List Frame} {meth : Method} {c : Code} {H : Heap} {locs : List Loc} {cells slots : Nat} {Q : State → Prop} {E : Env5} {Q' : Option Value → Mem → Prop} {pc : Nat} {ls : Array Slot} {rest st0 : List Value} {a : Array Value} {A : Nat → Prop} (hA : ∀ q, AW E q → A q)
    (hr : va_Run p l e R s m args below meth c H locs cells slots 0 0 (F0 m pc ls st0) rest (QQ E Q' a) (AW E)) (hS : va_S A s.heap H locs)
    (kk : ∀ (r : Option Value) (M' : Mem) (H1 : Heap) (locs1 : List Loc), Q' r M' → WfM M' → va_P (eD E) cls6 (wd E M') H1 → va_S A s.heap H1 locs1 → W p l e R s m args below meth c H1 locs1 cells slots Q (F0 m (pc + 3) ls (r.toList ++ rest))) : W p l e R s m args below meth c H locs cells slots Q (F0 m pc ls st0) := by
  intro T hT X
  obtain ⟨v, st₀, t, T', L, h0, X', hL, e1, e2, ⟨r, M', hv, hq, hw, hP, hz, hk⟩, st⟩ := hr T hT X
  cases hv
  rw [h0] at hz hk
  obtain ⟨t2, a1, b1⟩ := kk v M' T'.heap (locs ++ L) hq hw (by rw [e1]; exact hP)
    ⟨Nat.le_trans hS.1 (by rw [e1]; exact hz), fun q h1 h2 => by rw [e1, hk q (Nat.lt_of_lt_of_le h1 hS.1) (fun z => h2 (hA q z))]; exact hS.2.1 q h1 h2, fun q hq => by
      rcases List.mem_append.mp hq with h | h
      · exact hS.2.2 q h
      · exact hA _ (hL q h)⟩ T' rfl X'
  exact ⟨t2, st t2 a1, b1⟩
theorem LC.aw (C : LC p s m meth c b L xs E) : ∀ q, AW E q → (fun q : Nat => s.heap.size ≤ q) q := by
  rintro q ⟨k, hk, rfl⟩
  exact C.2.2.2.2.2.1 k hk
theorem ZL.call (C : LC p s m meth c b L xs E) {x bb h' n ci N nL' : Nat} {y : MethodName} {cc' : ByteArray} {ret' : Option FieldType} {As rest : List Value} {TT : u_T} {fs : List Value} {r0 : Option Value} {st' : List Value} (hd : dq cL_law pc (.invokevirtual x) 3 pc') (hM : Cn l E y cc' nL' ret' h' (.ref (eA E bb) :: As) M (PR r0 M'))
    (w1 : Cond.methodLink R_law x y ∈ gtbl) (w2 : Cond.instanceMethod y ∈ gtbl) (w3 : Cond.selects y.cls y y ∈ gtbl) (w4 : Cond.initialized y.cls ∈ gtbl) (w5 : Cond.code y cc' nL' ret' ∈ gtbl)
    (hdesc : y.cls ≠ "java/lang/invoke/MethodHandle" ∧ y.cls ≠ "java/lang/invoke/VarHandle" ∧ (parseMethodDescriptor y.desc).map (fun d => d.parameters.length) = some n)
    (hb : bb < KW) (he : cellM E M bb = .inr (ci, fs)) (hc : cls6[ci]? = some (y.cls, TT, N)) (hR : h' < 11) (hm : 8 + (nL' + 11) + 40 * h' ≤ 438) (hn : As.length = n) (hst : st = As.reverse ++ .ref (eA E bb) :: rest) (hW : (rest.map fun v => v.category).sum ≤ 8) (hst' : r0.toList ++ rest = st')
    (k : ZL p l e s m below meth c b E nc ns pc' lv st' M') (hcs : nc ≤ 600000 ∧ ns ≤ 7302250) : ZL p l e s m below meth c b E nc ns pc lv st M := by
  obtain ⟨hd, rfl⟩ := hd
  subst hst'
  intro hw H locs ls hP hS hl
  have hts := C.hts
  refine zcallL C.aw (va_runV (As := As) (rest := rest) (C := y.cls) (b := eA E bb) (bytes := cc') (maxL := nL') (ret := ret') (n := n) (Ts := gtbl) ⟨C.hx, C.hb, C.1.2.2.2.1, C.1.2.2.2.2.1, hts⟩ hM ⟨callB_of n hts (good_wsY w5) rfl rfl rfl (hts _ w4) (hts _ w1) hdesc ⟨hR, hm⟩, hts _ w2, hts _ w3⟩ ⟨Wld.blind, va_recv C.2.1 hP hc (wd_at hb he), fun U hU hW2 => ?_⟩ rfl hn hl.1 hst (lv_room hW) hd ⟨hcs.1, hcs.2⟩) hS ?_
  · exact ⟨rfl, by rw [hU]; exact hP, va_K.moved hW2.alike C.2.1, C.2.2.1, by rw [hU]; exact (stat.moved hW2.alike C.2.2.2.1).kept (fun a ha hna => hS.2.1 a ha (Nat.not_le.mpr ha)), nests.warm hW2 C.2.2.2.2.1, hw⟩
  · rintro r M2 H1 locs1 ⟨rfl, rfl⟩ hw2 hP1 hS1
    exact k hw2 H1 locs1 ls hP1 hS1 hl
end LAWR

def FU : Nat := 100000
def inb (i : Int32) (n : Nat) : Bool := decide (0 ≤ i.toInt ∧ i.toInt < (n : Int))
theorem inb_in {i : Int32} {n : Nat} (h : inb i n = true) : vp_in i n := vp_in_iff.mpr (of_decide_eq_true h)
def rI (M : Mem) (a n : Nat) (i : Int32) : Option Int32 := if inb i n = true then some (M.1 a i.toNatClampNeg) else none
def rJ (M : Mem) (a n : Nat) (i : Int32) : Option Int64 := if inb i n = true then some (M.2.1 a i.toNatClampNeg) else none
def rT (t : List Int32) (i : Int32) : Option Int32 := if inb i t.length = true then some (t.getD i.toNatClampNeg 0) else none
def rN (i : Int32) : Option Nat := if inb i 2 = true then some (10 + 5 * i.toNatClampNeg) else none
def wI (M : Mem) (a n : Nat) (i x : Int32) : Option Mem := if inb i n = true then some (sI M a i.toNatClampNeg x) else none
def wB (M : Mem) (a n : Nat) (i x : Int32) : Option Mem := if inb i n = true then some (sI M a i.toNatClampNeg (vp_nar .byte x)) else none
def wZ (M : Mem) (a n : Nat) (i x : Int32) : Option Mem := if inb i n = true then some (sI M a i.toNatClampNeg (vp_nar .boolean x)) else none
def wJ (M : Mem) (a n : Nat) (i : Int32) (x : Int64) : Option Mem := if inb i n = true then some (sJ M a i.toNatClampNeg x) else none
def wF (M : Mem) (b j : Nat) (x : Int32) : Option Mem := some (sI M b j x)
def wG (M : Mem) (b j : Nat) (x : Int64) : Option Mem := some (sJ M b j x)
def wH (M : Mem) (b j : Nat) (x : Nat) : Option Mem := some (sR M b j x)
def oD (x y : Int32) : Option Int32 := if y = 0 then none else some (x / y)
def oR (x y : Int32) : Option Int32 := if y = 0 then none else some (x - x / y * y)
def gB (v : Int32) : Option Int32 := if v = 0 ∨ v = 1 then some v else none
def cpI (M : Mem) (a0 n0 : Nat) (sp : Int32) (a1 n1 : Nat) (dp n : Int32) : Option Mem := if ¬ sp < 0 ∧ ¬ dp < 0 ∧ ¬ n < 0 ∧ sp.toNatClampNeg + n.toNatClampNeg ≤ n0 ∧ dp.toNatClampNeg + n.toNatClampNeg ≤ n1 then some (sW M a1 (va_cpy (M.1 a0) (M.1 a1) sp.toNatClampNeg dp.toNatClampNeg n.toNatClampNeg)) else none
theorem bindC {α β : Type} {o : Option α} {g : α → Option β} {r : β} {P : Prop} (H : o.bind g = some r) (k : ∀ v, o = some v → g v = some r → P) : P := by
  obtain ⟨v, h1, h2⟩ := Option.bind_eq_some_iff.mp H
  exact k v h1 h2
theorem iteE {β : Type} {c P : Prop} {i : Decidable c} {a b : Option β} {r : β} (H : @ite _ c i a b = some r) (kt : c → a = some r → P) (kf : ¬ c → b = some r → P) : P := by
  by_cases h : c
  · rw [if_pos h] at H; exact kt h H
  · rw [if_neg h] at H; exact kf h H
theorem wE {β : Type} {M1 : Mem} {g : Mem → Option β} {r : β} {P : Prop} (H : (some M1).bind g = some r) (k : ∀ v, M1 = v → g v = some r → P) : P := k M1 rfl H
theorem gBE {β : Type} {v : Int32} {g : Int32 → Option β} {r : β} {P : Prop} (H : (gB v).bind g = some r) (k : narrow .boolean (.int v) = .int v → g v = some r → P) : P := by
  unfold gB at H
  by_cases h : v = 0 ∨ v = 1
  · rw [if_pos h] at H
    exact k (by rcases h with rfl | rfl <;> rfl) H
  · rw [if_neg h] at H; cases H
theorem sw_ne {x c : Int32} {k : Int} (hc : c.toInt = k) (h : ¬ x = c) : x.toInt ≠ k := fun q => h (Int32.toInt_inj.mp (q.trans hc.symm))
theorem isNt_img {i : Int32} (h : inb i 2 = true) : isNt (10 + 5 * i.toNatClampNeg) := by
  have h1 := of_decide_eq_true h
  have : i.toNatClampNeg = 0 ∨ i.toNatClampNeg = 1 := by unfold Int32.toNatClampNeg; omega
  rcases this with e | e <;> rw [e]
  · exact Or.inr (Or.inl rfl)
  · exact Or.inr (Or.inr rfl)
theorem wf_scene {M : Mem} {v : Nat} (hv : isSc v) (h : WfM M) : WfM (sR M 0 5 v) := ⟨hv, h.2⟩
theorem wf_spare {M : Mem} {v : Nat} (hv : isSc v) (h : WfM M) : WfM (sR M 0 6 v) := ⟨h.1, hv⟩
theorem c0 {E : Env5} {M : Mem} : cellM E M 21 = .inr (0, oX0 E 21 (M.1 21) (M.2.1 21) (M.2.2 21)) := rfl
theorem c3 {E : Env5} {M : Mem} : cellM E M 1 = .inr (3, oX3 E 1 (M.1 1) (M.2.1 1) (M.2.2 1)) := rfl
theorem c4 {E : Env5} {M : Mem} : cellM E M 0 = .inr (4, oX4 E 0 (M.1 0) (M.2.1 0) (M.2.2 0)) := rfl
theorem c5 {E : Env5} {M : Mem} : cellM E M 42 = .inr (5, oX5 E 42 (M.1 42) (M.2.1 42) (M.2.2 42)) := rfl
theorem ks0 : Cond.selects "SquareAlbum$TextReader" ⟨"SquareAlbum$TextReader", "nextToken", "()V"⟩ ⟨"SquareAlbum$TextReader", "nextToken", "()V"⟩ ∈ gtbl := List.mem_filter.mpr ⟨List.mem_append_left _ (List.mem_of_getElem? (i := 0) (by decide +kernel)), rfl⟩
theorem ks1 : Cond.selects "SquareAlbum$TextReader" ⟨"SquareAlbum$TextReader", "takeNumber", "()V"⟩ ⟨"SquareAlbum$TextReader", "takeNumber", "()V"⟩ ∈ gtbl := List.mem_filter.mpr ⟨List.mem_append_left _ (List.mem_of_getElem? (i := 1) (by decide +kernel)), rfl⟩
theorem ks2 : Cond.selects "SquareAlbum$TextReader" ⟨"SquareAlbum$TextReader", "takeWord", "()V"⟩ ⟨"SquareAlbum$TextReader", "takeWord", "()V"⟩ ∈ gtbl := List.mem_filter.mpr ⟨List.mem_append_left _ (List.mem_of_getElem? (i := 2) (by decide +kernel)), rfl⟩
theorem ks3 : Cond.selects "SquareAlbum$TextReader" ⟨"SquareAlbum$TextReader", "readItem", "(LSquareAlbum$Scene;Z)Z"⟩ ⟨"SquareAlbum$TextReader", "readItem", "(LSquareAlbum$Scene;Z)Z"⟩ ∈ gtbl := List.mem_filter.mpr ⟨List.mem_append_left _ (List.mem_of_getElem? (i := 3) (by decide +kernel)), rfl⟩
theorem ks4 : Cond.selects "SquareAlbum$TextReader" ⟨"SquareAlbum$TextReader", "readNumber", "(II)Z"⟩ ⟨"SquareAlbum$TextReader", "readNumber", "(II)Z"⟩ ∈ gtbl := List.mem_filter.mpr ⟨List.mem_append_left _ (List.mem_of_getElem? (i := 4) (by decide +kernel)), rfl⟩
theorem ks5 : Cond.selects "SquareAlbum$Scene" ⟨"SquareAlbum$Scene", "addWall", "(II)V"⟩ ⟨"SquareAlbum$Scene", "addWall", "(II)V"⟩ ∈ gtbl := List.mem_filter.mpr ⟨List.mem_append_left _ (List.mem_of_getElem? (i := 5) (by decide +kernel)), rfl⟩
theorem ks6 : Cond.selects "SquareAlbum$Scene" ⟨"SquareAlbum$Scene", "standAt", "(I)V"⟩ ⟨"SquareAlbum$Scene", "standAt", "(I)V"⟩ ∈ gtbl := List.mem_filter.mpr ⟨List.mem_append_left _ (List.mem_of_getElem? (i := 6) (by decide +kernel)), rfl⟩
theorem ks7 : Cond.selects "SquareAlbum$Scene" ⟨"SquareAlbum$Scene", "stateOf", "(IIIII)I"⟩ ⟨"SquareAlbum$Scene", "stateOf", "(IIIII)I"⟩ ∈ gtbl := List.mem_filter.mpr ⟨List.mem_append_left _ (List.mem_of_getElem? (i := 7) (by decide +kernel)), rfl⟩
theorem ks8 : Cond.selects "SquareAlbum$Scene" ⟨"SquareAlbum$Scene", "stateOfCell", "(IIIII)I"⟩ ⟨"SquareAlbum$Scene", "stateOfCell", "(IIIII)I"⟩ ∈ gtbl := List.mem_filter.mpr ⟨List.mem_append_left _ (List.mem_of_getElem? (i := 8) (by decide +kernel)), rfl⟩
theorem ks9 : Cond.selects "SquareAlbum$Scene" ⟨"SquareAlbum$Scene", "isPlaceOf", "(IIII)Z"⟩ ⟨"SquareAlbum$Scene", "isPlaceOf", "(IIII)Z"⟩ ∈ gtbl := List.mem_filter.mpr ⟨List.mem_append_left _ (List.mem_of_getElem? (i := 9) (by decide +kernel)), rfl⟩
theorem ks10 : Cond.selects "SquareAlbum$ClockSetter" ⟨"SquareAlbum$ClockSetter", "countFacts", "(LSquareAlbum$Notes;)V"⟩ ⟨"SquareAlbum$ClockSetter", "countFacts", "(LSquareAlbum$Notes;)V"⟩ ∈ gtbl := List.mem_filter.mpr ⟨List.mem_append_left _ (List.mem_of_getElem? (i := 10) (by decide +kernel)), rfl⟩
theorem ks11 : Cond.selects "SquareAlbum$ClockSetter" ⟨"SquareAlbum$ClockSetter", "countFact", "(III)V"⟩ ⟨"SquareAlbum$ClockSetter", "countFact", "(III)V"⟩ ∈ gtbl := List.mem_filter.mpr ⟨List.mem_append_left _ (List.mem_of_getElem? (i := 11) (by decide +kernel)), rfl⟩
theorem ks12 : Cond.selects "SquareAlbum$ClockSetter" ⟨"SquareAlbum$ClockSetter", "tally", "(III)I"⟩ ⟨"SquareAlbum$ClockSetter", "tally", "(III)I"⟩ ∈ gtbl := List.mem_filter.mpr ⟨List.mem_append_left _ (List.mem_of_getElem? (i := 12) (by decide +kernel)), rfl⟩
theorem ks13 : Cond.selects "SquareAlbum$ClockSetter" ⟨"SquareAlbum$ClockSetter", "tryLastClock", "(III)V"⟩ ⟨"SquareAlbum$ClockSetter", "tryLastClock", "(III)V"⟩ ∈ gtbl := List.mem_filter.mpr ⟨List.mem_append_left _ (List.mem_of_getElem? (i := 13) (by decide +kernel)), rfl⟩
theorem ks14 : Cond.selects "SquareAlbum$Notes" ⟨"SquareAlbum$Notes", "findJoinable", "()V"⟩ ⟨"SquareAlbum$Notes", "findJoinable", "()V"⟩ ∈ gtbl := List.mem_filter.mpr ⟨List.mem_append_left _ (List.mem_of_getElem? (i := 14) (by decide +kernel)), rfl⟩
theorem ks15 : Cond.selects "SquareAlbum$Notes" ⟨"SquareAlbum$Notes", "canBeOne", "(II)Z"⟩ ⟨"SquareAlbum$Notes", "canBeOne", "(II)Z"⟩ ∈ gtbl := List.mem_filter.mpr ⟨List.mem_append_left _ (List.mem_of_getElem? (i := 15) (by decide +kernel)), rfl⟩
theorem ks16 : Cond.selects "SquareAlbum$Notes" ⟨"SquareAlbum$Notes", "ofSeen", "(II)I"⟩ ⟨"SquareAlbum$Notes", "ofSeen", "(II)I"⟩ ∈ gtbl := List.mem_filter.mpr ⟨List.mem_append_left _ (List.mem_of_getElem? (i := 16) (by decide +kernel)), rfl⟩
theorem ks17 : Cond.selects "SquareAlbum$Notes" ⟨"SquareAlbum$Notes", "areAllUnlike", "(I)Z"⟩ ⟨"SquareAlbum$Notes", "areAllUnlike", "(I)Z"⟩ ∈ gtbl := List.mem_filter.mpr ⟨List.mem_append_left _ (List.mem_of_getElem? (i := 17) (by decide +kernel)), rfl⟩
theorem ks18 : Cond.selects "SquareAlbum" ⟨"SquareAlbum", "lastWithHat", "()I"⟩ ⟨"SquareAlbum", "lastWithHat", "()I"⟩ ∈ gtbl := List.mem_filter.mpr ⟨List.mem_append_left _ (List.mem_of_getElem? (i := 18) (by decide +kernel)), rfl⟩
theorem ks19 : Cond.selects "SquareAlbum" ⟨"SquareAlbum", "firstWithoutHat", "()I"⟩ ⟨"SquareAlbum", "firstWithoutHat", "()I"⟩ ∈ gtbl := List.mem_filter.mpr ⟨List.mem_append_left _ (List.mem_of_getElem? (i := 19) (by decide +kernel)), rfl⟩
theorem ks20 : Cond.selects "SquareAlbum$Scene" ⟨"SquareAlbum$Scene", "findEmpties", "(I)I"⟩ ⟨"SquareAlbum$Scene", "findEmpties", "(I)I"⟩ ∈ gtbl := List.mem_filter.mpr ⟨List.mem_append_left _ (List.mem_of_getElem? (i := 20) (by decide +kernel)), rfl⟩
theorem ks21 : Cond.selects "SquareAlbum$Scene" ⟨"SquareAlbum$Scene", "haveOneView", "(II)Z"⟩ ⟨"SquareAlbum$Scene", "haveOneView", "(II)Z"⟩ ∈ gtbl := List.mem_filter.mpr ⟨List.mem_append_left _ (List.mem_of_getElem? (i := 21) (by decide +kernel)), rfl⟩
theorem ks22 : Cond.selects "SquareAlbum$Scene" ⟨"SquareAlbum$Scene", "groundOf", "(IZ)J"⟩ ⟨"SquareAlbum$Scene", "groundOf", "(IZ)J"⟩ ∈ gtbl := List.mem_filter.mpr ⟨List.mem_append_left _ (List.mem_of_getElem? (i := 22) (by decide +kernel)), rfl⟩
theorem ks23 : Cond.selects "SquareAlbum$Scene" ⟨"SquareAlbum$Scene", "isEmptyGround", "(II)Z"⟩ ⟨"SquareAlbum$Scene", "isEmptyGround", "(II)Z"⟩ ∈ gtbl := List.mem_filter.mpr ⟨List.mem_append_left _ (List.mem_of_getElem? (i := 23) (by decide +kernel)), rfl⟩
theorem ks24 : Cond.selects "SquareAlbum$Scene" ⟨"SquareAlbum$Scene", "isGround", "(II)Z"⟩ ⟨"SquareAlbum$Scene", "isGround", "(II)Z"⟩ ∈ gtbl := List.mem_filter.mpr ⟨List.mem_append_left _ (List.mem_of_getElem? (i := 24) (by decide +kernel)), rfl⟩
theorem ks25 : Cond.selects "SquareAlbum$Scene" ⟨"SquareAlbum$Scene", "emptyInSomeOf", "(I)J"⟩ ⟨"SquareAlbum$Scene", "emptyInSomeOf", "(I)J"⟩ ∈ gtbl := List.mem_filter.mpr ⟨List.mem_append_left _ (List.mem_of_getElem? (i := 25) (by decide +kernel)), rfl⟩
theorem ks26 : Cond.selects "SquareAlbum" ⟨"SquareAlbum", "ratePosed", "(I)I"⟩ ⟨"SquareAlbum", "ratePosed", "(I)I"⟩ ∈ gtbl := List.mem_filter.mpr ⟨List.mem_append_left _ (List.mem_of_getElem? (i := 26) (by decide +kernel)), rfl⟩
theorem ks27 : Cond.selects "SquareAlbum" ⟨"SquareAlbum", "ratePicture", "(I)I"⟩ ⟨"SquareAlbum", "ratePicture", "(I)I"⟩ ∈ gtbl := List.mem_filter.mpr ⟨List.mem_append_left _ (List.mem_of_getElem? (i := 27) (by decide +kernel)), rfl⟩
theorem ks28 : Cond.selects "SquareAlbum" ⟨"SquareAlbum", "rateCrossed", "(I)I"⟩ ⟨"SquareAlbum", "rateCrossed", "(I)I"⟩ ∈ gtbl := List.mem_filter.mpr ⟨List.mem_append_left _ (List.mem_of_getElem? (i := 28) (by decide +kernel)), rfl⟩
theorem ks29 : Cond.selects "SquareAlbum" ⟨"SquareAlbum", "rateWaitedFor", "(I)I"⟩ ⟨"SquareAlbum", "rateWaitedFor", "(I)I"⟩ ∈ gtbl := List.mem_filter.mpr ⟨List.mem_append_left _ (List.mem_of_getElem? (i := 29) (by decide +kernel)), rfl⟩
theorem ks30 : Cond.selects "SquareAlbum" ⟨"SquareAlbum", "rateCopied", "(I)I"⟩ ⟨"SquareAlbum", "rateCopied", "(I)I"⟩ ∈ gtbl := List.mem_filter.mpr ⟨List.mem_append_left _ (List.mem_of_getElem? (i := 30) (by decide +kernel)), rfl⟩
theorem ks31 : Cond.selects "SquareAlbum" ⟨"SquareAlbum", "rateClocked", "(I)I"⟩ ⟨"SquareAlbum", "rateClocked", "(I)I"⟩ ∈ gtbl := List.mem_filter.mpr ⟨List.mem_append_left _ (List.mem_of_getElem? (i := 31) (by decide +kernel)), rfl⟩
theorem ks32 : Cond.selects "SquareAlbumModel" ⟨"SquareAlbumModel", "next", "()V"⟩ ⟨"SquareAlbumModel", "next", "()V"⟩ ∈ gtbl := List.mem_filter.mpr ⟨List.mem_append_left _ (List.mem_of_getElem? (i := 32) (by decide +kernel)), rfl⟩
theorem ks33 : Cond.selects "SquareAlbumModel" ⟨"SquareAlbumModel", "here", "()I"⟩ ⟨"SquareAlbumModel", "here", "()I"⟩ ∈ gtbl := List.mem_filter.mpr ⟨List.mem_append_left _ (List.mem_of_getElem? (i := 33) (by decide +kernel)), rfl⟩
theorem ks34 : Cond.selects "SquareAlbumModel" ⟨"SquareAlbumModel", "item", "(II)V"⟩ ⟨"SquareAlbumModel", "item", "(II)V"⟩ ∈ gtbl := List.mem_filter.mpr ⟨List.mem_append_left _ (List.mem_of_getElem? (i := 34) (by decide +kernel)), rfl⟩
theorem ks35 : Cond.selects "SquareAlbumModel" ⟨"SquareAlbumModel", "due", "(Z)I"⟩ ⟨"SquareAlbumModel", "due", "(Z)I"⟩ ∈ gtbl := List.mem_filter.mpr ⟨List.mem_append_left _ (List.mem_of_getElem? (i := 35) (by decide +kernel)), rfl⟩
theorem ks36 : Cond.selects "SquareAlbumModel" ⟨"SquareAlbumModel", "number", "(II)I"⟩ ⟨"SquareAlbumModel", "number", "(II)I"⟩ ∈ gtbl := List.mem_filter.mpr ⟨List.mem_append_left _ (List.mem_of_getElem? (i := 36) (by decide +kernel)), rfl⟩
theorem ks37 : Cond.selects "SquareAlbumModel" ⟨"SquareAlbumModel", "isOn", "(II)Z"⟩ ⟨"SquareAlbumModel", "isOn", "(II)Z"⟩ ∈ gtbl := List.mem_filter.mpr ⟨List.mem_append_left _ (List.mem_of_getElem? (i := 37) (by decide +kernel)), rfl⟩
theorem ks38 : Cond.selects "SquareAlbumModel" ⟨"SquareAlbumModel", "isWall", "(II)Z"⟩ ⟨"SquareAlbumModel", "isWall", "(II)Z"⟩ ∈ gtbl := List.mem_filter.mpr ⟨List.mem_append_left _ (List.mem_of_getElem? (i := 38) (by decide +kernel)), rfl⟩
theorem ks39 : Cond.selects "SquareAlbumModel" ⟨"SquareAlbumModel", "isPerson", "(I)Z"⟩ ⟨"SquareAlbumModel", "isPerson", "(I)Z"⟩ ∈ gtbl := List.mem_filter.mpr ⟨List.mem_append_left _ (List.mem_of_getElem? (i := 39) (by decide +kernel)), rfl⟩
theorem ks40 : Cond.selects "SquareAlbumModel" ⟨"SquareAlbumModel", "isPicture", "(I)Z"⟩ ⟨"SquareAlbumModel", "isPicture", "(I)Z"⟩ ∈ gtbl := List.mem_filter.mpr ⟨List.mem_append_left _ (List.mem_of_getElem? (i := 40) (by decide +kernel)), rfl⟩
theorem ks41 : Cond.selects "SquareAlbumModel" ⟨"SquareAlbumModel", "cellOf", "(II)I"⟩ ⟨"SquareAlbumModel", "cellOf", "(II)I"⟩ ∈ gtbl := List.mem_filter.mpr ⟨List.mem_append_left _ (List.mem_of_getElem? (i := 41) (by decide +kernel)), rfl⟩
theorem ks42 : Cond.selects "SquareAlbumModel" ⟨"SquareAlbumModel", "thoseOn", "(III)I"⟩ ⟨"SquareAlbumModel", "thoseOn", "(III)I"⟩ ∈ gtbl := List.mem_filter.mpr ⟨List.mem_append_left _ (List.mem_of_getElem? (i := 42) (by decide +kernel)), rfl⟩
theorem ks43 : Cond.selects "SquareAlbumModel" ⟨"SquareAlbumModel", "showsOf", "(I)I"⟩ ⟨"SquareAlbumModel", "showsOf", "(I)I"⟩ ∈ gtbl := List.mem_filter.mpr ⟨List.mem_append_left _ (List.mem_of_getElem? (i := 43) (by decide +kernel)), rfl⟩
theorem ks44 : Cond.selects "SquareAlbumModel" ⟨"SquareAlbumModel", "lookAs", "(II)V"⟩ ⟨"SquareAlbumModel", "lookAs", "(II)V"⟩ ∈ gtbl := List.mem_filter.mpr ⟨List.mem_append_left _ (List.mem_of_getElem? (i := 44) (by decide +kernel)), rfl⟩
theorem ks45 : Cond.selects "SquareAlbumModel" ⟨"SquareAlbumModel", "lookFrom", "(IIII)V"⟩ ⟨"SquareAlbumModel", "lookFrom", "(IIII)V"⟩ ∈ gtbl := List.mem_filter.mpr ⟨List.mem_append_left _ (List.mem_of_getElem? (i := 45) (by decide +kernel)), rfl⟩
theorem ks46 : Cond.selects "SquareAlbumModel" ⟨"SquareAlbumModel", "shown", "(I)I"⟩ ⟨"SquareAlbumModel", "shown", "(I)I"⟩ ∈ gtbl := List.mem_filter.mpr ⟨List.mem_append_left _ (List.mem_of_getElem? (i := 46) (by decide +kernel)), rfl⟩
theorem ks47 : Cond.selects "SquareAlbumModel" ⟨"SquareAlbumModel", "xAt", "(II)I"⟩ ⟨"SquareAlbumModel", "xAt", "(II)I"⟩ ∈ gtbl := List.mem_filter.mpr ⟨List.mem_append_left _ (List.mem_of_getElem? (i := 47) (by decide +kernel)), rfl⟩
theorem ks48 : Cond.selects "SquareAlbumModel" ⟨"SquareAlbumModel", "yAt", "(II)I"⟩ ⟨"SquareAlbumModel", "yAt", "(II)I"⟩ ∈ gtbl := List.mem_filter.mpr ⟨List.mem_append_left _ (List.mem_of_getElem? (i := 48) (by decide +kernel)), rfl⟩
theorem ks49 : Cond.selects "SquareAlbumModel" ⟨"SquareAlbumModel", "hides", "(II)I"⟩ ⟨"SquareAlbumModel", "hides", "(II)I"⟩ ∈ gtbl := List.mem_filter.mpr ⟨List.mem_append_left _ (List.mem_of_getElem? (i := 49) (by decide +kernel)), rfl⟩
theorem ks50 : Cond.selects "SquareAlbumModel" ⟨"SquareAlbumModel", "aheadOf", "(II)I"⟩ ⟨"SquareAlbumModel", "aheadOf", "(II)I"⟩ ∈ gtbl := List.mem_filter.mpr ⟨List.mem_append_left _ (List.mem_of_getElem? (i := 50) (by decide +kernel)), rfl⟩
theorem ks51 : Cond.selects "SquareAlbumModel" ⟨"SquareAlbumModel", "isSet", "(I)Z"⟩ ⟨"SquareAlbumModel", "isSet", "(I)Z"⟩ ∈ gtbl := List.mem_filter.mpr ⟨List.mem_append_left _ (List.mem_of_getElem? (i := 51) (by decide +kernel)), rfl⟩
theorem ks52 : Cond.selects "SquareAlbumModel" ⟨"SquareAlbumModel", "heldNow", "()I"⟩ ⟨"SquareAlbumModel", "heldNow", "()I"⟩ ∈ gtbl := List.mem_filter.mpr ⟨List.mem_append_left _ (List.mem_of_getElem? (i := 52) (by decide +kernel)), rfl⟩
theorem ks53 : Cond.selects "SquareAlbumModel" ⟨"SquareAlbumModel", "isChain", "(I)Z"⟩ ⟨"SquareAlbumModel", "isChain", "(I)Z"⟩ ∈ gtbl := List.mem_filter.mpr ⟨List.mem_append_left _ (List.mem_of_getElem? (i := 53) (by decide +kernel)), rfl⟩
theorem ks54 : Cond.selects "SquareAlbumModel" ⟨"SquareAlbumModel", "isOne", "(II)Z"⟩ ⟨"SquareAlbumModel", "isOne", "(II)Z"⟩ ∈ gtbl := List.mem_filter.mpr ⟨List.mem_append_left _ (List.mem_of_getElem? (i := 54) (by decide +kernel)), rfl⟩
theorem ks55 : Cond.selects "SquareAlbumModel" ⟨"SquareAlbumModel", "withNow", "()I"⟩ ⟨"SquareAlbumModel", "withNow", "()I"⟩ ∈ gtbl := List.mem_filter.mpr ⟨List.mem_append_left _ (List.mem_of_getElem? (i := 55) (by decide +kernel)), rfl⟩
theorem ks56 : Cond.selects "SquareAlbumModel" ⟨"SquareAlbumModel", "withoutNow", "()I"⟩ ⟨"SquareAlbumModel", "withoutNow", "()I"⟩ ∈ gtbl := List.mem_filter.mpr ⟨List.mem_append_left _ (List.mem_of_getElem? (i := 56) (by decide +kernel)), rfl⟩
theorem ks57 : Cond.selects "SquareAlbumModel" ⟨"SquareAlbumModel", "findFree", "(I)V"⟩ ⟨"SquareAlbumModel", "findFree", "(I)V"⟩ ∈ gtbl := List.mem_filter.mpr ⟨List.mem_append_left _ (List.mem_of_getElem? (i := 57) (by decide +kernel)), rfl⟩
theorem ks58 : Cond.selects "SquareAlbumModel" ⟨"SquareAlbumModel", "freeIn", "(III)I"⟩ ⟨"SquareAlbumModel", "freeIn", "(III)I"⟩ ∈ gtbl := List.mem_filter.mpr ⟨List.mem_append_left _ (List.mem_of_getElem? (i := 58) (by decide +kernel)), rfl⟩
theorem ks59 : Cond.selects "SquareAlbumModel" ⟨"SquareAlbumModel", "isAlike", "(II)Z"⟩ ⟨"SquareAlbumModel", "isAlike", "(II)Z"⟩ ∈ gtbl := List.mem_filter.mpr ⟨List.mem_append_left _ (List.mem_of_getElem? (i := 59) (by decide +kernel)), rfl⟩
theorem ks60 : Cond.selects "SquareAlbumModel" ⟨"SquareAlbumModel", "waitOf", "(I)I"⟩ ⟨"SquareAlbumModel", "waitOf", "(I)I"⟩ ∈ gtbl := List.mem_filter.mpr ⟨List.mem_append_left _ (List.mem_of_getElem? (i := 60) (by decide +kernel)), rfl⟩
theorem ks61 : Cond.selects "SquareAlbumModel" ⟨"SquareAlbumModel", "manyTo", "(II)I"⟩ ⟨"SquareAlbumModel", "manyTo", "(II)I"⟩ ∈ gtbl := List.mem_filter.mpr ⟨List.mem_append_left _ (List.mem_of_getElem? (i := 61) (by decide +kernel)), rfl⟩
theorem ks62 : Cond.selects "SquareAlbumModel" ⟨"SquareAlbumModel", "copy", "(II)V"⟩ ⟨"SquareAlbumModel", "copy", "(II)V"⟩ ∈ gtbl := List.mem_filter.mpr ⟨List.mem_append_left _ (List.mem_of_getElem? (i := 62) (by decide +kernel)), rfl⟩
theorem retW {a v : Int32} {M1 M9 : Mem} (H : some (a, M1) = some (v, M9)) : PR (some (.int v)) M9 (some (.int a)) M1 := by cases H; exact ⟨rfl, rfl⟩
theorem retWL {a v : Int64} {M1 M9 : Mem} (H : some (a, M1) = some (v, M9)) : PR (some (.long v)) M9 (some (.long a)) M1 := by cases H; exact ⟨rfl, rfl⟩
theorem retR {a v : Int32} {M : Mem} (H : some a = some v) : PR (some (.int v)) M (some (.int a)) M := by cases H; exact ⟨rfl, rfl⟩
theorem retRL {a v : Int64} {M : Mem} (H : some a = some v) : PR (some (.long v)) M (some (.long a)) M := by cases H; exact ⟨rfl, rfl⟩
theorem retV {M1 M9 : Mem} (H : some M1 = some M9) : PR none M9 none M1 := by cases H; exact ⟨rfl, rfl⟩
def imax (x y : Int32) : Int32 := if x < y then y else x
def imin (x y : Int32) : Int32 := if y < x then y else x
def iabs (x : Int32) : Int32 := if 0 ≤ x then x else 0 - x
theorem km_max : Cond.code Lib.Math.max.name Lib.Math.max.code 2 (some .int) ∈ gtbl := kw434
theorem km_min : Cond.code Lib.Math.min.name Lib.Math.min.code 2 (some .int) ∈ gtbl := kw230
theorem km_abs : Cond.code Lib.Math.abs.name Lib.Math.abs.code 1 (some .int) ∈ gtbl := kw310
section ZX
variable {l : Launch} {E : Env5} {own : String} {cc : ByteArray} {nL : Nat} {ret : Option FieldType} {h : Nat} {pc pc' tgt : Nat} {lv lv' : List (Nat × Value)} {st st' : List Value} {M M' : Mem} {Q : Option Value → Mem → Prop} {β : Type} {res : β}
theorem Z.wf (k : WfM M → Z l E own cc nL ret h pc lv st M Q) : Z l E own cc nL ret h pc lv st M Q := fun hw => k hw hw
theorem Z.icmp_eqH {x y : Int32} {off : Int} {a b : Option β} {i : Decidable (x = y)} (hd : dj cc pc (.if_icmp .eq off) 3 pc' off tgt) (H : @ite _ (x = y) i a b = some res) (kt : x = y → a = some res → Z l E own cc nL ret h tgt lv st M Q) (kf : ¬ x = y → b = some res → Z l E own cc nL ret h pc' lv st M Q) : Z l E own cc nL ret h pc lv (.int y :: .int x :: st) M Q := Z.icmp_eq hd (fun q => kt q (by rw [if_pos q] at H; exact H)) (fun q => kf q (by rw [if_neg q] at H; exact H))
theorem Z.if_eqH {x : Int32} {off : Int} {a b : Option β} {i : Decidable (x = 0)} (hd : dj cc pc (.ifCond .eq off) 3 pc' off tgt) (H : @ite _ (x = 0) i a b = some res) (kt : x = 0 → a = some res → Z l E own cc nL ret h tgt lv st M Q) (kf : ¬ x = 0 → b = some res → Z l E own cc nL ret h pc' lv st M Q) : Z l E own cc nL ret h pc lv (.int x :: st) M Q := Z.if_eq hd (fun q => kt q (by rw [if_pos q] at H; exact H)) (fun q => kf q (by rw [if_neg q] at H; exact H))
theorem Z.icmp_neH {x y : Int32} {off : Int} {a b : Option β} {i : Decidable (x = y)} (hd : dj cc pc (.if_icmp .ne off) 3 pc' off tgt) (H : @ite _ (x = y) i a b = some res) (kt : ¬ x = y → b = some res → Z l E own cc nL ret h tgt lv st M Q) (kf : x = y → a = some res → Z l E own cc nL ret h pc' lv st M Q) : Z l E own cc nL ret h pc lv (.int y :: .int x :: st) M Q := Z.icmp_ne hd (fun q => kt q (by rw [if_neg q] at H; exact H)) (fun q => kf q (by rw [if_pos q] at H; exact H))
theorem Z.if_neH {x : Int32} {off : Int} {a b : Option β} {i : Decidable (x = 0)} (hd : dj cc pc (.ifCond .ne off) 3 pc' off tgt) (H : @ite _ (x = 0) i a b = some res) (kt : ¬ x = 0 → b = some res → Z l E own cc nL ret h tgt lv st M Q) (kf : x = 0 → a = some res → Z l E own cc nL ret h pc' lv st M Q) : Z l E own cc nL ret h pc lv (.int x :: st) M Q := Z.if_ne hd (fun q => kt q (by rw [if_neg q] at H; exact H)) (fun q => kf q (by rw [if_pos q] at H; exact H))
theorem Z.icmp_ltH {x y : Int32} {off : Int} {a b : Option β} {i : Decidable (x < y)} (hd : dj cc pc (.if_icmp .lt off) 3 pc' off tgt) (H : @ite _ (x < y) i a b = some res) (kt : x < y → a = some res → Z l E own cc nL ret h tgt lv st M Q) (kf : ¬ x < y → b = some res → Z l E own cc nL ret h pc' lv st M Q) : Z l E own cc nL ret h pc lv (.int y :: .int x :: st) M Q := Z.icmp_lt hd (fun q => kt q (by rw [if_pos q] at H; exact H)) (fun q => kf q (by rw [if_neg q] at H; exact H))
theorem Z.if_ltH {x : Int32} {off : Int} {a b : Option β} {i : Decidable (x < 0)} (hd : dj cc pc (.ifCond .lt off) 3 pc' off tgt) (H : @ite _ (x < 0) i a b = some res) (kt : x < 0 → a = some res → Z l E own cc nL ret h tgt lv st M Q) (kf : ¬ x < 0 → b = some res → Z l E own cc nL ret h pc' lv st M Q) : Z l E own cc nL ret h pc lv (.int x :: st) M Q := Z.if_lt hd (fun q => kt q (by rw [if_pos q] at H; exact H)) (fun q => kf q (by rw [if_neg q] at H; exact H))
theorem Z.icmp_geH {x y : Int32} {off : Int} {a b : Option β} {i : Decidable (y ≤ x)} (hd : dj cc pc (.if_icmp .ge off) 3 pc' off tgt) (H : @ite _ (y ≤ x) i a b = some res) (kt : y ≤ x → a = some res → Z l E own cc nL ret h tgt lv st M Q) (kf : ¬ y ≤ x → b = some res → Z l E own cc nL ret h pc' lv st M Q) : Z l E own cc nL ret h pc lv (.int y :: .int x :: st) M Q := Z.icmp_ge hd (fun q => kt q (by rw [if_pos q] at H; exact H)) (fun q => kf q (by rw [if_neg q] at H; exact H))
theorem Z.if_geH {x : Int32} {off : Int} {a b : Option β} {i : Decidable (0 ≤ x)} (hd : dj cc pc (.ifCond .ge off) 3 pc' off tgt) (H : @ite _ (0 ≤ x) i a b = some res) (kt : 0 ≤ x → a = some res → Z l E own cc nL ret h tgt lv st M Q) (kf : ¬ 0 ≤ x → b = some res → Z l E own cc nL ret h pc' lv st M Q) : Z l E own cc nL ret h pc lv (.int x :: st) M Q := Z.if_ge hd (fun q => kt q (by rw [if_pos q] at H; exact H)) (fun q => kf q (by rw [if_neg q] at H; exact H))
theorem Z.icmp_gtH {x y : Int32} {off : Int} {a b : Option β} {i : Decidable (y < x)} (hd : dj cc pc (.if_icmp .gt off) 3 pc' off tgt) (H : @ite _ (y < x) i a b = some res) (kt : y < x → a = some res → Z l E own cc nL ret h tgt lv st M Q) (kf : ¬ y < x → b = some res → Z l E own cc nL ret h pc' lv st M Q) : Z l E own cc nL ret h pc lv (.int y :: .int x :: st) M Q := Z.icmp_gt hd (fun q => kt q (by rw [if_pos q] at H; exact H)) (fun q => kf q (by rw [if_neg q] at H; exact H))
theorem Z.if_gtH {x : Int32} {off : Int} {a b : Option β} {i : Decidable (0 < x)} (hd : dj cc pc (.ifCond .gt off) 3 pc' off tgt) (H : @ite _ (0 < x) i a b = some res) (kt : 0 < x → a = some res → Z l E own cc nL ret h tgt lv st M Q) (kf : ¬ 0 < x → b = some res → Z l E own cc nL ret h pc' lv st M Q) : Z l E own cc nL ret h pc lv (.int x :: st) M Q := Z.if_gt hd (fun q => kt q (by rw [if_pos q] at H; exact H)) (fun q => kf q (by rw [if_neg q] at H; exact H))
theorem Z.icmp_leH {x y : Int32} {off : Int} {a b : Option β} {i : Decidable (x ≤ y)} (hd : dj cc pc (.if_icmp .le off) 3 pc' off tgt) (H : @ite _ (x ≤ y) i a b = some res) (kt : x ≤ y → a = some res → Z l E own cc nL ret h tgt lv st M Q) (kf : ¬ x ≤ y → b = some res → Z l E own cc nL ret h pc' lv st M Q) : Z l E own cc nL ret h pc lv (.int y :: .int x :: st) M Q := Z.icmp_le hd (fun q => kt q (by rw [if_pos q] at H; exact H)) (fun q => kf q (by rw [if_neg q] at H; exact H))
theorem Z.if_leH {x : Int32} {off : Int} {a b : Option β} {i : Decidable (x ≤ 0)} (hd : dj cc pc (.ifCond .le off) 3 pc' off tgt) (H : @ite _ (x ≤ 0) i a b = some res) (kt : x ≤ 0 → a = some res → Z l E own cc nL ret h tgt lv st M Q) (kf : ¬ x ≤ 0 → b = some res → Z l E own cc nL ret h pc' lv st M Q) : Z l E own cc nL ret h pc lv (.int x :: st) M Q := Z.if_le hd (fun q => kt q (by rw [if_pos q] at H; exact H)) (fun q => kf q (by rw [if_neg q] at H; exact H))
theorem Z.ialdH {a n : Nat} {i : Int32} {g : Int32 → Option β} (hd : dq cc pc .iaload 1 pc') (ha : iA a n) (H : (rI M a n i).bind g = some res) (k : ∀ v, g v = some res → Z l E own cc nL ret h pc' lv (.int v :: st) M Q) : Z l E own cc nL ret h pc lv (.int i :: .ref (eA E a) :: st) M Q := by
  unfold rI at H
  by_cases hi : inb i n = true
  · rw [if_pos hi] at H; exact Z.iald hd ha (inb_in hi) (k _ H)
  · rw [if_neg hi] at H; cases H
theorem Z.baldH {a n : Nat} {i : Int32} {g : Int32 → Option β} (hd : dq cc pc .baload 1 pc') (ha : bA a n) (H : (rI M a n i).bind g = some res) (k : ∀ v, g v = some res → Z l E own cc nL ret h pc' lv (.int v :: st) M Q) : Z l E own cc nL ret h pc lv (.int i :: .ref (eA E a) :: st) M Q := by
  unfold rI at H
  by_cases hi : inb i n = true
  · rw [if_pos hi] at H; exact Z.bald hd ha (inb_in hi) (k _ H)
  · rw [if_neg hi] at H; cases H
theorem Z.zaldH {a n : Nat} {i : Int32} {g : Int32 → Option β} (hd : dq cc pc .baload 1 pc') (ha : zA a n) (H : (rI M a n i).bind g = some res) (k : ∀ v, g v = some res → Z l E own cc nL ret h pc' lv (.int v :: st) M Q) : Z l E own cc nL ret h pc lv (.int i :: .ref (eA E a) :: st) M Q := by
  unfold rI at H
  by_cases hi : inb i n = true
  · rw [if_pos hi] at H; exact Z.zald hd ha (inb_in hi) (k _ H)
  · rw [if_neg hi] at H; cases H
theorem Z.laldH {a n : Nat} {i : Int32} {g : Int64 → Option β} (hd : dq cc pc .laload 1 pc') (ha : jA a n) (H : (rJ M a n i).bind g = some res) (k : ∀ v, g v = some res → Z l E own cc nL ret h pc' lv (.long v :: st) M Q) : Z l E own cc nL ret h pc lv (.int i :: .ref (eA E a) :: st) M Q := by
  unfold rJ at H
  by_cases hi : inb i n = true
  · rw [if_pos hi] at H; exact Z.lald hd ha (inb_in hi) (k _ H)
  · rw [if_neg hi] at H; cases H
theorem Z.taldH {j : Nat} {C n : String} {t : List Int32} {i : Int32} {g : Int32 → Option β} (hd : dq cc pc .iaload 1 pc') (hs : ∀ (U : State) (H : Heap), stat E U H → sta E C n j t U H) (H : (rT t i).bind g = some res) (k : ∀ v, g v = some res → Z l E own cc nL ret h pc' lv (.int v :: st) M Q) : Z l E own cc nL ret h pc lv (.int i :: .ref (eS E j) :: st) M Q := by
  unfold rT at H
  by_cases hi : inb i t.length = true
  · rw [if_pos hi] at H; exact Z.tald hd hs (inb_in hi) (k _ H)
  · rw [if_neg hi] at H; cases H
theorem Z.aaldH {i : Int32} {g : Nat → Option β} (hd : dq cc pc .aaload 1 pc') (H : (rN i).bind g = some res) (k : ∀ v, isNt v → g v = some res → Z l E own cc nL ret h pc' lv (.ref (eA E v) :: st) M Q) : Z l E own cc nL ret h pc lv (.int i :: .ref (eA E 9) :: st) M Q := by
  unfold rN at H
  by_cases hi : inb i 2 = true
  · rw [if_pos hi] at H; exact Z.aald hd (inb_in hi) (k _ (isNt_img hi) H)
  · rw [if_neg hi] at H; cases H
theorem Z.iastH {a n : Nat} {i : Int32} {x : Int32} {g : Mem → Option β} (hd : dq cc pc .iastore 1 pc') (ha : iA a n) (H : (wI M a n i x).bind g = some res) (k : ∀ v, g v = some res → Z l E own cc nL ret h pc' lv st v Q) : Z l E own cc nL ret h pc lv (.int x :: .int i :: .ref (eA E a) :: st) M Q := by
  unfold wI at H
  by_cases hi : inb i n = true
  · rw [if_pos hi] at H; exact Z.iast hd ha (inb_in hi) (k _ H)
  · rw [if_neg hi] at H; cases H
theorem Z.bastH {a n : Nat} {i : Int32} {x : Int32} {g : Mem → Option β} (hd : dq cc pc .bastore 1 pc') (ha : bA a n) (H : (wB M a n i x).bind g = some res) (k : ∀ v, g v = some res → Z l E own cc nL ret h pc' lv st v Q) : Z l E own cc nL ret h pc lv (.int x :: .int i :: .ref (eA E a) :: st) M Q := by
  unfold wB at H
  by_cases hi : inb i n = true
  · rw [if_pos hi] at H; exact Z.bast hd ha (inb_in hi) (k _ H)
  · rw [if_neg hi] at H; cases H
theorem Z.zastH {a n : Nat} {i : Int32} {x : Int32} {g : Mem → Option β} (hd : dq cc pc .bastore 1 pc') (ha : zA a n) (H : (wZ M a n i x).bind g = some res) (k : ∀ v, g v = some res → Z l E own cc nL ret h pc' lv st v Q) : Z l E own cc nL ret h pc lv (.int x :: .int i :: .ref (eA E a) :: st) M Q := by
  unfold wZ at H
  by_cases hi : inb i n = true
  · rw [if_pos hi] at H; exact Z.zast hd ha (inb_in hi) (k _ H)
  · rw [if_neg hi] at H; cases H
theorem Z.lastH {a n : Nat} {i : Int32} {x : Int64} {g : Mem → Option β} (hd : dq cc pc .lastore 1 pc') (ha : jA a n) (H : (wJ M a n i x).bind g = some res) (k : ∀ v, g v = some res → Z l E own cc nL ret h pc' lv st v Q) : Z l E own cc nL ret h pc lv (.long x :: .int i :: .ref (eA E a) :: st) M Q := by
  unfold wJ at H
  by_cases hi : inb i n = true
  · rw [if_pos hi] at H; exact Z.last hd ha (inb_in hi) (k _ H)
  · rw [if_neg hi] at H; cases H
theorem Z.idivH {x y : Int32} {g : Int32 → Option β} (hd : dq cc pc .idiv 1 pc') (H : (oD x y).bind g = some res) (k : ∀ v, g v = some res → Z l E own cc nL ret h pc' lv (.int v :: st) M Q) : Z l E own cc nL ret h pc lv (.int y :: .int x :: st) M Q := by
  unfold oD at H
  by_cases hi : y = 0
  · rw [if_pos hi] at H; cases H
  · rw [if_neg hi] at H; exact Z.idiv hd hi (k _ H)
theorem Z.iremH {x y : Int32} {g : Int32 → Option β} (hd : dq cc pc .irem 1 pc') (H : (oR x y).bind g = some res) (k : ∀ v, g v = some res → Z l E own cc nL ret h pc' lv (.int v :: st) M Q) : Z l E own cc nL ret h pc lv (.int y :: .int x :: st) M Q := by
  unfold oR at H
  by_cases hi : y = 0
  · rw [if_pos hi] at H; cases H
  · rw [if_neg hi] at H; exact Z.irem hd hi (k _ H)
theorem Z.tabC {dflt lo hi off : Int} {offs : Array Int} {n : Nat} {x c : Int32} (hx : x = c) (hd : dq cc pc (.tableswitch dflt lo hi offs) n pc') (h1 : ¬ c.toInt < lo) (h2 : ¬ hi < c.toInt) (ho : offs[(c.toInt - lo).toNat]? = some off) (ht : (pc : Int) + off = (tgt : Int)) (k : Z l E own cc nL ret h tgt lv st M Q) : Z l E own cc nL ret h pc lv (.int x :: st) M Q := by
  subst hx
  exact Z.tabIn hd h1 h2 ho ht k
theorem Z.acopyH {x a0 a1 n0 n1 : Nat} {sp dp n : Int32} {g : Mem → Option β} (hd : dq cc pc (.invokestatic x) 3 pc') (w1 : Cond.methodLink own x arraycopyName ∈ gtbl) (w2 : Cond.native arraycopyName ∈ gtbl) (w3 : Cond.static arraycopyName ∈ gtbl) (w4 : Cond.initialized "java/lang/System" ∈ gtbl)
    (ha0 : iA a0 n0) (ha1 : iA a1 n1) (hR : 0 < h) (hW : (st.map fun v => v.category).sum ≤ 8) (H : (cpI M a0 n0 sp a1 n1 dp n).bind g = some res) (k : ∀ v, g v = some res → Z l E own cc nL ret h pc' lv st v Q) : Z l E own cc nL ret h pc lv (.int n :: .int dp :: .ref (eA E a1) :: .int sp :: .ref (eA E a0) :: st) M Q := by
  unfold cpI at H
  by_cases hi : ¬ sp < 0 ∧ ¬ dp < 0 ∧ ¬ n < 0 ∧ sp.toNatClampNeg + n.toNatClampNeg ≤ n0 ∧ dp.toNatClampNeg + n.toNatClampNeg ≤ n1
  · rw [if_pos hi] at H
    obtain ⟨h1, h2, h3, h4, h5⟩ := hi
    exact Z.acopy hd w1 w2 w3 w4 ha0 ha1 h1 h2 h3 h4 h5 hR hW (k _ H)
  · rw [if_neg hi] at H; cases H
theorem Z.mmax {z : Nat} {x y : Int32} (hd : dq cc pc (.invokestatic z) 3 pc') (w1 : Cond.methodLink own z Lib.Math.max.name ∈ gtbl) (w2 : Cond.static Lib.Math.max.name ∈ gtbl) (w3 : Cond.initialized "java/lang/Math" ∈ gtbl) (w4 : Cond.code Lib.Math.max.name Lib.Math.max.code 2 (some .int) ∈ gtbl) (hR : 0 < h) (hW : (st.map fun v => v.category).sum ≤ 8) (k : Z l E own cc nL ret h pc' lv (.int (imax x y) :: st) M Q) : Z l E own cc nL ret h pc lv (.int y :: .int x :: st) M Q := by
  obtain ⟨hd, rfl⟩ := hd
  intro hw p e s m args below meth c H locs ls C hP hS hl
  have hts := C.2.2.2.2.1
  exact va_mmax (R := rmH h) C.1 C.2.1 (C.2.2.1.trans hl.1.symm) C.2.2.2.1 (hts _ w1) (hts _ w2) (hts _ w3) (hts _ w4) hR (show _ ≤ 40 * h by omega) (Nat.zero_le _) (Nat.zero_le _) hd (k hw p e s m args below meth c H locs ls C hP hS hl)
theorem Z.mmin {z : Nat} {x y : Int32} (hd : dq cc pc (.invokestatic z) 3 pc') (w1 : Cond.methodLink own z Lib.Math.min.name ∈ gtbl) (w2 : Cond.static Lib.Math.min.name ∈ gtbl) (w3 : Cond.initialized "java/lang/Math" ∈ gtbl) (w4 : Cond.code Lib.Math.min.name Lib.Math.min.code 2 (some .int) ∈ gtbl) (hR : 0 < h) (hW : (st.map fun v => v.category).sum ≤ 8) (k : Z l E own cc nL ret h pc' lv (.int (imin x y) :: st) M Q) : Z l E own cc nL ret h pc lv (.int y :: .int x :: st) M Q := by
  obtain ⟨hd, rfl⟩ := hd
  intro hw p e s m args below meth c H locs ls C hP hS hl
  have hts := C.2.2.2.2.1
  exact va_mmin (R := rmH h) C.1 C.2.1 (C.2.2.1.trans hl.1.symm) C.2.2.2.1 (hts _ w1) (hts _ w2) (hts _ w3) (hts _ w4) hR (show _ ≤ 40 * h by omega) (Nat.zero_le _) (Nat.zero_le _) hd (k hw p e s m args below meth c H locs ls C hP hS hl)
theorem Z.mabs {z : Nat} {x : Int32} (hd : dq cc pc (.invokestatic z) 3 pc') (w1 : Cond.methodLink own z Lib.Math.abs.name ∈ gtbl) (w2 : Cond.static Lib.Math.abs.name ∈ gtbl) (w3 : Cond.initialized "java/lang/Math" ∈ gtbl) (w4 : Cond.code Lib.Math.abs.name Lib.Math.abs.code 1 (some .int) ∈ gtbl) (hR : 0 < h) (hW : (st.map fun v => v.category).sum ≤ 8) (k : Z l E own cc nL ret h pc' lv (.int (iabs x) :: st) M Q) : Z l E own cc nL ret h pc lv (.int x :: st) M Q := by
  obtain ⟨hd, rfl⟩ := hd
  intro hw p e s m args below meth c H locs ls C hP hS hl
  have hts := C.2.2.2.2.1
  exact va_mabs (R := rmH h) C.1 C.2.1 (C.2.2.1.trans hl.1.symm) C.2.2.2.1 (hts _ w1) (hts _ w2) (hts _ w3) (hts _ w4) hR (show _ ≤ 40 * h by omega) (Nat.zero_le _) (Nat.zero_le _) hd (k hw p e s m args below meth c H locs ls C hP hS hl)
end ZX

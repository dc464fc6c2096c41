/-! The machine's cells as a memory: ints, longs and references by a cell's place and a slot. -/
abbrev Mem : Type := (Nat → Nat → Int32) × (Nat → Nat → Int64) × (Nat → Nat → Nat)
abbrev Env5 : Type := (Nat → ClassId) × (Nat → Nat → Nat) × (Nat → ClassId) × (Nat → Nat) × (Nat → Nat)
abbrev eD (E : Env5) : va_G := (E.1, E.2.1)
abbrev eC (E : Env5) : Nat → ClassId := E.2.2.1
abbrev eA (E : Env5) : Nat → Nat := E.2.2.2.1
abbrev eS (E : Env5) : Nat → Nat := E.2.2.2.2
abbrev cls6 : List vw_C := [(RX0, TX0, 5), (RX1, TX1, 6), (RX2, TX2, 14), (RX3, TX3, 7), (RX4, TX4, 8), (RX5, TX5, 38)]
abbrev tys5 (E : Env5) : List (ClassId × FieldType) := [(eC E 0, .byte), (eC E 1, .int), (eC E 2, .long), (eC E 3, .boolean), (eC E 4, .object "SquareAlbum$Notes")]
def oX0 (E : Env5) (b : Nat) (i : Nat → Int32) (l : Nat → Int64) (r : Nat → Nat) : List Value := [.ref (eA E (b + 1)), .ref (eA E (b + 2)), .int (i 2), .int (i 3), .int (i 4)]
def oX1 (E : Env5) (b : Nat) (i : Nat → Int32) (l : Nat → Int64) (r : Nat → Nat) : List Value := [.ref (eA E (b + 1)), .ref (eA E (b + 2)), .ref (eA E (b + 3)), .ref (eA E (b + 4)), .int (i 4), .int (i 5)]
def oX2 (E : Env5) (b : Nat) (i : Nat → Int32) (l : Nat → Int64) (r : Nat → Nat) : List Value := [.ref (eA E (b + 1)), .ref (eA E (b + 2)), .ref (eA E (b + 3)), .int (i 3), .int (i 4), .int (i 5), .int (i 6), .int (i 7), .ref (eA E (b + 4)), .ref (eA E (b + 5)), .int (i 10), .ref (eA E (b + 6)), .ref (eA E (b + 7)), .ref (eA E (b + 8))]
def oX3 (E : Env5) (b : Nat) (i : Nat → Int32) (l : Nat → Int64) (r : Nat → Nat) : List Value := [.ref (eA E (b + 1)), .ref (eA E (b + 2)), .int (i 2), .int (i 3), .int (i 4), .int (i 5), .int (i 6)]
def oX4 (E : Env5) (b : Nat) (i : Nat → Int32) (l : Nat → Int64) (r : Nat → Nat) : List Value := [.ref (eA E 1), .ref (eA E 4), .ref (eA E 9), .ref (eA E 20), .ref (eA E 21), .ref (eA E (r 5)), .ref (eA E (r 6)), .long (l 7)]
def oX5 (E : Env5) (b : Nat) (i : Nat → Int32) (l : Nat → Int64) (r : Nat → Nat) : List Value := [.long (l 0), .ref (eA E (b + 1)), .int (i 2), .ref (eA E (b + 2)), .ref (eA E (b + 3)), .ref (eA E (b + 4)), .ref (eA E (b + 5)), .ref (eA E (b + 6)), .ref (eA E (b + 7)), .ref (eA E (b + 8)), .int (i 10), .int (i 11), .int (i 12), .int (i 13), .int (i 14), .int (i 15), .int (i 16), .int (i 17), .int (i 18), .int (i 19), .ref (eA E (b + 9)), .ref (eA E (b + 10)), .ref (eA E (b + 11)), .ref (eA E (b + 12)), .ref (eA E (b + 13)), .ref (eA E (b + 14)), .ref (eA E (b + 15)), .ref (eA E (b + 16)), .ref (eA E (b + 17)), .ref (eA E (b + 18)), .ref (eA E (b + 19)), .ref (eA E (b + 20)), .ref (eA E (b + 21)), .ref (eA E (b + 22)), .ref (eA E (b + 23)), .ref (eA E (b + 24)), .int (i 36), .ref (eA E (b + 25))]
abbrev arI (E : Env5) (n : Nat) (i : Nat → Int32) : va_E := .inl (eC E 1, n, .inl i)
abbrev arB (E : Env5) (n : Nat) (i : Nat → Int32) : va_E := .inl (eC E 0, n, .inl i)
abbrev arZ (E : Env5) (n : Nat) (i : Nat → Int32) : va_E := .inl (eC E 3, n, .inl i)
abbrev arJ (E : Env5) (n : Nat) (l : Nat → Int64) : va_E := .inl (eC E 2, n, .inr (.inl l))
def KW : Nat := 68
def cellF (E : Env5) (k : Nat) (i : Nat → Int32) (l : Nat → Int64) (r : Nat → Nat) : va_E := match k with
  | 0 => .inr (4, oX4 E 0 i l r)
  | 1 => .inr (3, oX3 E 1 i l r)
  | 2 => arB E 400 i
  | 3 => arI E 6 i
  | 4 => .inr (1, oX1 E 4 i l r)
  | 5 => arI E 80 i
  | 6 => arI E 32 i
  | 7 => arI E 10 i
  | 8 => arI E 8 i
  | 9 => .inl (eC E 4, 2, .inr (.inr (.inr (.inr (fun j => some (eA E (10 + 5 * j)))))))
  | 10 => .inr (1, oX1 E 10 i l r)
  | 11 => arI E 80 i
  | 12 => arI E 32 i
  | 13 => arI E 10 i
  | 14 => arI E 8 i
  | 15 => .inr (1, oX1 E 15 i l r)
  | 16 => arI E 80 i
  | 17 => arI E 32 i
  | 18 => arI E 10 i
  | 19 => arI E 8 i
  | 20 => arZ E 2 i
  | 21 => .inr (0, oX0 E 21 i l r)
  | 22 => arI E 648 i
  | 23 => arI E 4 i
  | 24 => .inr (2, oX2 E 24 i l r)
  | 25 => arZ E 144 i
  | 26 => arI E 48 i
  | 27 => arI E 50 i
  | 28 => arI E 8 i
  | 29 => arI E 144 i
  | 30 => arI E 10 i
  | 31 => arI E 10 i
  | 32 => arJ E 10 l
  | 33 => .inr (2, oX2 E 33 i l r)
  | 34 => arZ E 144 i
  | 35 => arI E 48 i
  | 36 => arI E 50 i
  | 37 => arI E 8 i
  | 38 => arI E 144 i
  | 39 => arI E 10 i
  | 40 => arI E 10 i
  | 41 => arJ E 10 l
  | 42 => .inr (5, oX5 E 42 i l r)
  | 43 => arB E 400 i
  | 44 => arI E 2 i
  | 45 => arI E 2 i
  | 46 => arZ E 288 i
  | 47 => arI E 2 i
  | 48 => arI E 96 i
  | 49 => arI E 2 i
  | 50 => arI E 100 i
  | 51 => arI E 3 i
  | 52 => arI E 60 i
  | 53 => arI E 60 i
  | 54 => arI E 60 i
  | 55 => arI E 60 i
  | 56 => arI E 3 i
  | 57 => arI E 24 i
  | 58 => arI E 24 i
  | 59 => arI E 24 i
  | 60 => arI E 24 i
  | 61 => arI E 30 i
  | 62 => arZ E 2 i
  | 63 => arI E 4 i
  | 64 => arI E 4 i
  | 65 => arI E 256 i
  | 66 => arI E 81 i
  | _ => arI E 8 i
abbrev cellM (E : Env5) (M : Mem) (k : Nat) : va_E := cellF E k (M.1 k) (M.2.1 k) (M.2.2 k)
def wd (E : Env5) (M : Mem) : va_W := (List.range KW).map (fun k => (eA E k, cellM E M k))
theorem wd_at {E : Env5} {M : Mem} {k : Nat} (h : k < KW) {c : va_E} (hc : cellM E M k = c) : (wd E M)[k]? = some (eA E k, c) := by
  subst hc
  simp [wd, h]
theorem wd_set {E : Env5} {M M' : Mem} {k : Nat} {c : va_E} (hc : cellM E M' k = c) (ho : ∀ a, a ≠ k → M'.1 a = M.1 a ∧ M'.2.1 a = M.2.1 a ∧ M'.2.2 a = M.2.2 a) : (wd E M).set k (eA E k, c) = wd E M' := by
  subst hc
  apply List.ext_getElem?
  intro j
  by_cases hj : j = k
  · subst hj
    by_cases hl : j < KW
    · rw [List.getElem?_set_self (by simpa [wd] using hl)]
      simp [wd, hl]
    · rw [List.getElem?_eq_none (by simpa [wd] using hl), List.getElem?_eq_none (by simpa [wd] using hl)]
  · rw [List.getElem?_set_ne (Ne.symm hj)]
    obtain ⟨h1, h2, h3⟩ := ho j hj
    simp only [wd, List.getElem?_map, cellM, h1, h2, h3]
    cases hq : (List.range KW)[j]? with
    | none => rfl
    | some q =>
      have : q = j := by
        have := List.getElem?_eq_some_iff.mp hq
        obtain ⟨a, b⟩ := this
        rw [List.getElem_range] at b
        exact b.symm
      subst this
      simp only [Option.map_some, h1, h2, h3]
/-- one int written -/
def sI (M : Mem) (k j : Nat) (x : Int32) : Mem := (fun a => if a = k then upd (M.1 a) j x else M.1 a, M.2)
def sJ (M : Mem) (k j : Nat) (x : Int64) : Mem := (M.1, fun a => if a = k then vp_updL (M.2.1 a) j x else M.2.1 a, M.2.2)
def sR (M : Mem) (k j : Nat) (x : Nat) : Mem := (M.1, M.2.1, fun a => if a = k then va_up (M.2.2 a) j x else M.2.2 a)
/-- a row replaced -/
def sW (M : Mem) (k : Nat) (f : Nat → Int32) : Mem := (fun a => if a = k then f else M.1 a, M.2)
theorem sI_o {M : Mem} {k j : Nat} {x : Int32} : ∀ a, a ≠ k → (sI M k j x).1 a = M.1 a ∧ (sI M k j x).2.1 a = M.2.1 a ∧ (sI M k j x).2.2 a = M.2.2 a := fun a h => ⟨if_neg h, rfl, rfl⟩
theorem sJ_o {M : Mem} {k j : Nat} {x : Int64} : ∀ a, a ≠ k → (sJ M k j x).1 a = M.1 a ∧ (sJ M k j x).2.1 a = M.2.1 a ∧ (sJ M k j x).2.2 a = M.2.2 a := fun a h => ⟨rfl, if_neg h, rfl⟩
theorem sR_o {M : Mem} {k j : Nat} {x : Nat} : ∀ a, a ≠ k → (sR M k j x).1 a = M.1 a ∧ (sR M k j x).2.1 a = M.2.1 a ∧ (sR M k j x).2.2 a = M.2.2 a := fun a h => ⟨rfl, rfl, if_neg h⟩
theorem sW_o {M : Mem} {k : Nat} {f : Nat → Int32} : ∀ a, a ≠ k → (sW M k f).1 a = M.1 a ∧ (sW M k f).2.1 a = M.2.1 a ∧ (sW M k f).2.2 a = M.2.2 a := fun a h => ⟨if_neg h, rfl, rfl⟩
theorem sI_k {M : Mem} {k j : Nat} {x : Int32} : (sI M k j x).1 k = upd (M.1 k) j x := if_pos rfl
theorem sJ_k {M : Mem} {k j : Nat} {x : Int64} : (sJ M k j x).2.1 k = vp_updL (M.2.1 k) j x := if_pos rfl
theorem sR_k {M : Mem} {k j : Nat} {x : Nat} : (sR M k j x).2.2 k = va_up (M.2.2 k) j x := if_pos rfl
theorem sW_k {M : Mem} {k : Nat} {f : Nat → Int32} : (sW M k f).1 k = f := if_pos rfl
def isSc (b : Nat) : Prop := b = 24 ∨ b = 33
def isNt (b : Nat) : Prop := b = 4 ∨ b = 10 ∨ b = 15
def WfM (M : Mem) : Prop := isSc (M.2.2 0 5) ∧ isSc (M.2.2 0 6)
def AW (E : Env5) : Nat → Prop := fun q => ∃ k, k < KW ∧ q = eA E k
def inj (E : Env5) : Prop := ∀ i j, i < KW → j < KW → eA E i = eA E j → i = j
theorem wd_D {E : Env5} {M : Mem} (h : inj E) : va_D (AW E) (wd E M) := by
  have key : ∀ (k : Nat) (q : Nat × va_E), (wd E M)[k]? = some q → k < KW ∧ q.1 = eA E k := by
    intro k q hk
    have hl := (List.getElem?_eq_some_iff.mp hk).1
    have hl2 : k < KW := by simpa [wd] using hl
    rw [wd_at hl2 rfl] at hk
    cases hk
    exact ⟨hl2, rfl⟩
  refine ⟨fun i j x y hi hj hxy => ?_, fun k q hk => ?_⟩
  · obtain ⟨a1, a2⟩ := key i x hi
    obtain ⟨b1, b2⟩ := key j y hj
    exact h i j a1 b1 (by rw [← a2, ← b2]; exact hxy)
  · obtain ⟨a1, a2⟩ := key k q hk
    exact ⟨k, a1, a2⟩
theorem cS {b : Nat} (hb : isSc b) : b < KW := by rcases hb with rfl | rfl <;> decide
theorem cN {b : Nat} (hb : isNt b) : b < KW := by rcases hb with rfl | rfl | rfl <;> decide
theorem c2 {E : Env5} {M : Mem} {b : Nat} (hb : isSc b) : cellM E M b = .inr (2, oX2 E b (M.1 b) (M.2.1 b) (M.2.2 b)) := by rcases hb with rfl | rfl <;> rfl
theorem c1 {E : Env5} {M : Mem} {b : Nat} (hb : isNt b) : cellM E M b = .inr (1, oX1 E b (M.1 b) (M.2.1 b) (M.2.2 b)) := by rcases hb with rfl | rfl | rfl <;> rfl
def iA (a n : Nat) : Prop := a < KW ∧ n < 2147483648 ∧ ∀ (E : Env5) (i : Nat → Int32) (l : Nat → Int64) (r : Nat → Nat), cellF E a i l r = arI E n i
def bA (a n : Nat) : Prop := a < KW ∧ n < 2147483648 ∧ ∀ (E : Env5) (i : Nat → Int32) (l : Nat → Int64) (r : Nat → Nat), cellF E a i l r = arB E n i
def zA (a n : Nat) : Prop := a < KW ∧ n < 2147483648 ∧ ∀ (E : Env5) (i : Nat → Int32) (l : Nat → Int64) (r : Nat → Nat), cellF E a i l r = arZ E n i
def jA (a n : Nat) : Prop := a < KW ∧ n < 2147483648 ∧ ∀ (E : Env5) (i : Nat → Int32) (l : Nat → Int64) (r : Nat → Nat), cellF E a i l r = arJ E n l
theorem a1_facts {b : Nat} (hb : isNt b) : iA (b + 1) 80 := by rcases hb with rfl | rfl | rfl <;> exact ⟨by decide, by decide, fun _ _ _ _ => rfl⟩
theorem a1_sightings {b : Nat} (hb : isNt b) : iA (b + 2) 32 := by rcases hb with rfl | rfl | rfl <;> exact ⟨by decide, by decide, fun _ _ _ _ => rfl⟩
theorem a1_hat {b : Nat} (hb : isNt b) : iA (b + 3) 10 := by rcases hb with rfl | rfl | rfl <;> exact ⟨by decide, by decide, fun _ _ _ _ => rfl⟩
theorem a1_joinable {b : Nat} (hb : isNt b) : iA (b + 4) 8 := by rcases hb with rfl | rfl | rfl <;> exact ⟨by decide, by decide, fun _ _ _ _ => rfl⟩
theorem a2_walls {b : Nat} (hb : isSc b) : zA (b + 1) 144 := by rcases hb with rfl | rfl <;> exact ⟨by decide, by decide, fun _ _ _ _ => rfl⟩
theorem a2_people {b : Nat} (hb : isSc b) : iA (b + 2) 48 := by rcases hb with rfl | rfl <;> exact ⟨by decide, by decide, fun _ _ _ _ => rfl⟩
theorem a2_pictures {b : Nat} (hb : isSc b) : iA (b + 3) 50 := by rcases hb with rfl | rfl <;> exact ⟨by decide, by decide, fun _ _ _ _ => rfl⟩
theorem a2_cells {b : Nat} (hb : isSc b) : iA (b + 4) 8 := by rcases hb with rfl | rfl <;> exact ⟨by decide, by decide, fun _ _ _ _ => rfl⟩
theorem a2_crowd {b : Nat} (hb : isSc b) : iA (b + 5) 144 := by rcases hb with rfl | rfl <;> exact ⟨by decide, by decide, fun _ _ _ _ => rfl⟩
theorem a2_shown {b : Nat} (hb : isSc b) : iA (b + 6) 10 := by rcases hb with rfl | rfl <;> exact ⟨by decide, by decide, fun _ _ _ _ => rfl⟩
theorem a2_shownNear {b : Nat} (hb : isSc b) : iA (b + 7) 10 := by rcases hb with rfl | rfl <;> exact ⟨by decide, by decide, fun _ _ _ _ => rfl⟩
theorem a2_empties {b : Nat} (hb : isSc b) : jA (b + 8) 10 := by rcases hb with rfl | rfl <;> exact ⟨by decide, by decide, fun _ _ _ _ => rfl⟩
theorem a0_tallies : iA 22 648 := ⟨by decide, by decide, fun _ _ _ _ => rfl⟩
theorem a0_ahead : iA 23 4 := ⟨by decide, by decide, fun _ _ _ _ => rfl⟩
theorem a3_bytes : bA 2 400 := ⟨by decide, by decide, fun _ _ _ _ => rfl⟩
theorem a3_numbers : iA 3 6 := ⟨by decide, by decide, fun _ _ _ _ => rfl⟩
theorem a5_text : bA 43 400 := ⟨by decide, by decide, fun _ _ _ _ => rfl⟩
theorem a5_wides : iA 44 2 := ⟨by decide, by decide, fun _ _ _ _ => rfl⟩
theorem a5_highs : iA 45 2 := ⟨by decide, by decide, fun _ _ _ _ => rfl⟩
theorem a5_walls : zA 46 288 := ⟨by decide, by decide, fun _ _ _ _ => rfl⟩
theorem a5_people : iA 47 2 := ⟨by decide, by decide, fun _ _ _ _ => rfl⟩
theorem a5_person : iA 48 96 := ⟨by decide, by decide, fun _ _ _ _ => rfl⟩
theorem a5_pictures : iA 49 2 := ⟨by decide, by decide, fun _ _ _ _ => rfl⟩
theorem a5_picture : iA 50 100 := ⟨by decide, by decide, fun _ _ _ _ => rfl⟩
theorem a5_facts : iA 51 3 := ⟨by decide, by decide, fun _ _ _ _ => rfl⟩
theorem a5_factA : iA 52 60 := ⟨by decide, by decide, fun _ _ _ _ => rfl⟩
theorem a5_factU : iA 53 60 := ⟨by decide, by decide, fun _ _ _ _ => rfl⟩
theorem a5_factB : iA 54 60 := ⟨by decide, by decide, fun _ _ _ _ => rfl⟩
theorem a5_factV : iA 55 60 := ⟨by decide, by decide, fun _ _ _ _ => rfl⟩
theorem a5_seen : iA 56 3 := ⟨by decide, by decide, fun _ _ _ _ => rfl⟩
theorem a5_seenX : iA 57 24 := ⟨by decide, by decide, fun _ _ _ _ => rfl⟩
theorem a5_seenY : iA 58 24 := ⟨by decide, by decide, fun _ _ _ _ => rfl⟩
theorem a5_seenT : iA 59 24 := ⟨by decide, by decide, fun _ _ _ _ => rfl⟩
theorem a5_seenMark : iA 60 24 := ⟨by decide, by decide, fun _ _ _ _ => rfl⟩
theorem a5_hats : iA 61 30 := ⟨by decide, by decide, fun _ _ _ _ => rfl⟩
theorem a5_isKept : zA 62 2 := ⟨by decide, by decide, fun _ _ _ _ => rfl⟩
theorem a5_offs : iA 63 4 := ⟨by decide, by decide, fun _ _ _ _ => rfl⟩
theorem a5_bestOffs : iA 64 4 := ⟨by decide, by decide, fun _ _ _ _ => rfl⟩
theorem a5_fewest : iA 65 256 := ⟨by decide, by decide, fun _ _ _ _ => rfl⟩
theorem a5_free : iA 66 81 := ⟨by decide, by decide, fun _ _ _ _ => rfl⟩
theorem a5_withs : iA 67 8 := ⟨by decide, by decide, fun _ _ _ _ => rfl⟩
theorem a4_kept : zA 20 2 := ⟨by decide, by decide, fun _ _ _ _ => rfl⟩
theorem u0_ofLastClock {E : Env5} {b : Nat} {i : Nat → Int32} {l : Nat → Int64} {r : Nat → Nat} {x : Int32} : oX0 E b (upd i 2 x) l r = (oX0 E b i l r).set 2 (.int x) := rfl
theorem u0_held {E : Env5} {b : Nat} {i : Nat → Int32} {l : Nat → Int64} {r : Nat → Nat} {x : Int32} : oX0 E b (upd i 3 x) l r = (oX0 E b i l r).set 3 (.int x) := rfl
theorem u0_outliers {E : Env5} {b : Nat} {i : Nat → Int32} {l : Nat → Int64} {r : Nat → Nat} {x : Int32} : oX0 E b (upd i 4 x) l r = (oX0 E b i l r).set 4 (.int x) := rfl
theorem u1_factCount {E : Env5} {b : Nat} {i : Nat → Int32} {l : Nat → Int64} {r : Nat → Nat} {x : Int32} : oX1 E b (upd i 4 x) l r = (oX1 E b i l r).set 4 (.int x) := rfl
theorem u1_seenCount {E : Env5} {b : Nat} {i : Nat → Int32} {l : Nat → Int64} {r : Nat → Nat} {x : Int32} : oX1 E b (upd i 5 x) l r = (oX1 E b i l r).set 5 (.int x) := rfl
theorem u2_wide {E : Env5} {b : Nat} {i : Nat → Int32} {l : Nat → Int64} {r : Nat → Nat} {x : Int32} : oX2 E b (upd i 3 x) l r = (oX2 E b i l r).set 3 (.int x) := rfl
theorem u2_high {E : Env5} {b : Nat} {i : Nat → Int32} {l : Nat → Int64} {r : Nat → Nat} {x : Int32} : oX2 E b (upd i 4 x) l r = (oX2 E b i l r).set 4 (.int x) := rfl
theorem u2_wallCount {E : Env5} {b : Nat} {i : Nat → Int32} {l : Nat → Int64} {r : Nat → Nat} {x : Int32} : oX2 E b (upd i 5 x) l r = (oX2 E b i l r).set 5 (.int x) := rfl
theorem u2_personCount {E : Env5} {b : Nat} {i : Nat → Int32} {l : Nat → Int64} {r : Nat → Nat} {x : Int32} : oX2 E b (upd i 6 x) l r = (oX2 E b i l r).set 6 (.int x) := rfl
theorem u2_pictureCount {E : Env5} {b : Nat} {i : Nat → Int32} {l : Nat → Int64} {r : Nat → Nat} {x : Int32} : oX2 E b (upd i 7 x) l r = (oX2 E b i l r).set 7 (.int x) := rfl
theorem u2_standing {E : Env5} {b : Nat} {i : Nat → Int32} {l : Nat → Int64} {r : Nat → Nat} {x : Int32} : oX2 E b (upd i 10 x) l r = (oX2 E b i l r).set 10 (.int x) := rfl
theorem u3_length {E : Env5} {b : Nat} {i : Nat → Int32} {l : Nat → Int64} {r : Nat → Nat} {x : Int32} : oX3 E b (upd i 2 x) l r = (oX3 E b i l r).set 2 (.int x) := rfl
theorem u3_place {E : Env5} {b : Nat} {i : Nat → Int32} {l : Nat → Int64} {r : Nat → Nat} {x : Int32} : oX3 E b (upd i 3 x) l r = (oX3 E b i l r).set 3 (.int x) := rfl
theorem u3_token {E : Env5} {b : Nat} {i : Nat → Int32} {l : Nat → Int64} {r : Nat → Nat} {x : Int32} : oX3 E b (upd i 4 x) l r = (oX3 E b i l r).set 4 (.int x) := rfl
theorem u3_start {E : Env5} {b : Nat} {i : Nat → Int32} {l : Nat → Int64} {r : Nat → Nat} {x : Int32} : oX3 E b (upd i 5 x) l r = (oX3 E b i l r).set 5 (.int x) := rfl
theorem u3_number {E : Env5} {b : Nat} {i : Nat → Int32} {l : Nat → Int64} {r : Nat → Nat} {x : Int32} : oX3 E b (upd i 6 x) l r = (oX3 E b i l r).set 6 (.int x) := rfl
theorem u4_scene {E : Env5} {b : Nat} {i : Nat → Int32} {l : Nat → Int64} {r : Nat → Nat} {x : Nat} : oX4 E b i l (va_up r 5 x) = (oX4 E b i l r).set 5 (.ref (eA E x)) := rfl
theorem u4_spare {E : Env5} {b : Nat} {i : Nat → Int32} {l : Nat → Int64} {r : Nat → Nat} {x : Nat} : oX4 E b i l (va_up r 6 x) = (oX4 E b i l r).set 6 (.ref (eA E x)) := rfl
theorem u4_traced {E : Env5} {b : Nat} {i : Nat → Int32} {l : Nat → Int64} {r : Nat → Nat} {x : Int64} : oX4 E b i (vp_updL l 7 x) r = (oX4 E b i l r).set 7 (.long x) := rfl
theorem u5_trace {E : Env5} {b : Nat} {i : Nat → Int32} {l : Nat → Int64} {r : Nat → Nat} {x : Int64} : oX5 E b i (vp_updL l 0 x) r = (oX5 E b i l r).set 0 (.long x) := rfl
theorem u5_typed {E : Env5} {b : Nat} {i : Nat → Int32} {l : Nat → Int64} {r : Nat → Nat} {x : Int32} : oX5 E b (upd i 2 x) l r = (oX5 E b i l r).set 2 (.int x) := rfl
theorem u5_at {E : Env5} {b : Nat} {i : Nat → Int32} {l : Nat → Int64} {r : Nat → Nat} {x : Int32} : oX5 E b (upd i 10 x) l r = (oX5 E b i l r).set 10 (.int x) := rfl
theorem u5_start {E : Env5} {b : Nat} {i : Nat → Int32} {l : Nat → Int64} {r : Nat → Nat} {x : Int32} : oX5 E b (upd i 11 x) l r = (oX5 E b i l r).set 11 (.int x) := rfl
theorem u5_sort {E : Env5} {b : Nat} {i : Nat → Int32} {l : Nat → Int64} {r : Nat → Nat} {x : Int32} : oX5 E b (upd i 12 x) l r = (oX5 E b i l r).set 12 (.int x) := rfl
theorem u5_value {E : Env5} {b : Nat} {i : Nat → Int32} {l : Nat → Int64} {r : Nat → Nat} {x : Int32} : oX5 E b (upd i 13 x) l r = (oX5 E b i l r).set 13 (.int x) := rfl
theorem u5_fault {E : Env5} {b : Nat} {i : Nat → Int32} {l : Nat → Int64} {r : Nat → Nat} {x : Int32} : oX5 E b (upd i 14 x) l r = (oX5 E b i l r).set 14 (.int x) := rfl
theorem u5_fromX {E : Env5} {b : Nat} {i : Nat → Int32} {l : Nat → Int64} {r : Nat → Nat} {x : Int32} : oX5 E b (upd i 15 x) l r = (oX5 E b i l r).set 15 (.int x) := rfl
theorem u5_fromY {E : Env5} {b : Nat} {i : Nat → Int32} {l : Nat → Int64} {r : Nat → Nat} {x : Int32} : oX5 E b (upd i 16 x) l r = (oX5 E b i l r).set 16 (.int x) := rfl
theorem u5_toward {E : Env5} {b : Nat} {i : Nat → Int32} {l : Nat → Int64} {r : Nat → Nat} {x : Int32} : oX5 E b (upd i 17 x) l r = (oX5 E b i l r).set 17 (.int x) := rfl
theorem u5_second {E : Env5} {b : Nat} {i : Nat → Int32} {l : Nat → Int64} {r : Nat → Nat} {x : Int32} : oX5 E b (upd i 18 x) l r = (oX5 E b i l r).set 18 (.int x) := rfl
theorem u5_sideNow {E : Env5} {b : Nat} {i : Nat → Int32} {l : Nat → Int64} {r : Nat → Nat} {x : Int32} : oX5 E b (upd i 19 x) l r = (oX5 E b i l r).set 19 (.int x) := rfl
theorem u5_cells {E : Env5} {b : Nat} {i : Nat → Int32} {l : Nat → Int64} {r : Nat → Nat} {x : Int32} : oX5 E b (upd i 36 x) l r = (oX5 E b i l r).set 36 (.int x) := rfl

/-! The start, in one. -/
theorem arrV_cong {cA : ClassId} {n : Nat} {f g : Nat → Value} (h : ∀ j, j < n → f j = g j) : arrV cA n f = arrV cA n g := by
  unfold arrV
  congr 1
  congr 1
  funext j
  exact h j.val j.isLt
def aAll (q : Nat) (u : Nat → Nat) (r : Nat) (v : Nat → Nat) : Nat → Nat := lu [q, u 1, u 2, u 3, u 4, u 5, u 6, u 7, u 8, u 9, u 10, u 11, u 12, u 13, u 14, u 15, u 16, u 17, u 18, u 19, u 20, u 21, u 22, u 23, u 24, u 25, u 26, u 27, u 28, u 29, u 30, u 31, u 32, u 33, u 34, u 35, u 36, u 37, u 38, u 39, u 40, u 41, r, v 1, v 2, v 3, v 4, v 5, v 6, v 7, v 8, v 9, v 10, v 11, v 12, v 13, v 14, v 15, v 16, v 17, v 18, v 19, v 20, v 21, v 22, v 23, v 24, v 25]
set_option maxRecDepth 100000 in
set_option maxHeartbeats 4000000 in
theorem wd_0 (dC : Nat → ClassId) (dI : Nat → Nat → Nat) (cA : Nat → ClassId) (a0 st : Nat → Nat) (q r : Nat) (u v : Nat → Nat) : (alW (dC, dI, cA, a0, st) q u ++ moW (dC, dI, cA, a0, st) r v).set 9 (u 9, cQa (dC, dI, cA, a0, st) 2 (fun j => some (aAll q u r v (10 + 5 * j)))) = wd (dC, dI, cA, aAll q u r v, st) M0 := rfl
set_option maxRecDepth 100000 in
set_option maxHeartbeats 4000000 in
theorem whole_start {p : Program} {e : Env} {s : State} {m : MethodId} {below : List Frame} {meth : Method} {c : Code} (l : Launch) {b L : Nat} {xs : Nat → Int32} (hL : L ≤ 3072) (C0 : lw_At p s m meth c b L xs) : W p l e room_1 s m #[Value.ref b] below meth c s.heap [] 0 0 (lw_Z below #[Value.ref b] s) (entryFrame m ([Value.ref b] : List Value).toArray 4) := by
  obtain ⟨hx, hb, hr, hml, hown, hts, hX, hbl, hlocks, hgv⟩ := id C0
  have g : ∀ w ∈ gtbl, w.before #[Value.ref b] s = true := fun w h => hts w (gtbl_in w h)
  have hn : nests s := fun w hw => va_Nw.of (ntbl_tab w hw) (hts w (ntbl_in w hw))
  have hao : va_AO "SquareAlbum$Notes" s := va_AO.of (hts _ aoW)
  obtain ⟨dC, dI, cA, hKa⟩ := K_get g (hts _ aoW)
  obtain ⟨st, hst⟩ := stat_get hts hgv
  obtain ⟨E0, hE0⟩ : ∃ E0 : Env5, E0 = (dC, dI, cA, (fun _ => 0), st) := ⟨_, rfl⟩
  have hK : va_K (eD E0) cls6 (tys5 E0) s := by rw [hE0]; exact hKa _ _
  have hl := lv_entry ([.ref b]) (n := 4) (Nat.le_of_ble_eq_true rfl)
  rw [lg_entry_eq]
  generalize (lg_sl ([.ref b]) ++ List.replicate (4 - (lg_sl ([.ref b])).length) Slot.unset).toArray = ls at hl ⊢
  have hl : lv_has ls 4 [(0, .ref b)] := hl
  have hP : va_P (eD E0) cls6 [] s.heap := fun k q hk => by simp at hk
  have hD : va_D (fun q : Nat => s.heap.size ≤ q) [] := ⟨fun i j x y hi => by simp at hi, fun k q hk => by simp at hk⟩
  have hS : va_S (fun q : Nat => s.heap.size ≤ q) s.heap s.heap [] := va_S.rf
  refine va_new (ci := 4) (fs := [.null, .null, .null, .null, .null, .null, .null, .long 0]) (N := 8) hx hb g inX4 tyX4 tyX4_ok hown (g _ kc12) (g _ kc13) (g _ kw1) hK hP hD hS (fun q h => h) rfl (fun j hj => by rcases (show j = 0 ∨ j = 1 ∨ j = 2 ∨ j = 3 ∨ j = 4 ∨ j = 5 ∨ j = 6 ∨ j = 7 by omega) with rfl | rfl | rfl | rfl | rfl | rfl | rfl | rfl <;> rfl) (by decide) (by decide) dL_law_0.1 (fun q0 H hP hD hS => ?_)
  refine lv_dup hx hb dL_law_3.1 rfl ?_
  refine zn_join (E := E0) (A := fun q : Nat => s.heap.size ≤ q) (wr := []) (x := (q0, .inr (4, [.null, .null, .null, .null, .null, .null, .null, .long 0]))) (fun q h => h) (va_runI (As := []) (rest := [.ref q0]) (b := q0) (bytes := cX4_init) (maxL := 2) (n := 0) (Ts := gtbl) ⟨hx, hb, hml, hown, g⟩ (kX4_init l E0 q0 _) ⟨callB_of 0 g (good_wsY kw16) rfl rfl rfl (g _ kw1) (g _ kw14) ⟨by decide, by decide, by decide +kernel⟩ ⟨by decide, by decide⟩, rfl, g _ kw15⟩ ⟨WlN.blind, fun U hU hW2 => ⟨rfl, by rw [hU], by rw [hU]; exact last_P hP, one_D trivial, va_K.moved hW2.alike hK, nests.warm hW2 hn, va_AO.moved hW2.alike hao⟩⟩ rfl rfl hl.1 rfl (lv_room (Nat.le_of_ble_eq_true rfl)) dL_law_4.1 ⟨by decide, by decide⟩) hP hD hS (fun w H locs hq hP hD hS => ?_)
  obtain ⟨u, rfl⟩ := hq
  refine lv_astore_n (lv' := [(1, .ref q0), (0, .ref b)]) hx hb dL_law_7.1 rfl hl (by decide) rfl (fun ls hl => ?_)
  refine va_new (ci := 5) (fs := [.long 0, .null, .int 0, .null, .null, .null, .null, .null, .null, .null, .int 0, .int 0, .int 0, .int 0, .int 0, .int 0, .int 0, .int 0, .int 0, .int 0, .null, .null, .null, .null, .null, .null, .null, .null, .null, .null, .null, .null, .null, .null, .null, .null, .int 0, .null]) (N := 38) hx hb g inX5 tyX5 tyX5_ok hown (g _ kc673) (g _ kc674) (g _ kw7) hK hP hD hS (fun q h => h) rfl (fun j hj => by rcases (show j = 0 ∨ j = 1 ∨ j = 2 ∨ j = 3 ∨ j = 4 ∨ j = 5 ∨ j = 6 ∨ j = 7 ∨ j = 8 ∨ j = 9 ∨ j = 10 ∨ j = 11 ∨ j = 12 ∨ j = 13 ∨ j = 14 ∨ j = 15 ∨ j = 16 ∨ j = 17 ∨ j = 18 ∨ j = 19 ∨ j = 20 ∨ j = 21 ∨ j = 22 ∨ j = 23 ∨ j = 24 ∨ j = 25 ∨ j = 26 ∨ j = 27 ∨ j = 28 ∨ j = 29 ∨ j = 30 ∨ j = 31 ∨ j = 32 ∨ j = 33 ∨ j = 34 ∨ j = 35 ∨ j = 36 ∨ j = 37 by omega) with rfl | rfl | rfl | rfl | rfl | rfl | rfl | rfl | rfl | rfl | rfl | rfl | rfl | rfl | rfl | rfl | rfl | rfl | rfl | rfl | rfl | rfl | rfl | rfl | rfl | rfl | rfl | rfl | rfl | rfl | rfl | rfl | rfl | rfl | rfl | rfl | rfl | rfl <;> rfl) (by decide) (by decide) dL_law_8.1 (fun r0 H hP hD hS => ?_)
  refine lv_dup hx hb dL_law_11.1 rfl ?_
  refine zn_join (E := E0) (A := fun q : Nat => s.heap.size ≤ q) (wr := [] ++ alW E0 q0 u) (x := (r0, .inr (5, [.long 0, .null, .int 0, .null, .null, .null, .null, .null, .null, .null, .int 0, .int 0, .int 0, .int 0, .int 0, .int 0, .int 0, .int 0, .int 0, .int 0, .null, .null, .null, .null, .null, .null, .null, .null, .null, .null, .null, .null, .null, .null, .null, .null, .int 0, .null]))) (fun q h => h) (va_runI (As := []) (rest := [.ref r0]) (b := r0) (bytes := cX5_init) (maxL := 2) (n := 0) (Ts := gtbl) ⟨hx, hb, hml, hown, g⟩ (kX5_init l E0 r0 _) ⟨callB_of 0 g (good_wsY kw677) rfl rfl rfl (g _ kw7) (g _ kw675) ⟨by decide, by decide, by decide +kernel⟩ ⟨by decide, by decide⟩, rfl, g _ kw676⟩ ⟨WlN.blind, fun U hU hW2 => ⟨rfl, by rw [hU], by rw [hU]; exact last_P hP, one_D trivial, va_K.moved hW2.alike hK, nests.warm hW2 hn, va_AO.moved hW2.alike hao⟩⟩ rfl rfl hl.1 rfl (lv_room (Nat.le_of_ble_eq_true rfl)) dL_law_12.1 ⟨by decide, by decide⟩) hP hD hS (fun w H locs hq hP hD hS => ?_)
  obtain ⟨v, rfl⟩ := hq
  refine lv_astore_n (lv' := [(2, .ref r0), (1, .ref q0), (0, .ref b)]) hx hb dL_law_15.1 rfl hl (by decide) rfl (fun ls hl => ?_)
  refine lv_iconst (v := 0) hx hb dL_law_16.1 (by decide) ?_
  refine lv_istore_n (lv' := [(3, .int 0), (2, .ref r0), (1, .ref q0), (0, .ref b)]) hx hb dL_law_17.1 rfl hl (by decide) rfl (fun ls hl => ?_)
  have hP : va_P (eD E0) cls6 (alW E0 q0 u ++ moW E0 r0 v) H := hP
  have hD : va_D (fun q : Nat => s.heap.size ≤ q) (alW E0 q0 u ++ moW E0 r0 v) := hD
  have h9 : (alW E0 q0 u ++ moW E0 r0 v)[9]? = some (u 9, cQa E0 2 (va_up (va_up (fun _ => none) 0 (some (u 10))) 1 (some (u 15)))) := rfl
  have hc9 : va_at (eD E0) cls6 (u 9, cQa E0 2 (fun j => some (aAll q0 u r0 v (10 + 5 * j)))) H := by
    have h := hP 9 _ h9
    refine Eq.trans h (congrArg some ((vp_cell_q _ _ _).trans ((arrV_cong (fun j hj => ?_)).trans (vp_cell_q _ _ _).symm)))
    rcases (show j = 0 ∨ j = 1 by omega) with rfl | rfl <;> rfl
  have hP2 := va_P.set hP hD h9 hc9 (fun _ _ => rfl)
  have hD2 := va_D.set (e := cQa E0 2 (fun j => some (aAll q0 u r0 v (10 + 5 * j)))) hD h9
  obtain ⟨E, hE⟩ : ∃ E : Env5, E = (dC, dI, cA, aAll q0 u r0 v, st) := ⟨_, rfl⟩
  have hw0 : (alW E0 q0 u ++ moW E0 r0 v).set 9 (u 9, cQa E0 2 (fun j => some (aAll q0 u r0 v (10 + 5 * j)))) = wd E M0 := by
    rw [hE0, hE]; exact wd_0 dC dI cA (fun _ => 0) st q0 r0 u v
  rw [hw0] at hP2 hD2
  have hP3 : va_P (eD E) cls6 (wd E M0) H := by rw [hE0] at hP2; rw [hE] at hP2 ⊢; exact hP2
  have hAd : ∀ k, k < KW → s.heap.size ≤ eA E k := fun k hk => hD2.2 k _ (wd_at hk rfl)
  have hj : inj E := fun i j hi hj2 he => hD2.1 i j _ _ (wd_at hi rfl) (wd_at hj2 rfl) he
  have hst2 : stat E s s.heap := hst E (by rw [hE]) (fun q hq => by obtain ⟨k, hk, rfl⟩ := hq; exact hAd k hk)
  have hC : LC p s m meth c b L xs E := ⟨C0, by rw [hE]; exact hKa _ _, hj, hst2, hn, hAd, hL⟩
  have e0 : eA E 0 = q0 := by rw [hE]; rfl
  have e42 : eA E 42 = r0 := by rw [hE]; rfl
  refine law_loop hC ⟨?_, ?_⟩ L 0 rfl (Nat.zero_le L) M0 Inv_0 ⟨Or.inl rfl, Or.inr rfl⟩ H _ ls hP3 hS ?_
  · decide
  · decide
  · unfold lv0
    rw [e0, e42]
    exact lv_sub hl [3, 2, 1, 0] rfl

set_option maxRecDepth 100000 in
theorem tX5_square_261 {l : Launch} {E : Env5}   {k261 : Int32 → Int32 → Mem → Option (Int32 × Mem)} (x1 : Int32) (x2 : Int32) (M : Mem) {v9 : Int32} {M9 : Mem} (hk261 : ∀ (x1 : Int32) (x2 : Int32) (M : Mem), k261 x1 x2 M = some (v9, M9) → Z l E RX5 cX5_square 3 (some .int) 5 261 [(0, .ref (eA E (42))), (1, .int (x1)), (2, .int (x2))] [] M (PR (some (.int v9)) M9)) (H : fX5_square_261B k261 x1 x2 M = some (v9, M9)) : Z l E RX5 cX5_square 3 (some .int) 5 261 [(0, .ref (eA E (42))), (1, .int (x1)), (2, .int (x2))] [] M (PR (some (.int v9)) M9) := by
  unfold fX5_square_261B at H
  refine Z.iload_n dX5_square_261 2 rfl ?_
  refine Z.bipush (v := 10) dX5_square_262 (by decide) ?_
  refine Z.icmp_geH dX5_square_264 H (fun br264 H => ?_) (fun br264 H => ?_)
  · refine Z.aload_n dX5_square_280 0 rfl ?_
    refine Z.get dX5_square_281 inX5 (hc := rfl) (by decide) c5 31 (by decide) kw710 rfl rfl ?_
    refine Z.iconst (v := 0) dX5_square_284 (by decide) ?_
    refine Z.iconst (v := 0) dX5_square_285 (by decide) ?_
    refine Z.zastH dX5_square_286 a5_isKept H (fun M1 H => ?_)
    refine Z.aload_n dX5_square_287 0 rfl ?_
    refine Z.get dX5_square_288 inX5 (hc := rfl) (by decide) c5 31 (by decide) kw710 rfl rfl ?_
    refine Z.iconst (v := 1) dX5_square_291 (by decide) ?_
    refine Z.iconst (v := 0) dX5_square_292 (by decide) ?_
    refine Z.zastH dX5_square_293 a5_isKept H (fun M2 H => ?_)
    refine Z.aload_n dX5_square_294 0 rfl ?_
    refine Z.iconst (v := 0) dX5_square_295 (by decide) ?_
    refine wE H (fun M3 eM3 H => ?_)
    refine Z.put (ty := .int) (M' := M3) dX5_square_296 inX5 tyX5_ok nmX5 (hc := rfl) (by decide) c5 2 (by decide) kw681 rfl rfl (by decide +kernel) rfl rfl (Nat.le_of_ble_eq_true rfl) (by rw [← eM3, c5, sI_k]; exact congrArg (fun q => Sum.inr (5, q)) u5_typed) (by rw [← eM3]; exact sI_o) (by rw [← eM3]; exact (fun q => q)) ?_
    refine Z.iload_n dX5_square_299 1 rfl ?_
    exact Z.iret rfl dX5_square_300 (retW H)
  · refine Z.aload_n dX5_square_267 0 rfl ?_
    refine Z.get dX5_square_268 inX5 (hc := rfl) (by decide) c5 30 (by decide) kw709 rfl rfl ?_
    refine Z.iload_n dX5_square_271 2 rfl ?_
    refine Z.iconst (v := 2) dX5_square_272 (by decide) ?_
    refine Z.iastH dX5_square_273 a5_hats H (fun M4 H => ?_)
    refine Z.iinc (v := x2 + 1) (lv' := [(2, .int (x2 + 1)), (0, .ref (eA E (42))), (1, .int (x1))]) dX5_square_274 2 rfl rfl (by decide) rfl ?_
    refine Z.goto dX5_square_277 ?_
    refine Z.sub [1, 2, 0] rfl ?_
    exact hk261 (x1) (x2 + 1) M4  H
theorem tX5_square_261L {l : Launch} {E : Env5}     {v9 : Int32} {M9 : Mem}  : ∀ (n : Nat) (x1 : Int32) (x2 : Int32) (M : Mem), fX5_square_261L   n x1 x2 M = some (v9, M9) → Z l E RX5 cX5_square 3 (some .int) 5 261 [(0, .ref (eA E (42))), (1, .int (x1)), (2, .int (x2))] [] M (PR (some (.int v9)) M9) := by
  intro n
  induction n with
  | zero => intro x1 x2 M H; exact absurd H (by simp [fX5_square_261L])
  | succ n ih => intro x1 x2 M H; exact tX5_square_261  x1 x2 M  (fun x1 x2 M H => ih x1 x2 M H) H
set_option maxRecDepth 100000 in
theorem tX5_square_232 {l : Launch} {E : Env5}   {k232 : Int32 → Int32 → Mem → Option (Int32 × Mem)} (x1 : Int32) (x2 : Int32) (M : Mem) {v9 : Int32} {M9 : Mem} (hk232 : ∀ (x1 : Int32) (x2 : Int32) (M : Mem), k232 x1 x2 M = some (v9, M9) → Z l E RX5 cX5_square 3 (some .int) 5 232 [(0, .ref (eA E (42))), (1, .int (x1)), (2, .int (x2))] [] M (PR (some (.int v9)) M9)) (H : fX5_square_232B k232 x1 x2 M = some (v9, M9)) : Z l E RX5 cX5_square 3 (some .int) 5 232 [(0, .ref (eA E (42))), (1, .int (x1)), (2, .int (x2))] [] M (PR (some (.int v9)) M9) := by
  unfold fX5_square_232B at H
  refine Z.iload_n dX5_square_232 2 rfl ?_
  refine Z.bipush (v := 50) dX5_square_233 (by decide) ?_
  refine Z.icmp_geH dX5_square_235 H (fun br235 H => ?_) (fun br235 H => ?_)
  · refine Z.iconst (v := 0) dX5_square_259 (by decide) ?_
    refine Z.istore_n (lv' := [(2, .int (0)), (0, .ref (eA E (42))), (1, .int (x1))]) dX5_square_260 (by decide) rfl ?_
    refine Z.sub [1, 2, 0] rfl ?_
    exact tX5_square_261L   FU (x1) (0) M H
  · refine Z.aload_n dX5_square_238 0 rfl ?_
    refine Z.get dX5_square_239 inX5 (hc := rfl) (by decide) c5 9 (by decide) kw688 rfl rfl ?_
    refine Z.iload_n dX5_square_242 2 rfl ?_
    refine Z.aload_n dX5_square_243 0 rfl ?_
    refine Z.get dX5_square_244 inX5 (hc := rfl) (by decide) c5 9 (by decide) kw688 rfl rfl ?_
    refine Z.bipush (v := 50) dX5_square_247 (by decide) ?_
    refine Z.iload_n dX5_square_249 2 rfl ?_
    refine Z.iadd dX5_square_250 ?_
    refine Z.ialdH dX5_square_251 a5_picture H (fun v1 H => ?_)
    refine Z.iastH dX5_square_252 a5_picture H (fun M2 H => ?_)
    refine Z.iinc (v := x2 + 1) (lv' := [(2, .int (x2 + 1)), (0, .ref (eA E (42))), (1, .int (x1))]) dX5_square_253 2 rfl rfl (by decide) rfl ?_
    refine Z.goto dX5_square_256 ?_
    refine Z.sub [1, 2, 0] rfl ?_
    exact hk232 (x1) (x2 + 1) M2  H
theorem tX5_square_232L {l : Launch} {E : Env5}     {v9 : Int32} {M9 : Mem}  : ∀ (n : Nat) (x1 : Int32) (x2 : Int32) (M : Mem), fX5_square_232L   n x1 x2 M = some (v9, M9) → Z l E RX5 cX5_square 3 (some .int) 5 232 [(0, .ref (eA E (42))), (1, .int (x1)), (2, .int (x2))] [] M (PR (some (.int v9)) M9) := by
  intro n
  induction n with
  | zero => intro x1 x2 M H; exact absurd H (by simp [fX5_square_232L])
  | succ n ih => intro x1 x2 M H; exact tX5_square_232  x1 x2 M  (fun x1 x2 M H => ih x1 x2 M H) H
set_option maxRecDepth 100000 in
theorem tX5_square_203 {l : Launch} {E : Env5}   {k203 : Int32 → Int32 → Mem → Option (Int32 × Mem)} (x1 : Int32) (x2 : Int32) (M : Mem) {v9 : Int32} {M9 : Mem} (hk203 : ∀ (x1 : Int32) (x2 : Int32) (M : Mem), k203 x1 x2 M = some (v9, M9) → Z l E RX5 cX5_square 3 (some .int) 5 203 [(0, .ref (eA E (42))), (1, .int (x1)), (2, .int (x2))] [] M (PR (some (.int v9)) M9)) (H : fX5_square_203B k203 x1 x2 M = some (v9, M9)) : Z l E RX5 cX5_square 3 (some .int) 5 203 [(0, .ref (eA E (42))), (1, .int (x1)), (2, .int (x2))] [] M (PR (some (.int v9)) M9) := by
  unfold fX5_square_203B at H
  refine Z.iload_n dX5_square_203 2 rfl ?_
  refine Z.bipush (v := 48) dX5_square_204 (by decide) ?_
  refine Z.icmp_geH dX5_square_206 H (fun br206 H => ?_) (fun br206 H => ?_)
  · refine Z.iconst (v := 0) dX5_square_230 (by decide) ?_
    refine Z.istore_n (lv' := [(2, .int (0)), (0, .ref (eA E (42))), (1, .int (x1))]) dX5_square_231 (by decide) rfl ?_
    refine Z.sub [1, 2, 0] rfl ?_
    exact tX5_square_232L   FU (x1) (0) M H
  · refine Z.aload_n dX5_square_209 0 rfl ?_
    refine Z.get dX5_square_210 inX5 (hc := rfl) (by decide) c5 7 (by decide) kw686 rfl rfl ?_
    refine Z.iload_n dX5_square_213 2 rfl ?_
    refine Z.aload_n dX5_square_214 0 rfl ?_
    refine Z.get dX5_square_215 inX5 (hc := rfl) (by decide) c5 7 (by decide) kw686 rfl rfl ?_
    refine Z.bipush (v := 48) dX5_square_218 (by decide) ?_
    refine Z.iload_n dX5_square_220 2 rfl ?_
    refine Z.iadd dX5_square_221 ?_
    refine Z.ialdH dX5_square_222 a5_person H (fun v1 H => ?_)
    refine Z.iastH dX5_square_223 a5_person H (fun M2 H => ?_)
    refine Z.iinc (v := x2 + 1) (lv' := [(2, .int (x2 + 1)), (0, .ref (eA E (42))), (1, .int (x1))]) dX5_square_224 2 rfl rfl (by decide) rfl ?_
    refine Z.goto dX5_square_227 ?_
    refine Z.sub [1, 2, 0] rfl ?_
    exact hk203 (x1) (x2 + 1) M2  H
theorem tX5_square_203L {l : Launch} {E : Env5}     {v9 : Int32} {M9 : Mem}  : ∀ (n : Nat) (x1 : Int32) (x2 : Int32) (M : Mem), fX5_square_203L   n x1 x2 M = some (v9, M9) → Z l E RX5 cX5_square 3 (some .int) 5 203 [(0, .ref (eA E (42))), (1, .int (x1)), (2, .int (x2))] [] M (PR (some (.int v9)) M9) := by
  intro n
  induction n with
  | zero => intro x1 x2 M H; exact absurd H (by simp [fX5_square_203L])
  | succ n ih => intro x1 x2 M H; exact tX5_square_203  x1 x2 M  (fun x1 x2 M H => ih x1 x2 M H) H
set_option maxRecDepth 100000 in
theorem tX5_square_172 {l : Launch} {E : Env5}   {k172 : Int32 → Int32 → Mem → Option (Int32 × Mem)} (x1 : Int32) (x2 : Int32) (M : Mem) {v9 : Int32} {M9 : Mem} (hk172 : ∀ (x1 : Int32) (x2 : Int32) (M : Mem), k172 x1 x2 M = some (v9, M9) → Z l E RX5 cX5_square 3 (some .int) 5 172 [(0, .ref (eA E (42))), (1, .int (x1)), (2, .int (x2))] [] M (PR (some (.int v9)) M9)) (H : fX5_square_172B k172 x1 x2 M = some (v9, M9)) : Z l E RX5 cX5_square 3 (some .int) 5 172 [(0, .ref (eA E (42))), (1, .int (x1)), (2, .int (x2))] [] M (PR (some (.int v9)) M9) := by
  unfold fX5_square_172B at H
  refine Z.iload_n dX5_square_172 2 rfl ?_
  refine Z.sipush (v := 144) dX5_square_173 (by decide) ?_
  refine Z.icmp_geH dX5_square_176 H (fun br176 H => ?_) (fun br176 H => ?_)
  · refine Z.iconst (v := 0) dX5_square_201 (by decide) ?_
    refine Z.istore_n (lv' := [(2, .int (0)), (0, .ref (eA E (42))), (1, .int (x1))]) dX5_square_202 (by decide) rfl ?_
    refine Z.sub [1, 2, 0] rfl ?_
    exact tX5_square_203L   FU (x1) (0) M H
  · refine Z.aload_n dX5_square_179 0 rfl ?_
    refine Z.get dX5_square_180 inX5 (hc := rfl) (by decide) c5 5 (by decide) kw684 rfl rfl ?_
    refine Z.iload_n dX5_square_183 2 rfl ?_
    refine Z.aload_n dX5_square_184 0 rfl ?_
    refine Z.get dX5_square_185 inX5 (hc := rfl) (by decide) c5 5 (by decide) kw684 rfl rfl ?_
    refine Z.sipush (v := 144) dX5_square_188 (by decide) ?_
    refine Z.iload_n dX5_square_191 2 rfl ?_
    refine Z.iadd dX5_square_192 ?_
    refine Z.zaldH dX5_square_193 a5_walls H (fun v1 H => ?_)
    refine Z.zastH dX5_square_194 a5_walls H (fun M2 H => ?_)
    refine Z.iinc (v := x2 + 1) (lv' := [(2, .int (x2 + 1)), (0, .ref (eA E (42))), (1, .int (x1))]) dX5_square_195 2 rfl rfl (by decide) rfl ?_
    refine Z.goto dX5_square_198 ?_
    refine Z.sub [1, 2, 0] rfl ?_
    exact hk172 (x1) (x2 + 1) M2  H
theorem tX5_square_172L {l : Launch} {E : Env5}     {v9 : Int32} {M9 : Mem}  : ∀ (n : Nat) (x1 : Int32) (x2 : Int32) (M : Mem), fX5_square_172L   n x1 x2 M = some (v9, M9) → Z l E RX5 cX5_square 3 (some .int) 5 172 [(0, .ref (eA E (42))), (1, .int (x1)), (2, .int (x2))] [] M (PR (some (.int v9)) M9) := by
  intro n
  induction n with
  | zero => intro x1 x2 M H; exact absurd H (by simp [fX5_square_172L])
  | succ n ih => intro x1 x2 M H; exact tX5_square_172  x1 x2 M  (fun x1 x2 M H => ih x1 x2 M H) H
set_option maxRecDepth 100000 in
theorem tX5_square_105 {l : Launch} {E : Env5}    (x1 : Int32) (M : Mem) {v9 : Int32} {M9 : Mem}  (H : fX5_square_105  x1 M = some (v9, M9)) : Z l E RX5 cX5_square 3 (some .int) 5 105 [(0, .ref (eA E (42))), (1, .int (x1))] [] M (PR (some (.int v9)) M9) := by
  unfold fX5_square_105 at H
  refine Z.aload_n dX5_square_105 0 rfl ?_
  refine Z.get dX5_square_106 inX5 (hc := rfl) (by decide) c5 14 (by decide) kw693 rfl rfl ?_
  refine Z.bipush (v := (-9)) dX5_square_109 (by decide) ?_
  refine Z.icmp_eqH dX5_square_111 H (fun br111 H => ?_) (fun br111 H => ?_)
  · refine Z.aload_n dX5_square_122 0 rfl ?_
    refine Z.get dX5_square_123 inX5 (hc := rfl) (by decide) c5 3 (by decide) kw682 rfl rfl ?_
    refine Z.iconst (v := 0) dX5_square_126 (by decide) ?_
    refine Z.aload_n dX5_square_127 0 rfl ?_
    refine Z.get dX5_square_128 inX5 (hc := rfl) (by decide) c5 3 (by decide) kw682 rfl rfl ?_
    refine Z.iconst (v := 1) dX5_square_131 (by decide) ?_
    refine Z.ialdH dX5_square_132 a5_wides H (fun v1 H => ?_)
    refine Z.iastH dX5_square_133 a5_wides H (fun M2 H => ?_)
    refine Z.aload_n dX5_square_134 0 rfl ?_
    refine Z.get dX5_square_135 inX5 (hc := rfl) (by decide) c5 4 (by decide) kw683 rfl rfl ?_
    refine Z.iconst (v := 0) dX5_square_138 (by decide) ?_
    refine Z.aload_n dX5_square_139 0 rfl ?_
    refine Z.get dX5_square_140 inX5 (hc := rfl) (by decide) c5 4 (by decide) kw683 rfl rfl ?_
    refine Z.iconst (v := 1) dX5_square_143 (by decide) ?_
    refine Z.ialdH dX5_square_144 a5_highs H (fun v3 H => ?_)
    refine Z.iastH dX5_square_145 a5_highs H (fun M4 H => ?_)
    refine Z.aload_n dX5_square_146 0 rfl ?_
    refine Z.get dX5_square_147 inX5 (hc := rfl) (by decide) c5 6 (by decide) kw685 rfl rfl ?_
    refine Z.iconst (v := 0) dX5_square_150 (by decide) ?_
    refine Z.aload_n dX5_square_151 0 rfl ?_
    refine Z.get dX5_square_152 inX5 (hc := rfl) (by decide) c5 6 (by decide) kw685 rfl rfl ?_
    refine Z.iconst (v := 1) dX5_square_155 (by decide) ?_
    refine Z.ialdH dX5_square_156 a5_people H (fun v5 H => ?_)
    refine Z.iastH dX5_square_157 a5_people H (fun M6 H => ?_)
    refine Z.aload_n dX5_square_158 0 rfl ?_
    refine Z.get dX5_square_159 inX5 (hc := rfl) (by decide) c5 8 (by decide) kw687 rfl rfl ?_
    refine Z.iconst (v := 0) dX5_square_162 (by decide) ?_
    refine Z.aload_n dX5_square_163 0 rfl ?_
    refine Z.get dX5_square_164 inX5 (hc := rfl) (by decide) c5 8 (by decide) kw687 rfl rfl ?_
    refine Z.iconst (v := 1) dX5_square_167 (by decide) ?_
    refine Z.ialdH dX5_square_168 a5_pictures H (fun v7 H => ?_)
    refine Z.iastH dX5_square_169 a5_pictures H (fun M8 H => ?_)
    refine Z.iconst (v := 0) dX5_square_170 (by decide) ?_
    refine Z.istore_n (lv' := [(2, .int (0)), (0, .ref (eA E (42))), (1, .int (x1))]) dX5_square_171 (by decide) rfl ?_
    refine Z.sub [1, 2, 0] rfl ?_
    exact tX5_square_172L   FU (x1) (0) M8 H
  · refine Z.bipush (v := (-10)) dX5_square_114 (by decide) ?_
    refine Z.aload_n dX5_square_116 0 rfl ?_
    refine Z.get dX5_square_117 inX5 (hc := rfl) (by decide) c5 14 (by decide) kw693 rfl rfl ?_
    refine Z.isub dX5_square_120 ?_
    exact Z.iret rfl dX5_square_121 (retW H)
set_option maxRecDepth 100000 in
theorem tX5_square_73 {l : Launch} {E : Env5}   {k73 : Int32 → Mem → Option (Int32 × Mem)} (x1 : Int32) (M : Mem) {v9 : Int32} {M9 : Mem} (hk73 : ∀ (x1 : Int32) (M : Mem), k73 x1 M = some (v9, M9) → Z l E RX5 cX5_square 3 (some .int) 5 73 [(0, .ref (eA E (42))), (1, .int (x1))] [] M (PR (some (.int v9)) M9)) (H : fX5_square_73B k73 x1 M = some (v9, M9)) : Z l E RX5 cX5_square 3 (some .int) 5 73 [(0, .ref (eA E (42))), (1, .int (x1))] [] M (PR (some (.int v9)) M9) := by
  unfold fX5_square_73B at H
  refine Z.aload_n dX5_square_73 0 rfl ?_
  refine Z.get dX5_square_74 inX5 (hc := rfl) (by decide) c5 14 (by decide) kw693 rfl rfl ?_
  refine Z.bipush (v := (-9)) dX5_square_77 (by decide) ?_
  refine Z.icmp_neH dX5_square_79 H (fun br79 H => ?_) (fun br79 H => ?_)
  · refine Z.sub [0, 1] rfl ?_
    exact tX5_square_105  (x1) M  H
  · refine Z.aload_n dX5_square_82 0 rfl ?_
    refine Z.get dX5_square_83 inX5 (hc := rfl) (by decide) c5 12 (by decide) kw691 rfl rfl ?_
    refine Z.iconst (v := 4) dX5_square_86 (by decide) ?_
    refine Z.icmp_eqH dX5_square_87 H (fun br87 H => ?_) (fun br87 H => ?_)
    · refine Z.sub [0, 1] rfl ?_
      exact tX5_square_105  (x1) M  H
    · refine Z.aload_n dX5_square_90 0 rfl ?_
      refine Z.aload_n dX5_square_91 0 rfl ?_
      refine Z.get dX5_square_92 inX5 (hc := rfl) (by decide) c5 12 (by decide) kw691 rfl rfl ?_
      refine Z.iload_n dX5_square_95 1 rfl ?_
      refine bindC H (fun v1 hv1 H => ?_)
      refine Z.callV (As := [.int (M.1 42 12), .int (x1)]) (rest := []) (st' := []) dX5_square_96 (kX5_item  (M.1 42 12) (x1) M hv1) kw822 kw824 ks34 kw7 kw825 hdX5_item (by decide) c5 (hc := rfl) (by decide) (by decide) rfl rfl (Nat.le_of_ble_eq_true rfl) rfl ?_
      refine Z.iinc (v := x1 + 1) (lv' := [(1, .int (x1 + 1)), (0, .ref (eA E (42)))]) dX5_square_99 1 rfl rfl (by decide) rfl ?_
      refine Z.goto dX5_square_102 ?_
      refine Z.sub [1, 0] rfl ?_
      exact hk73 (x1 + 1) v1  H
theorem tX5_square_73L {l : Launch} {E : Env5}     {v9 : Int32} {M9 : Mem}  : ∀ (n : Nat) (x1 : Int32) (M : Mem), fX5_square_73L   n x1 M = some (v9, M9) → Z l E RX5 cX5_square 3 (some .int) 5 73 [(0, .ref (eA E (42))), (1, .int (x1))] [] M (PR (some (.int v9)) M9) := by
  intro n
  induction n with
  | zero => intro x1 M H; exact absurd H (by simp [fX5_square_73L])
  | succ n ih => intro x1 M H; exact tX5_square_73  x1 M  (fun x1 M H => ih x1 M H) H
set_option maxRecDepth 100000 in
theorem tX5_square_43 {l : Launch} {E : Env5}   {k43 : Int32 → Mem → Option (Int32 × Mem)} (x1 : Int32) (M : Mem) {v9 : Int32} {M9 : Mem} (hk43 : ∀ (x1 : Int32) (M : Mem), k43 x1 M = some (v9, M9) → Z l E RX5 cX5_square 3 (some .int) 5 43 [(0, .ref (eA E (42))), (1, .int (x1))] [] M (PR (some (.int v9)) M9)) (H : fX5_square_43B k43 x1 M = some (v9, M9)) : Z l E RX5 cX5_square 3 (some .int) 5 43 [(0, .ref (eA E (42))), (1, .int (x1))] [] M (PR (some (.int v9)) M9) := by
  unfold fX5_square_43B at H
  refine Z.iload_n dX5_square_43 1 rfl ?_
  refine Z.sipush (v := 144) dX5_square_44 (by decide) ?_
  refine Z.icmp_geH dX5_square_47 H (fun br47 H => ?_) (fun br47 H => ?_)
  · refine Z.iconst (v := 0) dX5_square_67 (by decide) ?_
    refine Z.istore_n (lv' := [(1, .int (0)), (0, .ref (eA E (42)))]) dX5_square_68 (by decide) rfl ?_
    refine Z.aload_n dX5_square_69 1 rfl ?_
    refine bindC H (fun v1 hv1 H => ?_)
    refine Z.callV (As := []) (rest := []) (st' := []) dX5_square_70 (kX5_next   M hv1) kw810 kw812 ks32 kw7 kw813 hdX5_next (by decide) c5 (hc := rfl) (by decide) (by decide) rfl rfl (Nat.le_of_ble_eq_true rfl) rfl ?_
    refine Z.sub [1, 0] rfl ?_
    exact tX5_square_73L   FU (0) v1 H
  · refine Z.aload_n dX5_square_50 0 rfl ?_
    refine Z.get dX5_square_51 inX5 (hc := rfl) (by decide) c5 5 (by decide) kw684 rfl rfl ?_
    refine Z.sipush (v := 144) dX5_square_54 (by decide) ?_
    refine Z.iload_n dX5_square_57 1 rfl ?_
    refine Z.iadd dX5_square_58 ?_
    refine Z.iconst (v := 0) dX5_square_59 (by decide) ?_
    refine Z.zastH dX5_square_60 a5_walls H (fun M2 H => ?_)
    refine Z.iinc (v := x1 + 1) (lv' := [(1, .int (x1 + 1)), (0, .ref (eA E (42)))]) dX5_square_61 1 rfl rfl (by decide) rfl ?_
    refine Z.goto dX5_square_64 ?_
    refine Z.sub [1, 0] rfl ?_
    exact hk43 (x1 + 1) M2  H
theorem tX5_square_43L {l : Launch} {E : Env5}     {v9 : Int32} {M9 : Mem}  : ∀ (n : Nat) (x1 : Int32) (M : Mem), fX5_square_43L   n x1 M = some (v9, M9) → Z l E RX5 cX5_square 3 (some .int) 5 43 [(0, .ref (eA E (42))), (1, .int (x1))] [] M (PR (some (.int v9)) M9) := by
  intro n
  induction n with
  | zero => intro x1 M H; exact absurd H (by simp [fX5_square_43L])
  | succ n ih => intro x1 M H; exact tX5_square_43  x1 M  (fun x1 M H => ih x1 M H) H
set_option maxRecDepth 100000 in
theorem tX5_square_0 {l : Launch} {E : Env5}     (M : Mem) {v9 : Int32} {M9 : Mem}  (H : fX5_square   M = some (v9, M9)) : Z l E RX5 cX5_square 3 (some .int) 5 0 [(0, .ref (eA E (42)))] [] M (PR (some (.int v9)) M9) := by
  unfold fX5_square at H
  refine Z.aload_n dX5_square_0 0 rfl ?_
  refine Z.iconst (v := 0) dX5_square_1 (by decide) ?_
  refine wE H (fun M1 eM1 H => ?_)
  refine Z.put (ty := .int) (M' := M1) dX5_square_2 inX5 tyX5_ok nmX5 (hc := rfl) (by decide) c5 10 (by decide) kw689 rfl rfl (by decide +kernel) rfl rfl (Nat.le_of_ble_eq_true rfl) (by rw [← eM1, c5, sI_k]; exact congrArg (fun q => Sum.inr (5, q)) u5_at) (by rw [← eM1]; exact sI_o) (by rw [← eM1]; exact (fun q => q)) ?_
  refine Z.aload_n dX5_square_5 0 rfl ?_
  refine Z.bipush (v := (-9)) dX5_square_6 (by decide) ?_
  refine wE H (fun M2 eM2 H => ?_)
  refine Z.put (ty := .int) (M' := M2) dX5_square_8 inX5 tyX5_ok nmX5 (hc := rfl) (by decide) c5 14 (by decide) kw693 rfl rfl (by decide +kernel) rfl rfl (Nat.le_of_ble_eq_true rfl) (by rw [← eM2, c5, sI_k]; exact congrArg (fun q => Sum.inr (5, q)) u5_fault) (by rw [← eM2]; exact sI_o) (by rw [← eM2]; exact (fun q => q)) ?_
  refine Z.aload_n dX5_square_11 0 rfl ?_
  refine Z.get dX5_square_12 inX5 (hc := rfl) (by decide) c5 3 (by decide) kw682 rfl rfl ?_
  refine Z.iconst (v := 1) dX5_square_15 (by decide) ?_
  refine Z.bipush (v := 8) dX5_square_16 (by decide) ?_
  refine Z.iastH dX5_square_18 a5_wides H (fun M3 H => ?_)
  refine Z.aload_n dX5_square_19 0 rfl ?_
  refine Z.get dX5_square_20 inX5 (hc := rfl) (by decide) c5 4 (by decide) kw683 rfl rfl ?_
  refine Z.iconst (v := 1) dX5_square_23 (by decide) ?_
  refine Z.bipush (v := 8) dX5_square_24 (by decide) ?_
  refine Z.iastH dX5_square_26 a5_highs H (fun M4 H => ?_)
  refine Z.aload_n dX5_square_27 0 rfl ?_
  refine Z.get dX5_square_28 inX5 (hc := rfl) (by decide) c5 6 (by decide) kw685 rfl rfl ?_
  refine Z.iconst (v := 1) dX5_square_31 (by decide) ?_
  refine Z.iconst (v := 0) dX5_square_32 (by decide) ?_
  refine Z.iastH dX5_square_33 a5_people H (fun M5 H => ?_)
  refine Z.aload_n dX5_square_34 0 rfl ?_
  refine Z.get dX5_square_35 inX5 (hc := rfl) (by decide) c5 8 (by decide) kw687 rfl rfl ?_
  refine Z.iconst (v := 1) dX5_square_38 (by decide) ?_
  refine Z.iconst (v := 0) dX5_square_39 (by decide) ?_
  refine Z.iastH dX5_square_40 a5_pictures H (fun M6 H => ?_)
  refine Z.iconst (v := 0) dX5_square_41 (by decide) ?_
  refine Z.istore_n (lv' := [(1, .int (0)), (0, .ref (eA E (42)))]) dX5_square_42 (by decide) rfl ?_
  refine Z.sub [1, 0] rfl ?_
  exact tX5_square_43L   FU (0) M6 H
theorem kX5_square {l : Launch} {E : Env5}    (M : Mem) {v9 : Int32} {M9 : Mem} (H : fX5_square  M = some (v9, M9)) : Cn l E yX5_square cX5_square 3 (some .int) 5 [.ref (eA E (42))] M (PR (some (.int v9)) M9) := Cn.ofZ rfl (Nat.le_of_ble_eq_true rfl) rfl (tX5_square_0   M H)
theorem hdX5_square : yX5_square.cls ≠ "java/lang/invoke/MethodHandle" ∧ yX5_square.cls ≠ "java/lang/invoke/VarHandle" ∧ (parseMethodDescriptor yX5_square.desc).map (fun d => d.parameters.length) = some 0 := by decide +kernel

set_option maxRecDepth 100000 in
theorem tX5_isOn_0 {l : Launch} {E : Env5}    (x1 : Int32) (x2 : Int32) (M : Mem) {v9 : Int32}  (H : fX5_isOn  x1 x2 M = some v9) : Z l E RX5 cX5_isOn 3 (some .boolean) 1 0 [(0, .ref (eA E (42))), (1, .int (x1)), (2, .int (x2))] [] M (PR (some (.int v9)) M) := by
  unfold fX5_isOn at H
  refine Z.iload_n dX5_isOn_0 1 rfl ?_
  refine Z.iconst (v := 0) dX5_isOn_1 (by decide) ?_
  refine Z.aload_n dX5_isOn_2 0 rfl ?_
  refine Z.get dX5_isOn_3 inX5 (hc := rfl) (by decide) c5 3 (by decide) kw682 rfl rfl ?_
  refine Z.iconst (v := 0) dX5_isOn_6 (by decide) ?_
  refine Z.ialdH dX5_isOn_7 a5_wides H (fun v1 H => ?_)
  refine Z.iconst (v := 1) dX5_isOn_8 (by decide) ?_
  refine Z.isub dX5_isOn_9 ?_
  refine bindC H (fun v2 hv2 H => ?_)
  refine Z.callS (As := [.int (x1), .int (0), .int (v1 - 1)]) (rest := []) (st' := [.int (v2)]) dX5_isOn_10 (kX5_in  (x1) (0) (v1 - 1) M hv2) kw798 kw799 kw7 kw800 hdX5_in (by decide) (by decide) rfl rfl (Nat.le_of_ble_eq_true rfl) rfl ?_
  refine Z.if_eqH dX5_isOn_13 H (fun br13 H => ?_) (fun br13 H => ?_)
  · refine Z.iconst (v := 0) dX5_isOn_36 (by decide) ?_
    exact Z.zret rfl rfl dX5_isOn_37 (retR H)
  · refine Z.iload_n dX5_isOn_16 2 rfl ?_
    refine Z.iconst (v := 0) dX5_isOn_17 (by decide) ?_
    refine Z.aload_n dX5_isOn_18 0 rfl ?_
    refine Z.get dX5_isOn_19 inX5 (hc := rfl) (by decide) c5 4 (by decide) kw683 rfl rfl ?_
    refine Z.iconst (v := 0) dX5_isOn_22 (by decide) ?_
    refine Z.ialdH dX5_isOn_23 a5_highs H (fun v3 H => ?_)
    refine Z.iconst (v := 1) dX5_isOn_24 (by decide) ?_
    refine Z.isub dX5_isOn_25 ?_
    refine bindC H (fun v4 hv4 H => ?_)
    refine Z.callS (As := [.int (x2), .int (0), .int (v3 - 1)]) (rest := []) (st' := [.int (v4)]) dX5_isOn_26 (kX5_in  (x2) (0) (v3 - 1) M hv4) kw798 kw799 kw7 kw800 hdX5_in (by decide) (by decide) rfl rfl (Nat.le_of_ble_eq_true rfl) rfl ?_
    refine Z.if_eqH dX5_isOn_29 H (fun br29 H => ?_) (fun br29 H => ?_)
    · refine Z.iconst (v := 0) dX5_isOn_36 (by decide) ?_
      exact Z.zret rfl rfl dX5_isOn_37 (retR H)
    · refine Z.iconst (v := 1) dX5_isOn_32 (by decide) ?_
      refine Z.goto dX5_isOn_33 ?_
      exact Z.zret rfl rfl dX5_isOn_37 (retR H)
theorem kX5_isOn {l : Launch} {E : Env5}   (x1 : Int32) (x2 : Int32) (M : Mem) {v9 : Int32} (H : fX5_isOn x1 x2 M = some v9) : Cn l E yX5_isOn cX5_isOn 3 (some .boolean) 1 [.ref (eA E (42)), .int (x1), .int (x2)] M (PR (some (.int v9)) M) := Cn.ofZ rfl (Nat.le_of_ble_eq_true rfl) rfl (tX5_isOn_0  x1 x2 M H)
theorem hdX5_isOn : yX5_isOn.cls ≠ "java/lang/invoke/MethodHandle" ∧ yX5_isOn.cls ≠ "java/lang/invoke/VarHandle" ∧ (parseMethodDescriptor yX5_isOn.desc).map (fun d => d.parameters.length) = some 2 := by decide +kernel

set_option maxRecDepth 100000 in
theorem tX5_isWall_0 {l : Launch} {E : Env5}    (x1 : Int32) (x2 : Int32) (M : Mem) {v9 : Int32}  (H : fX5_isWall  x1 x2 M = some v9) : Z l E RX5 cX5_isWall 3 (some .boolean) 2 0 [(0, .ref (eA E (42))), (1, .int (x1)), (2, .int (x2))] [] M (PR (some (.int v9)) M) := by
  unfold fX5_isWall at H
  refine Z.aload_n dX5_isWall_0 0 rfl ?_
  refine Z.iload_n dX5_isWall_1 1 rfl ?_
  refine Z.iload_n dX5_isWall_2 2 rfl ?_
  refine bindC H (fun v1 hv1 H => ?_)
  refine Z.callV (As := [.int (x1), .int (x2)]) (rest := []) (st' := [.int (v1)]) dX5_isWall_3 (kX5_isOn  (x1) (x2) M hv1) kw838 kw840 ks37 kw7 kw841 hdX5_isOn (by decide) c5 (hc := rfl) (by decide) (by decide) rfl rfl (Nat.le_of_ble_eq_true rfl) rfl ?_
  refine Z.if_eqH dX5_isWall_6 H (fun br6 H => ?_) (fun br6 H => ?_)
  · refine Z.iconst (v := 0) dX5_isWall_27 (by decide) ?_
    exact Z.zret rfl rfl dX5_isWall_28 (retR H)
  · refine Z.aload_n dX5_isWall_9 0 rfl ?_
    refine Z.get dX5_isWall_10 inX5 (hc := rfl) (by decide) c5 5 (by decide) kw684 rfl rfl ?_
    refine Z.bipush (v := 12) dX5_isWall_13 (by decide) ?_
    refine Z.iload_n dX5_isWall_15 2 rfl ?_
    refine Z.imul dX5_isWall_16 ?_
    refine Z.iload_n dX5_isWall_17 1 rfl ?_
    refine Z.iadd dX5_isWall_18 ?_
    refine Z.zaldH dX5_isWall_19 a5_walls H (fun v2 H => ?_)
    refine Z.if_eqH dX5_isWall_20 H (fun br20 H => ?_) (fun br20 H => ?_)
    · refine Z.iconst (v := 0) dX5_isWall_27 (by decide) ?_
      exact Z.zret rfl rfl dX5_isWall_28 (retR H)
    · refine Z.iconst (v := 1) dX5_isWall_23 (by decide) ?_
      refine Z.goto dX5_isWall_24 ?_
      exact Z.zret rfl rfl dX5_isWall_28 (retR H)
theorem kX5_isWall {l : Launch} {E : Env5}   (x1 : Int32) (x2 : Int32) (M : Mem) {v9 : Int32} (H : fX5_isWall x1 x2 M = some v9) : Cn l E yX5_isWall cX5_isWall 3 (some .boolean) 2 [.ref (eA E (42)), .int (x1), .int (x2)] M (PR (some (.int v9)) M) := Cn.ofZ rfl (Nat.le_of_ble_eq_true rfl) rfl (tX5_isWall_0  x1 x2 M H)
theorem hdX5_isWall : yX5_isWall.cls ≠ "java/lang/invoke/MethodHandle" ∧ yX5_isWall.cls ≠ "java/lang/invoke/VarHandle" ∧ (parseMethodDescriptor yX5_isWall.desc).map (fun d => d.parameters.length) = some 2 := by decide +kernel

set_option maxRecDepth 100000 in
theorem tX5_isPerson_0 {l : Launch} {E : Env5}    (x1 : Int32) (M : Mem) {v9 : Int32}  (H : fX5_isPerson  x1 M = some v9) : Z l E RX5 cX5_isPerson 2 (some .boolean) 1 0 [(0, .ref (eA E (42))), (1, .int (x1))] [] M (PR (some (.int v9)) M) := by
  unfold fX5_isPerson at H
  refine Z.iload_n dX5_isPerson_0 1 rfl ?_
  refine Z.iconst (v := 0) dX5_isPerson_1 (by decide) ?_
  refine Z.aload_n dX5_isPerson_2 0 rfl ?_
  refine Z.get dX5_isPerson_3 inX5 (hc := rfl) (by decide) c5 6 (by decide) kw685 rfl rfl ?_
  refine Z.iconst (v := 0) dX5_isPerson_6 (by decide) ?_
  refine Z.ialdH dX5_isPerson_7 a5_people H (fun v1 H => ?_)
  refine Z.iconst (v := 1) dX5_isPerson_8 (by decide) ?_
  refine Z.isub dX5_isPerson_9 ?_
  refine bindC H (fun v2 hv2 H => ?_)
  refine Z.callS (As := [.int (x1), .int (0), .int (v1 - 1)]) (rest := []) (st' := [.int (v2)]) dX5_isPerson_10 (kX5_in  (x1) (0) (v1 - 1) M hv2) kw798 kw799 kw7 kw800 hdX5_in (by decide) (by decide) rfl rfl (Nat.le_of_ble_eq_true rfl) rfl ?_
  refine gBE H (fun gb H => ?_)
  exact Z.zret rfl gb dX5_isPerson_13 (retR H)
theorem kX5_isPerson {l : Launch} {E : Env5}   (x1 : Int32) (M : Mem) {v9 : Int32} (H : fX5_isPerson x1 M = some v9) : Cn l E yX5_isPerson cX5_isPerson 2 (some .boolean) 1 [.ref (eA E (42)), .int (x1)] M (PR (some (.int v9)) M) := Cn.ofZ rfl (Nat.le_of_ble_eq_true rfl) rfl (tX5_isPerson_0  x1 M H)
theorem hdX5_isPerson : yX5_isPerson.cls ≠ "java/lang/invoke/MethodHandle" ∧ yX5_isPerson.cls ≠ "java/lang/invoke/VarHandle" ∧ (parseMethodDescriptor yX5_isPerson.desc).map (fun d => d.parameters.length) = some 1 := by decide +kernel

set_option maxRecDepth 100000 in
theorem tX5_isPicture_0 {l : Launch} {E : Env5}    (x1 : Int32) (M : Mem) {v9 : Int32}  (H : fX5_isPicture  x1 M = some v9) : Z l E RX5 cX5_isPicture 2 (some .boolean) 1 0 [(0, .ref (eA E (42))), (1, .int (x1))] [] M (PR (some (.int v9)) M) := by
  unfold fX5_isPicture at H
  refine Z.iload_n dX5_isPicture_0 1 rfl ?_
  refine Z.iconst (v := 0) dX5_isPicture_1 (by decide) ?_
  refine Z.aload_n dX5_isPicture_2 0 rfl ?_
  refine Z.get dX5_isPicture_3 inX5 (hc := rfl) (by decide) c5 8 (by decide) kw687 rfl rfl ?_
  refine Z.iconst (v := 0) dX5_isPicture_6 (by decide) ?_
  refine Z.ialdH dX5_isPicture_7 a5_pictures H (fun v1 H => ?_)
  refine Z.iconst (v := 1) dX5_isPicture_8 (by decide) ?_
  refine Z.isub dX5_isPicture_9 ?_
  refine bindC H (fun v2 hv2 H => ?_)
  refine Z.callS (As := [.int (x1), .int (0), .int (v1 - 1)]) (rest := []) (st' := [.int (v2)]) dX5_isPicture_10 (kX5_in  (x1) (0) (v1 - 1) M hv2) kw798 kw799 kw7 kw800 hdX5_in (by decide) (by decide) rfl rfl (Nat.le_of_ble_eq_true rfl) rfl ?_
  refine gBE H (fun gb H => ?_)
  exact Z.zret rfl gb dX5_isPicture_13 (retR H)
theorem kX5_isPicture {l : Launch} {E : Env5}   (x1 : Int32) (M : Mem) {v9 : Int32} (H : fX5_isPicture x1 M = some v9) : Cn l E yX5_isPicture cX5_isPicture 2 (some .boolean) 1 [.ref (eA E (42)), .int (x1)] M (PR (some (.int v9)) M) := Cn.ofZ rfl (Nat.le_of_ble_eq_true rfl) rfl (tX5_isPicture_0  x1 M H)
theorem hdX5_isPicture : yX5_isPicture.cls ≠ "java/lang/invoke/MethodHandle" ∧ yX5_isPicture.cls ≠ "java/lang/invoke/VarHandle" ∧ (parseMethodDescriptor yX5_isPicture.desc).map (fun d => d.parameters.length) = some 1 := by decide +kernel

set_option maxRecDepth 100000 in
theorem tX5_wall_0 {l : Launch} {E : Env5}    (x1 : Int32) (x2 : Int32) (M : Mem) {v9 : Int32}  (H : fX5_wall  x1 x2 M = some v9) : Z l E RX5 cX5_wall 3 (some .int) 3 0 [(0, .ref (eA E (42))), (1, .int (x1)), (2, .int (x2))] [] M (PR (some (.int v9)) M) := by
  unfold fX5_wall at H
  refine Z.aload_n dX5_wall_0 0 rfl ?_
  refine Z.iload_n dX5_wall_1 1 rfl ?_
  refine Z.iload_n dX5_wall_2 2 rfl ?_
  refine bindC H (fun v1 hv1 H => ?_)
  refine Z.callV (As := [.int (x1), .int (x2)]) (rest := []) (st' := [.int (v1)]) dX5_wall_3 (kX5_isOn  (x1) (x2) M hv1) kw838 kw840 ks37 kw7 kw841 hdX5_isOn (by decide) c5 (hc := rfl) (by decide) (by decide) rfl rfl (Nat.le_of_ble_eq_true rfl) rfl ?_
  refine Z.if_eqH dX5_wall_6 H (fun br6 H => ?_) (fun br6 H => ?_)
  · refine Z.iconst (v := (-1)) dX5_wall_26 (by decide) ?_
    exact Z.iret rfl dX5_wall_27 (retR H)
  · refine Z.aload_n dX5_wall_9 0 rfl ?_
    refine Z.iload_n dX5_wall_10 1 rfl ?_
    refine Z.iload_n dX5_wall_11 2 rfl ?_
    refine bindC H (fun v2 hv2 H => ?_)
    refine Z.callV (As := [.int (x1), .int (x2)]) (rest := []) (st' := [.int (v2)]) dX5_wall_12 (kX5_isWall  (x1) (x2) M hv2) kw842 kw844 ks38 kw7 kw845 hdX5_isWall (by decide) c5 (hc := rfl) (by decide) (by decide) rfl rfl (Nat.le_of_ble_eq_true rfl) rfl ?_
    refine Z.if_eqH dX5_wall_15 H (fun br15 H => ?_) (fun br15 H => ?_)
    · refine Z.iconst (v := 0) dX5_wall_22 (by decide) ?_
      refine Z.goto dX5_wall_23 ?_
      exact Z.iret rfl dX5_wall_27 (retR H)
    · refine Z.iconst (v := 1) dX5_wall_18 (by decide) ?_
      refine Z.goto dX5_wall_19 ?_
      exact Z.iret rfl dX5_wall_27 (retR H)
theorem kX5_wall {l : Launch} {E : Env5}   (x1 : Int32) (x2 : Int32) (M : Mem) {v9 : Int32} (H : fX5_wall x1 x2 M = some v9) : Cn l E yX5_wall cX5_wall 3 (some .int) 3 [.ref (eA E (42)), .int (x1), .int (x2)] M (PR (some (.int v9)) M) := Cn.ofZ rfl (Nat.le_of_ble_eq_true rfl) rfl (tX5_wall_0  x1 x2 M H)
theorem hdX5_wall : yX5_wall.cls ≠ "java/lang/invoke/MethodHandle" ∧ yX5_wall.cls ≠ "java/lang/invoke/VarHandle" ∧ (parseMethodDescriptor yX5_wall.desc).map (fun d => d.parameters.length) = some 2 := by decide +kernel

set_option maxRecDepth 100000 in
theorem tX5_person_0 {l : Launch} {E : Env5}    (x1 : Int32) (x2 : Int32) (M : Mem) {v9 : Int32}  (H : fX5_person  x1 x2 M = some v9) : Z l E RX5 cX5_person 3 (some .int) 2 0 [(0, .ref (eA E (42))), (1, .int (x1)), (2, .int (x2))] [] M (PR (some (.int v9)) M) := by
  unfold fX5_person at H
  refine Z.aload_n dX5_person_0 0 rfl ?_
  refine Z.iload_n dX5_person_1 1 rfl ?_
  refine bindC H (fun v1 hv1 H => ?_)
  refine Z.callV (As := [.int (x1)]) (rest := []) (st' := [.int (v1)]) dX5_person_2 (kX5_isPerson  (x1) M hv1) kw850 kw852 ks39 kw7 kw853 hdX5_isPerson (by decide) c5 (hc := rfl) (by decide) (by decide) rfl rfl (Nat.le_of_ble_eq_true rfl) rfl ?_
  refine Z.if_eqH dX5_person_5 H (fun br5 H => ?_) (fun br5 H => ?_)
  · refine Z.iconst (v := (-1)) dX5_person_31 (by decide) ?_
    exact Z.iret rfl dX5_person_32 (retR H)
  · refine Z.iload_n dX5_person_8 2 rfl ?_
    refine Z.iconst (v := 0) dX5_person_9 (by decide) ?_
    refine Z.iconst (v := 5) dX5_person_10 (by decide) ?_
    refine bindC H (fun v2 hv2 H => ?_)
    refine Z.callS (As := [.int (x2), .int (0), .int (5)]) (rest := []) (st' := [.int (v2)]) dX5_person_11 (kX5_in  (x2) (0) (5) M hv2) kw798 kw799 kw7 kw800 hdX5_in (by decide) (by decide) rfl rfl (Nat.le_of_ble_eq_true rfl) rfl ?_
    refine Z.if_eqH dX5_person_14 H (fun br14 H => ?_) (fun br14 H => ?_)
    · refine Z.iconst (v := (-1)) dX5_person_31 (by decide) ?_
      exact Z.iret rfl dX5_person_32 (retR H)
    · refine Z.aload_n dX5_person_17 0 rfl ?_
      refine Z.get dX5_person_18 inX5 (hc := rfl) (by decide) c5 7 (by decide) kw686 rfl rfl ?_
      refine Z.bipush (v := 6) dX5_person_21 (by decide) ?_
      refine Z.iload_n dX5_person_23 1 rfl ?_
      refine Z.imul dX5_person_24 ?_
      refine Z.iload_n dX5_person_25 2 rfl ?_
      refine Z.iadd dX5_person_26 ?_
      refine Z.ialdH dX5_person_27 a5_person H (fun v3 H => ?_)
      refine Z.goto dX5_person_28 ?_
      exact Z.iret rfl dX5_person_32 (retR H)
theorem kX5_person {l : Launch} {E : Env5}   (x1 : Int32) (x2 : Int32) (M : Mem) {v9 : Int32} (H : fX5_person x1 x2 M = some v9) : Cn l E yX5_person cX5_person 3 (some .int) 2 [.ref (eA E (42)), .int (x1), .int (x2)] M (PR (some (.int v9)) M) := Cn.ofZ rfl (Nat.le_of_ble_eq_true rfl) rfl (tX5_person_0  x1 x2 M H)
theorem hdX5_person : yX5_person.cls ≠ "java/lang/invoke/MethodHandle" ∧ yX5_person.cls ≠ "java/lang/invoke/VarHandle" ∧ (parseMethodDescriptor yX5_person.desc).map (fun d => d.parameters.length) = some 2 := by decide +kernel

set_option maxRecDepth 100000 in
theorem tX5_picture_0 {l : Launch} {E : Env5}    (x1 : Int32) (x2 : Int32) (M : Mem) {v9 : Int32}  (H : fX5_picture  x1 x2 M = some v9) : Z l E RX5 cX5_picture 3 (some .int) 2 0 [(0, .ref (eA E (42))), (1, .int (x1)), (2, .int (x2))] [] M (PR (some (.int v9)) M) := by
  unfold fX5_picture at H
  refine Z.aload_n dX5_picture_0 0 rfl ?_
  refine Z.iload_n dX5_picture_1 1 rfl ?_
  refine bindC H (fun v1 hv1 H => ?_)
  refine Z.callV (As := [.int (x1)]) (rest := []) (st' := [.int (v1)]) dX5_picture_2 (kX5_isPicture  (x1) M hv1) kw858 kw860 ks40 kw7 kw861 hdX5_isPicture (by decide) c5 (hc := rfl) (by decide) (by decide) rfl rfl (Nat.le_of_ble_eq_true rfl) rfl ?_
  refine Z.if_eqH dX5_picture_5 H (fun br5 H => ?_) (fun br5 H => ?_)
  · refine Z.iconst (v := (-1)) dX5_picture_30 (by decide) ?_
    exact Z.iret rfl dX5_picture_31 (retR H)
  · refine Z.iload_n dX5_picture_8 2 rfl ?_
    refine Z.iconst (v := 0) dX5_picture_9 (by decide) ?_
    refine Z.iconst (v := 4) dX5_picture_10 (by decide) ?_
    refine bindC H (fun v2 hv2 H => ?_)
    refine Z.callS (As := [.int (x2), .int (0), .int (4)]) (rest := []) (st' := [.int (v2)]) dX5_picture_11 (kX5_in  (x2) (0) (4) M hv2) kw798 kw799 kw7 kw800 hdX5_in (by decide) (by decide) rfl rfl (Nat.le_of_ble_eq_true rfl) rfl ?_
    refine Z.if_eqH dX5_picture_14 H (fun br14 H => ?_) (fun br14 H => ?_)
    · refine Z.iconst (v := (-1)) dX5_picture_30 (by decide) ?_
      exact Z.iret rfl dX5_picture_31 (retR H)
    · refine Z.aload_n dX5_picture_17 0 rfl ?_
      refine Z.get dX5_picture_18 inX5 (hc := rfl) (by decide) c5 9 (by decide) kw688 rfl rfl ?_
      refine Z.iconst (v := 5) dX5_picture_21 (by decide) ?_
      refine Z.iload_n dX5_picture_22 1 rfl ?_
      refine Z.imul dX5_picture_23 ?_
      refine Z.iload_n dX5_picture_24 2 rfl ?_
      refine Z.iadd dX5_picture_25 ?_
      refine Z.ialdH dX5_picture_26 a5_picture H (fun v3 H => ?_)
      refine Z.goto dX5_picture_27 ?_
      exact Z.iret rfl dX5_picture_31 (retR H)
theorem kX5_picture {l : Launch} {E : Env5}   (x1 : Int32) (x2 : Int32) (M : Mem) {v9 : Int32} (H : fX5_picture x1 x2 M = some v9) : Cn l E yX5_picture cX5_picture 3 (some .int) 2 [.ref (eA E (42)), .int (x1), .int (x2)] M (PR (some (.int v9)) M) := Cn.ofZ rfl (Nat.le_of_ble_eq_true rfl) rfl (tX5_picture_0  x1 x2 M H)
theorem hdX5_picture : yX5_picture.cls ≠ "java/lang/invoke/MethodHandle" ∧ yX5_picture.cls ≠ "java/lang/invoke/VarHandle" ∧ (parseMethodDescriptor yX5_picture.desc).map (fun d => d.parameters.length) = some 2 := by decide +kernel

set_option maxRecDepth 100000 in
theorem tX5_asideOf_0 {l : Launch} {E : Env5}    (x0 : Int32) (M : Mem) {v9 : Int32}  (H : fX5_asideOf  x0 = some v9) : Z l E RX5 cX5_asideOf 1 (some .int) 0 0 [(0, .int (x0))] [] M (PR (some (.int v9)) M) := by
  unfold fX5_asideOf at H
  refine Z.iload_n dX5_asideOf_0 0 rfl ?_
  refine Z.if_neH dX5_asideOf_1 H (fun br1 H => ?_) (fun br1 H => ?_)
  · refine Z.iload_n dX5_asideOf_8 0 rfl ?_
    refine Z.iconst (v := 2) dX5_asideOf_9 (by decide) ?_
    refine Z.icmp_neH dX5_asideOf_10 H (fun br10 H => ?_) (fun br10 H => ?_)
    · refine Z.iconst (v := 0) dX5_asideOf_17 (by decide) ?_
      exact Z.iret rfl dX5_asideOf_18 (retR H)
    · refine Z.iconst (v := (-1)) dX5_asideOf_13 (by decide) ?_
      refine Z.goto dX5_asideOf_14 ?_
      exact Z.iret rfl dX5_asideOf_18 (retR H)
  · refine Z.iconst (v := 1) dX5_asideOf_4 (by decide) ?_
    refine Z.goto dX5_asideOf_5 ?_
    exact Z.iret rfl dX5_asideOf_18 (retR H)
theorem kX5_asideOf {l : Launch} {E : Env5}   (x0 : Int32) (M : Mem) {v9 : Int32} (H : fX5_asideOf x0 = some v9) : Cn l E yX5_asideOf cX5_asideOf 1 (some .int) 0 [.int (x0)] M (PR (some (.int v9)) M) := Cn.ofZ rfl (Nat.le_of_ble_eq_true rfl) rfl (tX5_asideOf_0  x0 M H)
theorem hdX5_asideOf : yX5_asideOf.cls ≠ "java/lang/invoke/MethodHandle" ∧ yX5_asideOf.cls ≠ "java/lang/invoke/VarHandle" ∧ (parseMethodDescriptor yX5_asideOf.desc).map (fun d => d.parameters.length) = some 1 := by decide +kernel

set_option maxRecDepth 100000 in
theorem tX5_downOf_0 {l : Launch} {E : Env5}    (x0 : Int32) (M : Mem) {v9 : Int32}  (H : fX5_downOf  x0 = some v9) : Z l E RX5 cX5_downOf 1 (some .int) 0 0 [(0, .int (x0))] [] M (PR (some (.int v9)) M) := by
  unfold fX5_downOf at H
  refine Z.iload_n dX5_downOf_0 0 rfl ?_
  refine Z.iconst (v := 1) dX5_downOf_1 (by decide) ?_
  refine Z.icmp_neH dX5_downOf_2 H (fun br2 H => ?_) (fun br2 H => ?_)
  · refine Z.iload_n dX5_downOf_9 0 rfl ?_
    refine Z.iconst (v := 3) dX5_downOf_10 (by decide) ?_
    refine Z.icmp_neH dX5_downOf_11 H (fun br11 H => ?_) (fun br11 H => ?_)
    · refine Z.iconst (v := 0) dX5_downOf_18 (by decide) ?_
      exact Z.iret rfl dX5_downOf_19 (retR H)
    · refine Z.iconst (v := (-1)) dX5_downOf_14 (by decide) ?_
      refine Z.goto dX5_downOf_15 ?_
      exact Z.iret rfl dX5_downOf_19 (retR H)
  · refine Z.iconst (v := 1) dX5_downOf_5 (by decide) ?_
    refine Z.goto dX5_downOf_6 ?_
    exact Z.iret rfl dX5_downOf_19 (retR H)
theorem kX5_downOf {l : Launch} {E : Env5}   (x0 : Int32) (M : Mem) {v9 : Int32} (H : fX5_downOf x0 = some v9) : Cn l E yX5_downOf cX5_downOf 1 (some .int) 0 [.int (x0)] M (PR (some (.int v9)) M) := Cn.ofZ rfl (Nat.le_of_ble_eq_true rfl) rfl (tX5_downOf_0  x0 M H)
theorem hdX5_downOf : yX5_downOf.cls ≠ "java/lang/invoke/MethodHandle" ∧ yX5_downOf.cls ≠ "java/lang/invoke/VarHandle" ∧ (parseMethodDescriptor yX5_downOf.desc).map (fun d => d.parameters.length) = some 1 := by decide +kernel

set_option maxRecDepth 100000 in
theorem tX5_cellOf_0 {l : Launch} {E : Env5}    (x1 : Int32) (x2 : Int32) (M : Mem) {v9 : Int32}  (H : fX5_cellOf  x1 x2 M = some v9) : Z l E RX5 cX5_cellOf 7 (some .int) 3 0 [(0, .ref (eA E (42))), (1, .int (x1)), (2, .int (x2))] [] M (PR (some (.int v9)) M) := by
  unfold fX5_cellOf at H
  refine Z.iload_n dX5_cellOf_0 2 rfl ?_
  refine Z.aload_n dX5_cellOf_1 0 rfl ?_
  refine Z.get dX5_cellOf_2 inX5 (hc := rfl) (by decide) c5 7 (by decide) kw686 rfl rfl ?_
  refine Z.bipush (v := 6) dX5_cellOf_5 (by decide) ?_
  refine Z.iload_n dX5_cellOf_7 1 rfl ?_
  refine Z.imul dX5_cellOf_8 ?_
  refine Z.iconst (v := 3) dX5_cellOf_9 (by decide) ?_
  refine Z.iadd dX5_cellOf_10 ?_
  refine Z.ialdH dX5_cellOf_11 a5_person H (fun v1 H => ?_)
  refine Z.isub dX5_cellOf_12 ?_
  refine Z.istore_n (lv' := [(3, .int (x2 - v1)), (0, .ref (eA E (42))), (1, .int (x1)), (2, .int (x2))]) dX5_cellOf_13 (by decide) rfl ?_
  refine Z.iload_n dX5_cellOf_14 0 rfl ?_
  refine Z.iconst (v := 0) dX5_cellOf_15 (by decide) ?_
  refine Z.aload_n dX5_cellOf_16 1 rfl ?_
  refine Z.get dX5_cellOf_17 inX5 (hc := rfl) (by decide) c5 7 (by decide) kw686 rfl rfl ?_
  refine Z.bipush (v := 6) dX5_cellOf_20 (by decide) ?_
  refine Z.iload_n dX5_cellOf_22 2 rfl ?_
  refine Z.imul dX5_cellOf_23 ?_
  refine Z.iconst (v := 4) dX5_cellOf_24 (by decide) ?_
  refine Z.iadd dX5_cellOf_25 ?_
  refine Z.ialdH dX5_cellOf_26 a5_person H (fun v2 H => ?_)
  refine bindC H (fun v3 hv3 H => ?_)
  refine Z.callS (As := [.int (x2 - v1), .int (0), .int (v2)]) (rest := []) (st' := [.int (v3)]) dX5_cellOf_27 (kX5_in  (x2 - v1) (0) (v2) M hv3) kw798 kw799 kw7 kw800 hdX5_in (by decide) (by decide) rfl rfl (Nat.le_of_ble_eq_true rfl) rfl ?_
  refine Z.if_neH dX5_cellOf_30 H (fun br30 H => ?_) (fun br30 H => ?_)
  · refine Z.aload_n dX5_cellOf_36 1 rfl ?_
    refine Z.get dX5_cellOf_37 inX5 (hc := rfl) (by decide) c5 7 (by decide) kw686 rfl rfl ?_
    refine Z.bipush (v := 6) dX5_cellOf_40 (by decide) ?_
    refine Z.iload_n dX5_cellOf_42 2 rfl ?_
    refine Z.imul dX5_cellOf_43 ?_
    refine Z.iconst (v := 2) dX5_cellOf_44 (by decide) ?_
    refine Z.iadd dX5_cellOf_45 ?_
    refine Z.ialdH dX5_cellOf_46 a5_person H (fun v4 H => ?_)
    refine Z.istore (lv' := [(4, .int (v4)), (3, .int (x2 - v1)), (0, .ref (eA E (42))), (1, .int (x1)), (2, .int (x2))]) dX5_cellOf_47 (by decide) rfl ?_
    refine Z.aload_n dX5_cellOf_49 2 rfl ?_
    refine Z.get dX5_cellOf_50 inX5 (hc := rfl) (by decide) c5 7 (by decide) kw686 rfl rfl ?_
    refine Z.bipush (v := 6) dX5_cellOf_53 (by decide) ?_
    refine Z.iload_n dX5_cellOf_55 3 rfl ?_
    refine Z.imul dX5_cellOf_56 ?_
    refine Z.ialdH dX5_cellOf_57 a5_person H (fun v5 H => ?_)
    refine Z.iload_n dX5_cellOf_58 1 rfl ?_
    refine Z.iload dX5_cellOf_59 0 rfl ?_
    refine bindC H (fun v6 hv6 H => ?_)
    refine Z.callS (As := [.int (v4)]) (rest := [.int (x2 - v1), .int (v5)]) (st' := [.int (v6), .int (x2 - v1), .int (v5)]) dX5_cellOf_61 (kX5_asideOf  (v4) M hv6) kw870 kw871 kw7 kw872 hdX5_asideOf (by decide) (by decide) rfl rfl (Nat.le_of_ble_eq_true rfl) rfl ?_
    refine Z.imul dX5_cellOf_64 ?_
    refine Z.iadd dX5_cellOf_65 ?_
    refine Z.istore (lv' := [(5, .int (v5 + ((x2 - v1) * v6))), (4, .int (v4)), (3, .int (x2 - v1)), (0, .ref (eA E (42))), (1, .int (x1)), (2, .int (x2))]) dX5_cellOf_66 (by decide) rfl ?_
    refine Z.aload_n dX5_cellOf_68 3 rfl ?_
    refine Z.get dX5_cellOf_69 inX5 (hc := rfl) (by decide) c5 7 (by decide) kw686 rfl rfl ?_
    refine Z.bipush (v := 6) dX5_cellOf_72 (by decide) ?_
    refine Z.iload_n dX5_cellOf_74 4 rfl ?_
    refine Z.imul dX5_cellOf_75 ?_
    refine Z.iconst (v := 1) dX5_cellOf_76 (by decide) ?_
    refine Z.iadd dX5_cellOf_77 ?_
    refine Z.ialdH dX5_cellOf_78 a5_person H (fun v7 H => ?_)
    refine Z.iload_n dX5_cellOf_79 2 rfl ?_
    refine Z.iload dX5_cellOf_80 1 rfl ?_
    refine bindC H (fun v8 hv8 H => ?_)
    refine Z.callS (As := [.int (v4)]) (rest := [.int (x2 - v1), .int (v7)]) (st' := [.int (v8), .int (x2 - v1), .int (v7)]) dX5_cellOf_82 (kX5_downOf  (v4) M hv8) kw873 kw874 kw7 kw875 hdX5_downOf (by decide) (by decide) rfl rfl (Nat.le_of_ble_eq_true rfl) rfl ?_
    refine Z.imul dX5_cellOf_85 ?_
    refine Z.iadd dX5_cellOf_86 ?_
    refine Z.istore (lv' := [(6, .int (v7 + ((x2 - v1) * v8))), (5, .int (v5 + ((x2 - v1) * v6))), (4, .int (v4)), (3, .int (x2 - v1)), (0, .ref (eA E (42))), (1, .int (x1)), (2, .int (x2))]) dX5_cellOf_87 (by decide) rfl ?_
    refine Z.aload_n dX5_cellOf_89 4 rfl ?_
    refine Z.iload dX5_cellOf_90 1 rfl ?_
    refine Z.iload dX5_cellOf_92 0 rfl ?_
    refine bindC H (fun v9 hv9 H => ?_)
    refine Z.callV (As := [.int (v5 + ((x2 - v1) * v6)), .int (v7 + ((x2 - v1) * v8))]) (rest := []) (st' := [.int (v9)]) dX5_cellOf_94 (kX5_isOn  (v5 + ((x2 - v1) * v6)) (v7 + ((x2 - v1) * v8)) M hv9) kw838 kw840 ks37 kw7 kw841 hdX5_isOn (by decide) c5 (hc := rfl) (by decide) (by decide) rfl rfl (Nat.le_of_ble_eq_true rfl) rfl ?_
    refine Z.if_eqH dX5_cellOf_97 H (fun br97 H => ?_) (fun br97 H => ?_)
    · refine Z.bipush (v := (-9)) dX5_cellOf_126 (by decide) ?_
      exact Z.iret rfl dX5_cellOf_128 (retR H)
    · refine Z.aload_n dX5_cellOf_100 4 rfl ?_
      refine Z.iload dX5_cellOf_101 1 rfl ?_
      refine Z.iload dX5_cellOf_103 0 rfl ?_
      refine bindC H (fun v10 hv10 H => ?_)
      refine Z.callV (As := [.int (v5 + ((x2 - v1) * v6)), .int (v7 + ((x2 - v1) * v8))]) (rest := []) (st' := [.int (v10)]) dX5_cellOf_105 (kX5_isWall  (v5 + ((x2 - v1) * v6)) (v7 + ((x2 - v1) * v8)) M hv10) kw842 kw844 ks38 kw7 kw845 hdX5_isWall (by decide) c5 (hc := rfl) (by decide) (by decide) rfl rfl (Nat.le_of_ble_eq_true rfl) rfl ?_
      refine Z.if_neH dX5_cellOf_108 H (fun br108 H => ?_) (fun br108 H => ?_)
      · refine Z.bipush (v := (-9)) dX5_cellOf_126 (by decide) ?_
        exact Z.iret rfl dX5_cellOf_128 (retR H)
      · refine Z.aload_n dX5_cellOf_111 4 rfl ?_
        refine Z.get dX5_cellOf_112 inX5 (hc := rfl) (by decide) c5 3 (by decide) kw682 rfl rfl ?_
        refine Z.iconst (v := 0) dX5_cellOf_115 (by decide) ?_
        refine Z.ialdH dX5_cellOf_116 a5_wides H (fun v11 H => ?_)
        refine Z.iload dX5_cellOf_117 0 rfl ?_
        refine Z.imul dX5_cellOf_119 ?_
        refine Z.iload dX5_cellOf_120 1 rfl ?_
        refine Z.iadd dX5_cellOf_122 ?_
        refine Z.goto dX5_cellOf_123 ?_
        exact Z.iret rfl dX5_cellOf_128 (retR H)
  · refine Z.bipush (v := (-9)) dX5_cellOf_33 (by decide) ?_
    exact Z.iret rfl dX5_cellOf_35 (retR H)
theorem kX5_cellOf {l : Launch} {E : Env5}   (x1 : Int32) (x2 : Int32) (M : Mem) {v9 : Int32} (H : fX5_cellOf x1 x2 M = some v9) : Cn l E yX5_cellOf cX5_cellOf 7 (some .int) 3 [.ref (eA E (42)), .int (x1), .int (x2)] M (PR (some (.int v9)) M) := Cn.ofZ rfl (Nat.le_of_ble_eq_true rfl) rfl (tX5_cellOf_0  x1 x2 M H)
theorem hdX5_cellOf : yX5_cellOf.cls ≠ "java/lang/invoke/MethodHandle" ∧ yX5_cellOf.cls ≠ "java/lang/invoke/VarHandle" ∧ (parseMethodDescriptor yX5_cellOf.desc).map (fun d => d.parameters.length) = some 2 := by decide +kernel

set_option maxRecDepth 100000 in
theorem tX5_thoseOn_56 {l : Launch} {E : Env5}   {k6 : Int32 → Int32 → Int32 → Int32 → Int32 → Option Int32} (x1 : Int32) (x2 : Int32) (x3 : Int32) (x5 : Int32) (s0 : Int32) (s1 : Int32) (M : Mem) {v9 : Int32} (hk6 : ∀ (x1 : Int32) (x2 : Int32) (x3 : Int32) (x4 : Int32) (x5 : Int32), k6 x1 x2 x3 x4 x5 = some v9 → Z l E RX5 cX5_thoseOn 6 (some .int) 4 6 [(0, .ref (eA E (42))), (1, .int (x1)), (2, .int (x2)), (3, .int (x3)), (4, .int (x4)), (5, .int (x5))] [] M (PR (some (.int v9)) M)) (H : fX5_thoseOn_56 k6 x1 x2 x3 x5 s0 s1 M = some v9) : Z l E RX5 cX5_thoseOn 6 (some .int) 4 56 [(0, .ref (eA E (42))), (1, .int (x1)), (2, .int (x2)), (3, .int (x3)), (5, .int (x5))] [.int (s0), .int (s1)] M (PR (some (.int v9)) M) := by
  unfold fX5_thoseOn_56 at H
  refine Z.ior dX5_thoseOn_56 ?_
  refine Z.istore (lv' := [(4, .int (s1 ||| s0)), (0, .ref (eA E (42))), (1, .int (x1)), (2, .int (x2)), (3, .int (x3)), (5, .int (x5))]) dX5_thoseOn_57 (by decide) rfl ?_
  refine Z.iinc (v := x5 + 1) (lv' := [(5, .int (x5 + 1)), (4, .int (s1 ||| s0)), (0, .ref (eA E (42))), (1, .int (x1)), (2, .int (x2)), (3, .int (x3))]) dX5_thoseOn_59 5 rfl rfl (by decide) rfl ?_
  refine Z.goto dX5_thoseOn_62 ?_
  refine Z.sub [2, 3, 4, 5, 1, 0] rfl ?_
  exact hk6 (x1) (x2) (x3) (s1 ||| s0) (x5 + 1) H
set_option maxRecDepth 100000 in
theorem tX5_thoseOn_6 {l : Launch} {E : Env5}   {k6 : Int32 → Int32 → Int32 → Int32 → Int32 → Option Int32} (x1 : Int32) (x2 : Int32) (x3 : Int32) (x4 : Int32) (x5 : Int32) (M : Mem) {v9 : Int32} (hk6 : ∀ (x1 : Int32) (x2 : Int32) (x3 : Int32) (x4 : Int32) (x5 : Int32), k6 x1 x2 x3 x4 x5 = some v9 → Z l E RX5 cX5_thoseOn 6 (some .int) 4 6 [(0, .ref (eA E (42))), (1, .int (x1)), (2, .int (x2)), (3, .int (x3)), (4, .int (x4)), (5, .int (x5))] [] M (PR (some (.int v9)) M)) (H : fX5_thoseOn_6B k6 x1 x2 x3 x4 x5 M = some v9) : Z l E RX5 cX5_thoseOn 6 (some .int) 4 6 [(0, .ref (eA E (42))), (1, .int (x1)), (2, .int (x2)), (3, .int (x3)), (4, .int (x4)), (5, .int (x5))] [] M (PR (some (.int v9)) M) := by
  unfold fX5_thoseOn_6B at H
  refine Z.iload dX5_thoseOn_6 5 rfl ?_
  refine Z.aload_n dX5_thoseOn_8 0 rfl ?_
  refine Z.get dX5_thoseOn_9 inX5 (hc := rfl) (by decide) c5 6 (by decide) kw685 rfl rfl ?_
  refine Z.iconst (v := 0) dX5_thoseOn_12 (by decide) ?_
  refine Z.ialdH dX5_thoseOn_13 a5_people H (fun v1 H => ?_)
  refine Z.icmp_geH dX5_thoseOn_14 H (fun br14 H => ?_) (fun br14 H => ?_)
  · refine Z.iload dX5_thoseOn_65 4 rfl ?_
    exact Z.iret rfl dX5_thoseOn_67 (retR H)
  · refine Z.aload_n dX5_thoseOn_17 0 rfl ?_
    refine Z.iload_n dX5_thoseOn_18 1 rfl ?_
    refine Z.iload_n dX5_thoseOn_19 2 rfl ?_
    refine bindC H (fun v2 hv2 H => ?_)
    refine Z.callV (As := [.int (x1), .int (x2)]) (rest := []) (st' := [.int (v2)]) dX5_thoseOn_20 (kX5_isOn  (x1) (x2) M hv2) kw838 kw840 ks37 kw7 kw841 hdX5_isOn (by decide) c5 (hc := rfl) (by decide) (by decide) rfl rfl (Nat.le_of_ble_eq_true rfl) rfl ?_
    refine Z.if_eqH dX5_thoseOn_23 H (fun br23 H => ?_) (fun br23 H => ?_)
    · refine Z.iload dX5_thoseOn_65 4 rfl ?_
      exact Z.iret rfl dX5_thoseOn_67 (retR H)
    · refine Z.iload dX5_thoseOn_26 4 rfl ?_
      refine Z.aload_n dX5_thoseOn_28 0 rfl ?_
      refine Z.iload dX5_thoseOn_29 5 rfl ?_
      refine Z.iload_n dX5_thoseOn_31 3 rfl ?_
      refine bindC H (fun v3 hv3 H => ?_)
      refine Z.callV (As := [.int (x5), .int (x3)]) (rest := [.int (x4)]) (st' := [.int (v3), .int (x4)]) dX5_thoseOn_32 (kX5_cellOf  (x5) (x3) M hv3) kw866 kw868 ks41 kw7 kw869 hdX5_cellOf (by decide) c5 (hc := rfl) (by decide) (by decide) rfl rfl (Nat.le_of_ble_eq_true rfl) rfl ?_
      refine Z.aload_n dX5_thoseOn_35 0 rfl ?_
      refine Z.get dX5_thoseOn_36 inX5 (hc := rfl) (by decide) c5 3 (by decide) kw682 rfl rfl ?_
      refine Z.iconst (v := 0) dX5_thoseOn_39 (by decide) ?_
      refine Z.ialdH dX5_thoseOn_40 a5_wides H (fun v4 H => ?_)
      refine Z.iload_n dX5_thoseOn_41 2 rfl ?_
      refine Z.imul dX5_thoseOn_42 ?_
      refine Z.iload_n dX5_thoseOn_43 1 rfl ?_
      refine Z.iadd dX5_thoseOn_44 ?_
      refine Z.icmp_neH dX5_thoseOn_45 H (fun br45 H => ?_) (fun br45 H => ?_)
      · refine Z.iconst (v := 0) dX5_thoseOn_55 (by decide) ?_
        refine Z.sub [0, 1, 2, 3, 5] rfl ?_
        exact tX5_thoseOn_56  (x1) (x2) (x3) (x5) (0) (x4) M hk6 H
      · refine Z.iconst (v := 1) dX5_thoseOn_48 (by decide) ?_
        refine Z.iload dX5_thoseOn_49 5 rfl ?_
        refine Z.ishl dX5_thoseOn_51 ?_
        refine Z.goto dX5_thoseOn_52 ?_
        refine Z.sub [0, 1, 2, 3, 5] rfl ?_
        exact tX5_thoseOn_56  (x1) (x2) (x3) (x5) (1 <<< (x5 &&& 31)) (x4) M hk6 H
theorem tX5_thoseOn_6L {l : Launch} {E : Env5}    (M : Mem) {v9 : Int32}  : ∀ (n : Nat) (x1 : Int32) (x2 : Int32) (x3 : Int32) (x4 : Int32) (x5 : Int32), fX5_thoseOn_6L   M n x1 x2 x3 x4 x5 = some v9 → Z l E RX5 cX5_thoseOn 6 (some .int) 4 6 [(0, .ref (eA E (42))), (1, .int (x1)), (2, .int (x2)), (3, .int (x3)), (4, .int (x4)), (5, .int (x5))] [] M (PR (some (.int v9)) M) := by
  intro n
  induction n with
  | zero => intro x1 x2 x3 x4 x5 H; exact absurd H (by simp [fX5_thoseOn_6L])
  | succ n ih => intro x1 x2 x3 x4 x5 H; exact tX5_thoseOn_6  x1 x2 x3 x4 x5 M  (fun x1 x2 x3 x4 x5 H => ih x1 x2 x3 x4 x5 H) H
set_option maxRecDepth 100000 in
theorem tX5_thoseOn_0 {l : Launch} {E : Env5}    (x1 : Int32) (x2 : Int32) (x3 : Int32) (M : Mem) {v9 : Int32}  (H : fX5_thoseOn  x1 x2 x3 M = some v9) : Z l E RX5 cX5_thoseOn 6 (some .int) 4 0 [(0, .ref (eA E (42))), (1, .int (x1)), (2, .int (x2)), (3, .int (x3))] [] M (PR (some (.int v9)) M) := by
  unfold fX5_thoseOn at H
  refine Z.iconst (v := 0) dX5_thoseOn_0 (by decide) ?_
  refine Z.istore (lv' := [(4, .int (0)), (0, .ref (eA E (42))), (1, .int (x1)), (2, .int (x2)), (3, .int (x3))]) dX5_thoseOn_1 (by decide) rfl ?_
  refine Z.iconst (v := 0) dX5_thoseOn_3 (by decide) ?_
  refine Z.istore (lv' := [(5, .int (0)), (4, .int (0)), (0, .ref (eA E (42))), (1, .int (x1)), (2, .int (x2)), (3, .int (x3))]) dX5_thoseOn_4 (by decide) rfl ?_
  refine Z.sub [2, 3, 4, 5, 1, 0] rfl ?_
  exact tX5_thoseOn_6L  M  FU (x1) (x2) (x3) (0) (0) H
theorem kX5_thoseOn {l : Launch} {E : Env5}   (x1 : Int32) (x2 : Int32) (x3 : Int32) (M : Mem) {v9 : Int32} (H : fX5_thoseOn x1 x2 x3 M = some v9) : Cn l E yX5_thoseOn cX5_thoseOn 6 (some .int) 4 [.ref (eA E (42)), .int (x1), .int (x2), .int (x3)] M (PR (some (.int v9)) M) := Cn.ofZ rfl (Nat.le_of_ble_eq_true rfl) rfl (tX5_thoseOn_0  x1 x2 x3 M H)
theorem hdX5_thoseOn : yX5_thoseOn.cls ≠ "java/lang/invoke/MethodHandle" ∧ yX5_thoseOn.cls ≠ "java/lang/invoke/VarHandle" ∧ (parseMethodDescriptor yX5_thoseOn.desc).map (fun d => d.parameters.length) = some 3 := by decide +kernel

set_option maxRecDepth 100000 in
theorem tX5_where_0 {l : Launch} {E : Env5}    (x1 : Int32) (x2 : Int32) (M : Mem) {v9 : Int32}  (H : fX5_where  x1 x2 M = some v9) : Z l E RX5 cX5_where 3 (some .int) 4 0 [(0, .ref (eA E (42))), (1, .int (x1)), (2, .int (x2))] [] M (PR (some (.int v9)) M) := by
  unfold fX5_where at H
  refine Z.aload_n dX5_where_0 0 rfl ?_
  refine Z.iload_n dX5_where_1 1 rfl ?_
  refine bindC H (fun v1 hv1 H => ?_)
  refine Z.callV (As := [.int (x1)]) (rest := []) (st' := [.int (v1)]) dX5_where_2 (kX5_isPerson  (x1) M hv1) kw850 kw852 ks39 kw7 kw853 hdX5_isPerson (by decide) c5 (hc := rfl) (by decide) (by decide) rfl rfl (Nat.le_of_ble_eq_true rfl) rfl ?_
  refine Z.if_eqH dX5_where_5 H (fun br5 H => ?_) (fun br5 H => ?_)
  · refine Z.iconst (v := (-1)) dX5_where_28 (by decide) ?_
    exact Z.iret rfl dX5_where_29 (retR H)
  · refine Z.iload_n dX5_where_8 2 rfl ?_
    refine Z.iconst (v := 0) dX5_where_9 (by decide) ?_
    refine Z.sipush (v := 199) dX5_where_10 (by decide) ?_
    refine bindC H (fun v2 hv2 H => ?_)
    refine Z.callS (As := [.int (x2), .int (0), .int (199)]) (rest := []) (st' := [.int (v2)]) dX5_where_13 (kX5_in  (x2) (0) (199) M hv2) kw798 kw799 kw7 kw800 hdX5_in (by decide) (by decide) rfl rfl (Nat.le_of_ble_eq_true rfl) rfl ?_
    refine Z.if_eqH dX5_where_16 H (fun br16 H => ?_) (fun br16 H => ?_)
    · refine Z.iconst (v := (-1)) dX5_where_28 (by decide) ?_
      exact Z.iret rfl dX5_where_29 (retR H)
    · refine Z.aload_n dX5_where_19 0 rfl ?_
      refine Z.iload_n dX5_where_20 1 rfl ?_
      refine Z.iload_n dX5_where_21 2 rfl ?_
      refine bindC H (fun v3 hv3 H => ?_)
      refine Z.callV (As := [.int (x1), .int (x2)]) (rest := []) (st' := [.int (v3)]) dX5_where_22 (kX5_cellOf  (x1) (x2) M hv3) kw866 kw868 ks41 kw7 kw869 hdX5_cellOf (by decide) c5 (hc := rfl) (by decide) (by decide) rfl rfl (Nat.le_of_ble_eq_true rfl) rfl ?_
      refine Z.goto dX5_where_25 ?_
      exact Z.iret rfl dX5_where_29 (retR H)
theorem kX5_where {l : Launch} {E : Env5}   (x1 : Int32) (x2 : Int32) (M : Mem) {v9 : Int32} (H : fX5_where x1 x2 M = some v9) : Cn l E yX5_where cX5_where 3 (some .int) 4 [.ref (eA E (42)), .int (x1), .int (x2)] M (PR (some (.int v9)) M) := Cn.ofZ rfl (Nat.le_of_ble_eq_true rfl) rfl (tX5_where_0  x1 x2 M H)
theorem hdX5_where : yX5_where.cls ≠ "java/lang/invoke/MethodHandle" ∧ yX5_where.cls ≠ "java/lang/invoke/VarHandle" ∧ (parseMethodDescriptor yX5_where.desc).map (fun d => d.parameters.length) = some 2 := by decide +kernel

set_option maxRecDepth 100000 in
theorem tX5_on_0 {l : Launch} {E : Env5}    (x1 : Int32) (x2 : Int32) (x3 : Int32) (M : Mem) {v9 : Int32}  (H : fX5_on  x1 x2 x3 M = some v9) : Z l E RX5 cX5_on 4 (some .int) 5 0 [(0, .ref (eA E (42))), (1, .int (x1)), (2, .int (x2)), (3, .int (x3))] [] M (PR (some (.int v9)) M) := by
  unfold fX5_on at H
  refine Z.aload_n dX5_on_0 0 rfl ?_
  refine Z.iload_n dX5_on_1 1 rfl ?_
  refine Z.iload_n dX5_on_2 2 rfl ?_
  refine bindC H (fun v1 hv1 H => ?_)
  refine Z.callV (As := [.int (x1), .int (x2)]) (rest := []) (st' := [.int (v1)]) dX5_on_3 (kX5_isOn  (x1) (x2) M hv1) kw838 kw840 ks37 kw7 kw841 hdX5_isOn (by decide) c5 (hc := rfl) (by decide) (by decide) rfl rfl (Nat.le_of_ble_eq_true rfl) rfl ?_
  refine Z.if_eqH dX5_on_6 H (fun br6 H => ?_) (fun br6 H => ?_)
  · refine Z.iconst (v := (-1)) dX5_on_30 (by decide) ?_
    exact Z.iret rfl dX5_on_31 (retR H)
  · refine Z.iload_n dX5_on_9 3 rfl ?_
    refine Z.iconst (v := 0) dX5_on_10 (by decide) ?_
    refine Z.sipush (v := 199) dX5_on_11 (by decide) ?_
    refine bindC H (fun v2 hv2 H => ?_)
    refine Z.callS (As := [.int (x3), .int (0), .int (199)]) (rest := []) (st' := [.int (v2)]) dX5_on_14 (kX5_in  (x3) (0) (199) M hv2) kw798 kw799 kw7 kw800 hdX5_in (by decide) (by decide) rfl rfl (Nat.le_of_ble_eq_true rfl) rfl ?_
    refine Z.if_eqH dX5_on_17 H (fun br17 H => ?_) (fun br17 H => ?_)
    · refine Z.iconst (v := (-1)) dX5_on_30 (by decide) ?_
      exact Z.iret rfl dX5_on_31 (retR H)
    · refine Z.aload_n dX5_on_20 0 rfl ?_
      refine Z.iload_n dX5_on_21 1 rfl ?_
      refine Z.iload_n dX5_on_22 2 rfl ?_
      refine Z.iload_n dX5_on_23 3 rfl ?_
      refine bindC H (fun v3 hv3 H => ?_)
      refine Z.callV (As := [.int (x1), .int (x2), .int (x3)]) (rest := []) (st' := [.int (v3)]) dX5_on_24 (kX5_thoseOn  (x1) (x2) (x3) M hv3) kw880 kw882 ks42 kw7 kw883 hdX5_thoseOn (by decide) c5 (hc := rfl) (by decide) (by decide) rfl rfl (Nat.le_of_ble_eq_true rfl) rfl ?_
      refine Z.goto dX5_on_27 ?_
      exact Z.iret rfl dX5_on_31 (retR H)
theorem kX5_on {l : Launch} {E : Env5}   (x1 : Int32) (x2 : Int32) (x3 : Int32) (M : Mem) {v9 : Int32} (H : fX5_on x1 x2 x3 M = some v9) : Cn l E yX5_on cX5_on 4 (some .int) 5 [.ref (eA E (42)), .int (x1), .int (x2), .int (x3)] M (PR (some (.int v9)) M) := Cn.ofZ rfl (Nat.le_of_ble_eq_true rfl) rfl (tX5_on_0  x1 x2 x3 M H)
theorem hdX5_on : yX5_on.cls ≠ "java/lang/invoke/MethodHandle" ∧ yX5_on.cls ≠ "java/lang/invoke/VarHandle" ∧ (parseMethodDescriptor yX5_on.desc).map (fun d => d.parameters.length) = some 3 := by decide +kernel

set_option maxRecDepth 100000 in
theorem tX5_xAt_0 {l : Launch} {E : Env5}    (x1 : Int32) (x2 : Int32) (M : Mem) {v9 : Int32}  (H : fX5_xAt  x1 x2 M = some v9) : Z l E RX5 cX5_xAt 3 (some .int) 1 0 [(0, .ref (eA E (42))), (1, .int (x1)), (2, .int (x2))] [] M (PR (some (.int v9)) M) := by
  unfold fX5_xAt at H
  refine Z.aload_n dX5_xAt_0 0 rfl ?_
  refine Z.get dX5_xAt_1 inX5 (hc := rfl) (by decide) c5 15 (by decide) kw694 rfl rfl ?_
  refine Z.iload_n dX5_xAt_4 1 rfl ?_
  refine Z.aload_n dX5_xAt_5 0 rfl ?_
  refine Z.get dX5_xAt_6 inX5 (hc := rfl) (by decide) c5 17 (by decide) kw696 rfl rfl ?_
  refine bindC H (fun v1 hv1 H => ?_)
  refine Z.callS (As := [.int (M.1 42 17)]) (rest := [.int (x1), .int (M.1 42 15)]) (st' := [.int (v1), .int (x1), .int (M.1 42 15)]) dX5_xAt_9 (kX5_asideOf  (M.1 42 17) M hv1) kw870 kw871 kw7 kw872 hdX5_asideOf (by decide) (by decide) rfl rfl (Nat.le_of_ble_eq_true rfl) rfl ?_
  refine Z.imul dX5_xAt_12 ?_
  refine Z.iadd dX5_xAt_13 ?_
  refine Z.iload_n dX5_xAt_14 2 rfl ?_
  refine Z.aload_n dX5_xAt_15 0 rfl ?_
  refine Z.get dX5_xAt_16 inX5 (hc := rfl) (by decide) c5 17 (by decide) kw696 rfl rfl ?_
  refine Z.iconst (v := 1) dX5_xAt_19 (by decide) ?_
  refine Z.iadd dX5_xAt_20 ?_
  refine Z.iconst (v := 4) dX5_xAt_21 (by decide) ?_
  refine Z.irem dX5_xAt_22 (by decide) ?_
  refine bindC H (fun v2 hv2 H => ?_)
  refine Z.callS (As := [.int (((M.1 42 17) + 1) - ((M.1 42 17) + 1) / 4 * 4)]) (rest := [.int (x2), .int ((M.1 42 15) + (x1 * v1))]) (st' := [.int (v2), .int (x2), .int ((M.1 42 15) + (x1 * v1))]) dX5_xAt_23 (kX5_asideOf  (((M.1 42 17) + 1) - ((M.1 42 17) + 1) / 4 * 4) M hv2) kw870 kw871 kw7 kw872 hdX5_asideOf (by decide) (by decide) rfl rfl (Nat.le_of_ble_eq_true rfl) rfl ?_
  refine Z.imul dX5_xAt_26 ?_
  refine Z.iadd dX5_xAt_27 ?_
  exact Z.iret rfl dX5_xAt_28 (retR H)
theorem kX5_xAt {l : Launch} {E : Env5}   (x1 : Int32) (x2 : Int32) (M : Mem) {v9 : Int32} (H : fX5_xAt x1 x2 M = some v9) : Cn l E yX5_xAt cX5_xAt 3 (some .int) 1 [.ref (eA E (42)), .int (x1), .int (x2)] M (PR (some (.int v9)) M) := Cn.ofZ rfl (Nat.le_of_ble_eq_true rfl) rfl (tX5_xAt_0  x1 x2 M H)
theorem hdX5_xAt : yX5_xAt.cls ≠ "java/lang/invoke/MethodHandle" ∧ yX5_xAt.cls ≠ "java/lang/invoke/VarHandle" ∧ (parseMethodDescriptor yX5_xAt.desc).map (fun d => d.parameters.length) = some 2 := by decide +kernel

set_option maxRecDepth 100000 in
theorem tX5_yAt_0 {l : Launch} {E : Env5}    (x1 : Int32) (x2 : Int32) (M : Mem) {v9 : Int32}  (H : fX5_yAt  x1 x2 M = some v9) : Z l E RX5 cX5_yAt 3 (some .int) 1 0 [(0, .ref (eA E (42))), (1, .int (x1)), (2, .int (x2))] [] M (PR (some (.int v9)) M) := by
  unfold fX5_yAt at H
  refine Z.aload_n dX5_yAt_0 0 rfl ?_
  refine Z.get dX5_yAt_1 inX5 (hc := rfl) (by decide) c5 16 (by decide) kw695 rfl rfl ?_
  refine Z.iload_n dX5_yAt_4 1 rfl ?_
  refine Z.aload_n dX5_yAt_5 0 rfl ?_
  refine Z.get dX5_yAt_6 inX5 (hc := rfl) (by decide) c5 17 (by decide) kw696 rfl rfl ?_
  refine bindC H (fun v1 hv1 H => ?_)
  refine Z.callS (As := [.int (M.1 42 17)]) (rest := [.int (x1), .int (M.1 42 16)]) (st' := [.int (v1), .int (x1), .int (M.1 42 16)]) dX5_yAt_9 (kX5_downOf  (M.1 42 17) M hv1) kw873 kw874 kw7 kw875 hdX5_downOf (by decide) (by decide) rfl rfl (Nat.le_of_ble_eq_true rfl) rfl ?_
  refine Z.imul dX5_yAt_12 ?_
  refine Z.iadd dX5_yAt_13 ?_
  refine Z.iload_n dX5_yAt_14 2 rfl ?_
  refine Z.aload_n dX5_yAt_15 0 rfl ?_
  refine Z.get dX5_yAt_16 inX5 (hc := rfl) (by decide) c5 17 (by decide) kw696 rfl rfl ?_
  refine Z.iconst (v := 1) dX5_yAt_19 (by decide) ?_
  refine Z.iadd dX5_yAt_20 ?_
  refine Z.iconst (v := 4) dX5_yAt_21 (by decide) ?_
  refine Z.irem dX5_yAt_22 (by decide) ?_
  refine bindC H (fun v2 hv2 H => ?_)
  refine Z.callS (As := [.int (((M.1 42 17) + 1) - ((M.1 42 17) + 1) / 4 * 4)]) (rest := [.int (x2), .int ((M.1 42 16) + (x1 * v1))]) (st' := [.int (v2), .int (x2), .int ((M.1 42 16) + (x1 * v1))]) dX5_yAt_23 (kX5_downOf  (((M.1 42 17) + 1) - ((M.1 42 17) + 1) / 4 * 4) M hv2) kw873 kw874 kw7 kw875 hdX5_downOf (by decide) (by decide) rfl rfl (Nat.le_of_ble_eq_true rfl) rfl ?_
  refine Z.imul dX5_yAt_26 ?_
  refine Z.iadd dX5_yAt_27 ?_
  exact Z.iret rfl dX5_yAt_28 (retR H)
theorem kX5_yAt {l : Launch} {E : Env5}   (x1 : Int32) (x2 : Int32) (M : Mem) {v9 : Int32} (H : fX5_yAt x1 x2 M = some v9) : Cn l E yX5_yAt cX5_yAt 3 (some .int) 1 [.ref (eA E (42)), .int (x1), .int (x2)] M (PR (some (.int v9)) M) := Cn.ofZ rfl (Nat.le_of_ble_eq_true rfl) rfl (tX5_yAt_0  x1 x2 M H)
theorem hdX5_yAt : yX5_yAt.cls ≠ "java/lang/invoke/MethodHandle" ∧ yX5_yAt.cls ≠ "java/lang/invoke/VarHandle" ∧ (parseMethodDescriptor yX5_yAt.desc).map (fun d => d.parameters.length) = some 2 := by decide +kernel

set_option maxRecDepth 100000 in
theorem tX5_hides_2 {l : Launch} {E : Env5}   {k2 : Int32 → Int32 → Int32 → Option Int32} (x1 : Int32) (x2 : Int32) (x3 : Int32) (M : Mem) {v9 : Int32} (hk2 : ∀ (x1 : Int32) (x2 : Int32) (x3 : Int32), k2 x1 x2 x3 = some v9 → Z l E RX5 cX5_hides 6 (some .int) 5 2 [(0, .ref (eA E (42))), (1, .int (x1)), (2, .int (x2)), (3, .int (x3))] [] M (PR (some (.int v9)) M)) (H : fX5_hides_2B k2 x1 x2 x3 M = some v9) : Z l E RX5 cX5_hides 6 (some .int) 5 2 [(0, .ref (eA E (42))), (1, .int (x1)), (2, .int (x2)), (3, .int (x3))] [] M (PR (some (.int v9)) M) := by
  unfold fX5_hides_2B at H
  refine Z.iload_n dX5_hides_2 3 rfl ?_
  refine Z.iload_n dX5_hides_3 1 rfl ?_
  refine Z.icmp_geH dX5_hides_4 H (fun br4 H => ?_) (fun br4 H => ?_)
  · refine Z.iconst (v := 1) dX5_hides_67 (by decide) ?_
    exact Z.iret rfl dX5_hides_68 (retR H)
  · refine Z.aload_n dX5_hides_7 0 rfl ?_
    refine Z.iload_n dX5_hides_8 3 rfl ?_
    refine Z.iload_n dX5_hides_9 2 rfl ?_
    refine Z.iload_n dX5_hides_10 3 rfl ?_
    refine Z.imul dX5_hides_11 ?_
    refine Z.iload_n dX5_hides_12 1 rfl ?_
    refine Z.idivH dX5_hides_13 H (fun v1 H => ?_)
    refine bindC H (fun v2 hv2 H => ?_)
    refine Z.callV (As := [.int (x3), .int (v1)]) (rest := []) (st' := [.int (v2)]) dX5_hides_14 (kX5_xAt  (x3) (v1) M hv2) kw904 kw906 ks47 kw7 kw907 hdX5_xAt (by decide) c5 (hc := rfl) (by decide) (by decide) rfl rfl (Nat.le_of_ble_eq_true rfl) rfl ?_
    refine Z.istore (lv' := [(4, .int (v2)), (0, .ref (eA E (42))), (1, .int (x1)), (2, .int (x2)), (3, .int (x3))]) dX5_hides_17 (by decide) rfl ?_
    refine Z.aload_n dX5_hides_19 1 rfl ?_
    refine Z.iload_n dX5_hides_20 4 rfl ?_
    refine Z.iload_n dX5_hides_21 3 rfl ?_
    refine Z.iload_n dX5_hides_22 4 rfl ?_
    refine Z.imul dX5_hides_23 ?_
    refine Z.iload_n dX5_hides_24 2 rfl ?_
    refine Z.idivH dX5_hides_25 H (fun v3 H => ?_)
    refine bindC H (fun v4 hv4 H => ?_)
    refine Z.callV (As := [.int (x3), .int (v3)]) (rest := []) (st' := [.int (v4)]) dX5_hides_26 (kX5_yAt  (x3) (v3) M hv4) kw908 kw910 ks48 kw7 kw911 hdX5_yAt (by decide) c5 (hc := rfl) (by decide) (by decide) rfl rfl (Nat.le_of_ble_eq_true rfl) rfl ?_
    refine Z.istore (lv' := [(5, .int (v4)), (4, .int (v2)), (0, .ref (eA E (42))), (1, .int (x1)), (2, .int (x2)), (3, .int (x3))]) dX5_hides_29 (by decide) rfl ?_
    refine Z.aload_n dX5_hides_31 2 rfl ?_
    refine Z.iload dX5_hides_32 1 rfl ?_
    refine Z.iload dX5_hides_34 0 rfl ?_
    refine bindC H (fun v5 hv5 H => ?_)
    refine Z.callV (As := [.int (v2), .int (v4)]) (rest := []) (st' := [.int (v5)]) dX5_hides_36 (kX5_isWall  (v2) (v4) M hv5) kw842 kw844 ks38 kw7 kw845 hdX5_isWall (by decide) c5 (hc := rfl) (by decide) (by decide) rfl rfl (Nat.le_of_ble_eq_true rfl) rfl ?_
    refine Z.if_eqH dX5_hides_39 H (fun br39 H => ?_) (fun br39 H => ?_)
    · refine Z.aload_n dX5_hides_44 2 rfl ?_
      refine Z.iload dX5_hides_45 1 rfl ?_
      refine Z.iload dX5_hides_47 0 rfl ?_
      refine Z.aload_n dX5_hides_49 2 rfl ?_
      refine Z.get dX5_hides_50 inX5 (hc := rfl) (by decide) c5 18 (by decide) kw697 rfl rfl ?_
      refine bindC H (fun v6 hv6 H => ?_)
      refine Z.callV (As := [.int (v2), .int (v4), .int (M.1 42 18)]) (rest := []) (st' := [.int (v6)]) dX5_hides_53 (kX5_thoseOn  (v2) (v4) (M.1 42 18) M hv6) kw880 kw882 ks42 kw7 kw883 hdX5_thoseOn (by decide) c5 (hc := rfl) (by decide) (by decide) rfl rfl (Nat.le_of_ble_eq_true rfl) rfl ?_
      refine Z.if_eqH dX5_hides_56 H (fun br56 H => ?_) (fun br56 H => ?_)
      · refine Z.iinc (v := x3 + 1) (lv' := [(3, .int (x3 + 1)), (5, .int (v4)), (4, .int (v2)), (0, .ref (eA E (42))), (1, .int (x1)), (2, .int (x2))]) dX5_hides_61 5 rfl rfl (by decide) rfl ?_
        refine Z.goto dX5_hides_64 ?_
        refine Z.sub [3, 4, 5, 0] rfl ?_
        exact hk2 (x1) (x2) (x3 + 1) H
      · refine Z.iconst (v := 3) dX5_hides_59 (by decide) ?_
        exact Z.iret rfl dX5_hides_60 (retR H)
    · refine Z.iconst (v := 2) dX5_hides_42 (by decide) ?_
      exact Z.iret rfl dX5_hides_43 (retR H)
theorem tX5_hides_2L {l : Launch} {E : Env5}    (M : Mem) {v9 : Int32}  : ∀ (n : Nat) (x1 : Int32) (x2 : Int32) (x3 : Int32), fX5_hides_2L   M n x1 x2 x3 = some v9 → Z l E RX5 cX5_hides 6 (some .int) 5 2 [(0, .ref (eA E (42))), (1, .int (x1)), (2, .int (x2)), (3, .int (x3))] [] M (PR (some (.int v9)) M) := by
  intro n
  induction n with
  | zero => intro x1 x2 x3 H; exact absurd H (by simp [fX5_hides_2L])
  | succ n ih => intro x1 x2 x3 H; exact tX5_hides_2  x1 x2 x3 M  (fun x1 x2 x3 H => ih x1 x2 x3 H) H
set_option maxRecDepth 100000 in
theorem tX5_hides_0 {l : Launch} {E : Env5}    (x1 : Int32) (x2 : Int32) (M : Mem) {v9 : Int32}  (H : fX5_hides  x1 x2 M = some v9) : Z l E RX5 cX5_hides 6 (some .int) 5 0 [(0, .ref (eA E (42))), (1, .int (x1)), (2, .int (x2))] [] M (PR (some (.int v9)) M) := by
  unfold fX5_hides at H
  refine Z.iconst (v := 1) dX5_hides_0 (by decide) ?_
  refine Z.istore_n (lv' := [(3, .int (1)), (0, .ref (eA E (42))), (1, .int (x1)), (2, .int (x2))]) dX5_hides_1 (by decide) rfl ?_
  refine Z.sub [1, 2, 3, 0] rfl ?_
  exact tX5_hides_2L  M  FU (x1) (x2) (1) H
theorem kX5_hides {l : Launch} {E : Env5}   (x1 : Int32) (x2 : Int32) (M : Mem) {v9 : Int32} (H : fX5_hides x1 x2 M = some v9) : Cn l E yX5_hides cX5_hides 6 (some .int) 5 [.ref (eA E (42)), .int (x1), .int (x2)] M (PR (some (.int v9)) M) := Cn.ofZ rfl (Nat.le_of_ble_eq_true rfl) rfl (tX5_hides_0  x1 x2 M H)
theorem hdX5_hides : yX5_hides.cls ≠ "java/lang/invoke/MethodHandle" ∧ yX5_hides.cls ≠ "java/lang/invoke/VarHandle" ∧ (parseMethodDescriptor yX5_hides.desc).map (fun d => d.parameters.length) = some 2 := by decide +kernel

set_option maxRecDepth 100000 in
theorem tX5_lookFrom_0 {l : Launch} {E : Env5}    (x1 : Int32) (x2 : Int32) (x3 : Int32) (x4 : Int32) (M : Mem) {M9 : Mem}  (H : fX5_lookFrom  x1 x2 x3 x4 M = some M9) : Z l E RX5 cX5_lookFrom 5 none 0 0 [(0, .ref (eA E (42))), (1, .int (x1)), (2, .int (x2)), (3, .int (x3)), (4, .int (x4))] [] M (PR none M9) := by
  unfold fX5_lookFrom at H
  refine Z.aload_n dX5_lookFrom_0 0 rfl ?_
  refine Z.iload_n dX5_lookFrom_1 1 rfl ?_
  refine wE H (fun M1 eM1 H => ?_)
  refine Z.put (ty := .int) (M' := M1) dX5_lookFrom_2 inX5 tyX5_ok nmX5 (hc := rfl) (by decide) c5 15 (by decide) kw694 rfl rfl (by decide +kernel) rfl rfl (Nat.le_of_ble_eq_true rfl) (by rw [← eM1, c5, sI_k]; exact congrArg (fun q => Sum.inr (5, q)) u5_fromX) (by rw [← eM1]; exact sI_o) (by rw [← eM1]; exact (fun q => q)) ?_
  refine Z.aload_n dX5_lookFrom_5 0 rfl ?_
  refine Z.iload_n dX5_lookFrom_6 2 rfl ?_
  refine wE H (fun M2 eM2 H => ?_)
  refine Z.put (ty := .int) (M' := M2) dX5_lookFrom_7 inX5 tyX5_ok nmX5 (hc := rfl) (by decide) c5 16 (by decide) kw695 rfl rfl (by decide +kernel) rfl rfl (Nat.le_of_ble_eq_true rfl) (by rw [← eM2, c5, sI_k]; exact congrArg (fun q => Sum.inr (5, q)) u5_fromY) (by rw [← eM2]; exact sI_o) (by rw [← eM2]; exact (fun q => q)) ?_
  refine Z.aload_n dX5_lookFrom_10 0 rfl ?_
  refine Z.iload_n dX5_lookFrom_11 3 rfl ?_
  refine wE H (fun M3 eM3 H => ?_)
  refine Z.put (ty := .int) (M' := M3) dX5_lookFrom_12 inX5 tyX5_ok nmX5 (hc := rfl) (by decide) c5 17 (by decide) kw696 rfl rfl (by decide +kernel) rfl rfl (Nat.le_of_ble_eq_true rfl) (by rw [← eM3, c5, sI_k]; exact congrArg (fun q => Sum.inr (5, q)) u5_toward) (by rw [← eM3]; exact sI_o) (by rw [← eM3]; exact (fun q => q)) ?_
  refine Z.aload_n dX5_lookFrom_15 0 rfl ?_
  refine Z.iload dX5_lookFrom_16 4 rfl ?_
  refine wE H (fun M4 eM4 H => ?_)
  refine Z.put (ty := .int) (M' := M4) dX5_lookFrom_18 inX5 tyX5_ok nmX5 (hc := rfl) (by decide) c5 18 (by decide) kw697 rfl rfl (by decide +kernel) rfl rfl (Nat.le_of_ble_eq_true rfl) (by rw [← eM4, c5, sI_k]; exact congrArg (fun q => Sum.inr (5, q)) u5_second) (by rw [← eM4]; exact sI_o) (by rw [← eM4]; exact (fun q => q)) ?_
  exact Z.vret rfl dX5_lookFrom_21 (retV H)
theorem kX5_lookFrom {l : Launch} {E : Env5}   (x1 : Int32) (x2 : Int32) (x3 : Int32) (x4 : Int32) (M : Mem) {M9 : Mem} (H : fX5_lookFrom x1 x2 x3 x4 M = some M9) : Cn l E yX5_lookFrom cX5_lookFrom 5 none 0 [.ref (eA E (42)), .int (x1), .int (x2), .int (x3), .int (x4)] M (PR none M9) := Cn.ofZ rfl (Nat.le_of_ble_eq_true rfl) rfl (tX5_lookFrom_0  x1 x2 x3 x4 M H)
theorem hdX5_lookFrom : yX5_lookFrom.cls ≠ "java/lang/invoke/MethodHandle" ∧ yX5_lookFrom.cls ≠ "java/lang/invoke/VarHandle" ∧ (parseMethodDescriptor yX5_lookFrom.desc).map (fun d => d.parameters.length) = some 4 := by decide +kernel

set_option maxRecDepth 100000 in
theorem tX5_lookAs_0 {l : Launch} {E : Env5}    (x1 : Int32) (x2 : Int32) (M : Mem) {M9 : Mem}  (H : fX5_lookAs  x1 x2 M = some M9) : Z l E RX5 cX5_lookAs 3 none 1 0 [(0, .ref (eA E (42))), (1, .int (x1)), (2, .int (x2))] [] M (PR none M9) := by
  unfold fX5_lookAs at H
  refine Z.aload_n dX5_lookAs_0 0 rfl ?_
  refine Z.aload_n dX5_lookAs_1 0 rfl ?_
  refine Z.get dX5_lookAs_2 inX5 (hc := rfl) (by decide) c5 9 (by decide) kw688 rfl rfl ?_
  refine Z.iconst (v := 5) dX5_lookAs_5 (by decide) ?_
  refine Z.iload_n dX5_lookAs_6 1 rfl ?_
  refine Z.imul dX5_lookAs_7 ?_
  refine Z.ialdH dX5_lookAs_8 a5_picture H (fun v1 H => ?_)
  refine Z.aload_n dX5_lookAs_9 0 rfl ?_
  refine Z.get dX5_lookAs_10 inX5 (hc := rfl) (by decide) c5 9 (by decide) kw688 rfl rfl ?_
  refine Z.iconst (v := 5) dX5_lookAs_13 (by decide) ?_
  refine Z.iload_n dX5_lookAs_14 1 rfl ?_
  refine Z.imul dX5_lookAs_15 ?_
  refine Z.iconst (v := 1) dX5_lookAs_16 (by decide) ?_
  refine Z.iadd dX5_lookAs_17 ?_
  refine Z.ialdH dX5_lookAs_18 a5_picture H (fun v2 H => ?_)
  refine Z.aload_n dX5_lookAs_19 0 rfl ?_
  refine Z.get dX5_lookAs_20 inX5 (hc := rfl) (by decide) c5 9 (by decide) kw688 rfl rfl ?_
  refine Z.iconst (v := 5) dX5_lookAs_23 (by decide) ?_
  refine Z.iload_n dX5_lookAs_24 1 rfl ?_
  refine Z.imul dX5_lookAs_25 ?_
  refine Z.iconst (v := 2) dX5_lookAs_26 (by decide) ?_
  refine Z.iadd dX5_lookAs_27 ?_
  refine Z.ialdH dX5_lookAs_28 a5_picture H (fun v3 H => ?_)
  refine Z.iload_n dX5_lookAs_29 2 rfl ?_
  refine bindC H (fun v4 hv4 H => ?_)
  refine Z.callV (As := [.int (v1), .int (v2), .int (v3), .int (x2)]) (rest := []) (st' := []) dX5_lookAs_30 (kX5_lookFrom  (v1) (v2) (v3) (x2) M hv4) kw896 kw898 ks45 kw7 kw899 hdX5_lookFrom (by decide) c5 (hc := rfl) (by decide) (by decide) rfl rfl (Nat.le_of_ble_eq_true rfl) rfl ?_
  exact Z.vret rfl dX5_lookAs_33 (retV H)
theorem kX5_lookAs {l : Launch} {E : Env5}   (x1 : Int32) (x2 : Int32) (M : Mem) {M9 : Mem} (H : fX5_lookAs x1 x2 M = some M9) : Cn l E yX5_lookAs cX5_lookAs 3 none 1 [.ref (eA E (42)), .int (x1), .int (x2)] M (PR none M9) := Cn.ofZ rfl (Nat.le_of_ble_eq_true rfl) rfl (tX5_lookAs_0  x1 x2 M H)
theorem hdX5_lookAs : yX5_lookAs.cls ≠ "java/lang/invoke/MethodHandle" ∧ yX5_lookAs.cls ≠ "java/lang/invoke/VarHandle" ∧ (parseMethodDescriptor yX5_lookAs.desc).map (fun d => d.parameters.length) = some 2 := by decide +kernel

set_option maxRecDepth 100000 in
theorem tX5_shown_70 {l : Launch} {E : Env5}   {k4 : Int32 → Int32 → Int32 → Option Int32} {k15 : Int32 → Int32 → Int32 → Int32 → Option Int32} (x1 : Int32) (x3 : Int32) (x4 : Int32) (s0 : Int32) (s1 : Int32) (M : Mem) {v9 : Int32} (hk4 : ∀ (x1 : Int32) (x2 : Int32) (x3 : Int32), k4 x1 x2 x3 = some v9 → Z l E RX5 cX5_shown 6 (some .int) 6 4 [(0, .ref (eA E (42))), (1, .int (x1)), (2, .int (x2)), (3, .int (x3))] [] M (PR (some (.int v9)) M)) (hk15 : ∀ (x1 : Int32) (x2 : Int32) (x3 : Int32) (x4 : Int32), k15 x1 x2 x3 x4 = some v9 → Z l E RX5 cX5_shown 6 (some .int) 6 15 [(0, .ref (eA E (42))), (1, .int (x1)), (2, .int (x2)), (3, .int (x3)), (4, .int (x4))] [] M (PR (some (.int v9)) M)) (H : fX5_shown_70 k4 k15 x1 x3 x4 s0 s1 M = some v9) : Z l E RX5 cX5_shown 6 (some .int) 6 70 [(0, .ref (eA E (42))), (1, .int (x1)), (3, .int (x3)), (4, .int (x4))] [.int (s0), .int (s1)] M (PR (some (.int v9)) M) := by
  unfold fX5_shown_70 at H
  refine Z.ior dX5_shown_70 ?_
  refine Z.istore_n (lv' := [(2, .int (s1 ||| s0)), (0, .ref (eA E (42))), (1, .int (x1)), (3, .int (x3)), (4, .int (x4))]) dX5_shown_71 (by decide) rfl ?_
  refine Z.iinc (v := x4 + 1) (lv' := [(4, .int (x4 + 1)), (2, .int (s1 ||| s0)), (0, .ref (eA E (42))), (1, .int (x1)), (3, .int (x3))]) dX5_shown_72 4 rfl rfl (by decide) rfl ?_
  refine Z.goto dX5_shown_75 ?_
  refine Z.sub [2, 3, 1, 4, 0] rfl ?_
  exact hk15 (x1) (s1 ||| s0) (x3) (x4 + 1) H
set_option maxRecDepth 100000 in
theorem tX5_shown_69 {l : Launch} {E : Env5}   {k4 : Int32 → Int32 → Int32 → Option Int32} {k15 : Int32 → Int32 → Int32 → Int32 → Option Int32} (x1 : Int32) (x3 : Int32) (x4 : Int32) (s0 : Int32) (M : Mem) {v9 : Int32} (hk4 : ∀ (x1 : Int32) (x2 : Int32) (x3 : Int32), k4 x1 x2 x3 = some v9 → Z l E RX5 cX5_shown 6 (some .int) 6 4 [(0, .ref (eA E (42))), (1, .int (x1)), (2, .int (x2)), (3, .int (x3))] [] M (PR (some (.int v9)) M)) (hk15 : ∀ (x1 : Int32) (x2 : Int32) (x3 : Int32) (x4 : Int32), k15 x1 x2 x3 x4 = some v9 → Z l E RX5 cX5_shown 6 (some .int) 6 15 [(0, .ref (eA E (42))), (1, .int (x1)), (2, .int (x2)), (3, .int (x3)), (4, .int (x4))] [] M (PR (some (.int v9)) M)) (H : fX5_shown_69 k4 k15 x1 x3 x4 s0 M = some v9) : Z l E RX5 cX5_shown 6 (some .int) 6 69 [(0, .ref (eA E (42))), (1, .int (x1)), (3, .int (x3)), (4, .int (x4))] [.int (s0)] M (PR (some (.int v9)) M) := by
  unfold fX5_shown_69 at H
  refine Z.iconst (v := 0) dX5_shown_69 (by decide) ?_
  refine Z.sub [0, 1, 2, 3] rfl ?_
  exact tX5_shown_70  (x1) (x3) (x4) (0) (s0) M hk4 hk15 H
set_option maxRecDepth 100000 in
theorem tX5_shown_15 {l : Launch} {E : Env5}   {k4 : Int32 → Int32 → Int32 → Option Int32} {k15 : Int32 → Int32 → Int32 → Int32 → Option Int32} (x1 : Int32) (x2 : Int32) (x3 : Int32) (x4 : Int32) (M : Mem) {v9 : Int32} (hk4 : ∀ (x1 : Int32) (x2 : Int32) (x3 : Int32), k4 x1 x2 x3 = some v9 → Z l E RX5 cX5_shown 6 (some .int) 6 4 [(0, .ref (eA E (42))), (1, .int (x1)), (2, .int (x2)), (3, .int (x3))] [] M (PR (some (.int v9)) M)) (hk15 : ∀ (x1 : Int32) (x2 : Int32) (x3 : Int32) (x4 : Int32), k15 x1 x2 x3 x4 = some v9 → Z l E RX5 cX5_shown 6 (some .int) 6 15 [(0, .ref (eA E (42))), (1, .int (x1)), (2, .int (x2)), (3, .int (x3)), (4, .int (x4))] [] M (PR (some (.int v9)) M)) (H : fX5_shown_15B k4 k15 x1 x2 x3 x4 M = some v9) : Z l E RX5 cX5_shown 6 (some .int) 6 15 [(0, .ref (eA E (42))), (1, .int (x1)), (2, .int (x2)), (3, .int (x3)), (4, .int (x4))] [] M (PR (some (.int v9)) M) := by
  unfold fX5_shown_15B at H
  refine Z.iload dX5_shown_15 4 rfl ?_
  refine Z.iload_n dX5_shown_17 3 rfl ?_
  refine Z.iconst (v := 2) dX5_shown_18 (by decide) ?_
  refine Z.idiv dX5_shown_19 (by decide) ?_
  refine Z.icmp_gtH dX5_shown_20 H (fun br20 H => ?_) (fun br20 H => ?_)
  · refine Z.iinc (v := x3 + 1) (lv' := [(3, .int (x3 + 1)), (0, .ref (eA E (42))), (1, .int (x1)), (2, .int (x2)), (4, .int (x4))]) dX5_shown_78 3 rfl rfl (by decide) rfl ?_
    refine Z.goto dX5_shown_81 ?_
    refine Z.sub [1, 2, 3, 0] rfl ?_
    exact hk4 (x1) (x2) (x3 + 1) H
  · refine Z.aload_n dX5_shown_23 0 rfl ?_
    refine Z.aload_n dX5_shown_24 0 rfl ?_
    refine Z.iload_n dX5_shown_25 3 rfl ?_
    refine Z.iload dX5_shown_26 4 rfl ?_
    refine bindC H (fun v1 hv1 H => ?_)
    refine Z.callV (As := [.int (x3), .int (x4)]) (rest := [.ref (eA E (42))]) (st' := [.int (v1), .ref (eA E (42))]) dX5_shown_28 (kX5_xAt  (x3) (x4) M hv1) kw904 kw906 ks47 kw7 kw907 hdX5_xAt (by decide) c5 (hc := rfl) (by decide) (by decide) rfl rfl (Nat.le_of_ble_eq_true rfl) rfl ?_
    refine Z.aload_n dX5_shown_31 0 rfl ?_
    refine Z.iload_n dX5_shown_32 3 rfl ?_
    refine Z.iload dX5_shown_33 4 rfl ?_
    refine bindC H (fun v2 hv2 H => ?_)
    refine Z.callV (As := [.int (x3), .int (x4)]) (rest := [.int (v1), .ref (eA E (42))]) (st' := [.int (v2), .int (v1), .ref (eA E (42))]) dX5_shown_35 (kX5_yAt  (x3) (x4) M hv2) kw908 kw910 ks48 kw7 kw911 hdX5_yAt (by decide) c5 (hc := rfl) (by decide) (by decide) rfl rfl (Nat.le_of_ble_eq_true rfl) rfl ?_
    refine Z.aload_n dX5_shown_38 0 rfl ?_
    refine Z.get dX5_shown_39 inX5 (hc := rfl) (by decide) c5 18 (by decide) kw697 rfl rfl ?_
    refine bindC H (fun v3 hv3 H => ?_)
    refine Z.callV (As := [.int (v1), .int (v2), .int (M.1 42 18)]) (rest := []) (st' := [.int (v3)]) dX5_shown_42 (kX5_thoseOn  (v1) (v2) (M.1 42 18) M hv3) kw880 kw882 ks42 kw7 kw883 hdX5_thoseOn (by decide) c5 (hc := rfl) (by decide) (by decide) rfl rfl (Nat.le_of_ble_eq_true rfl) rfl ?_
    refine Z.istore (lv' := [(5, .int (v3)), (0, .ref (eA E (42))), (1, .int (x1)), (2, .int (x2)), (3, .int (x3)), (4, .int (x4))]) dX5_shown_45 (by decide) rfl ?_
    refine Z.iload_n dX5_shown_47 3 rfl ?_
    refine Z.iload dX5_shown_48 0 rfl ?_
    refine Z.if_eqH dX5_shown_50 H (fun br50 H => ?_) (fun br50 H => ?_)
    · refine Z.sub [1, 2, 4, 5] rfl ?_
      exact tX5_shown_69  (x1) (x3) (x4) (x2) M hk4 hk15 H
    · refine Z.aload_n dX5_shown_53 1 rfl ?_
      refine Z.iload_n dX5_shown_54 4 rfl ?_
      refine Z.iload dX5_shown_55 5 rfl ?_
      refine bindC H (fun v4 hv4 H => ?_)
      refine Z.callV (As := [.int (x3), .int (x4)]) (rest := [.int (x2)]) (st' := [.int (v4), .int (x2)]) dX5_shown_57 (kX5_hides  (x3) (x4) M hv4) kw912 kw914 ks49 kw7 kw915 hdX5_hides (by decide) c5 (hc := rfl) (by decide) (by decide) rfl rfl (Nat.le_of_ble_eq_true rfl) rfl ?_
      refine Z.iconst (v := 1) dX5_shown_60 (by decide) ?_
      refine Z.icmp_neH dX5_shown_61 H (fun br61 H => ?_) (fun br61 H => ?_)
      · refine Z.sub [1, 2, 4, 5] rfl ?_
        exact tX5_shown_69  (x1) (x3) (x4) (x2) M hk4 hk15 H
      · refine Z.iload dX5_shown_64 0 rfl ?_
        refine Z.goto dX5_shown_66 ?_
        refine Z.sub [1, 2, 4, 5] rfl ?_
        exact tX5_shown_70  (x1) (x3) (x4) (v3) (x2) M hk4 hk15 H
theorem tX5_shown_15L {l : Launch} {E : Env5}   {k4 : Int32 → Int32 → Int32 → Option Int32} (M : Mem) {v9 : Int32} (hk4 : ∀ (x1 : Int32) (x2 : Int32) (x3 : Int32), k4 x1 x2 x3 = some v9 → Z l E RX5 cX5_shown 6 (some .int) 6 4 [(0, .ref (eA E (42))), (1, .int (x1)), (2, .int (x2)), (3, .int (x3))] [] M (PR (some (.int v9)) M)) : ∀ (n : Nat) (x1 : Int32) (x2 : Int32) (x3 : Int32) (x4 : Int32), fX5_shown_15L k4  M n x1 x2 x3 x4 = some v9 → Z l E RX5 cX5_shown 6 (some .int) 6 15 [(0, .ref (eA E (42))), (1, .int (x1)), (2, .int (x2)), (3, .int (x3)), (4, .int (x4))] [] M (PR (some (.int v9)) M) := by
  intro n
  induction n with
  | zero => intro x1 x2 x3 x4 H; exact absurd H (by simp [fX5_shown_15L])
  | succ n ih => intro x1 x2 x3 x4 H; exact tX5_shown_15  x1 x2 x3 x4 M hk4 (fun x1 x2 x3 x4 H => ih x1 x2 x3 x4 H) H
set_option maxRecDepth 100000 in
theorem tX5_shown_4 {l : Launch} {E : Env5}   {k4 : Int32 → Int32 → Int32 → Option Int32} (x1 : Int32) (x2 : Int32) (x3 : Int32) (M : Mem) {v9 : Int32} (hk4 : ∀ (x1 : Int32) (x2 : Int32) (x3 : Int32), k4 x1 x2 x3 = some v9 → Z l E RX5 cX5_shown 6 (some .int) 6 4 [(0, .ref (eA E (42))), (1, .int (x1)), (2, .int (x2)), (3, .int (x3))] [] M (PR (some (.int v9)) M)) (H : fX5_shown_4B k4 x1 x2 x3 M = some v9) : Z l E RX5 cX5_shown 6 (some .int) 6 4 [(0, .ref (eA E (42))), (1, .int (x1)), (2, .int (x2)), (3, .int (x3))] [] M (PR (some (.int v9)) M) := by
  unfold fX5_shown_4B at H
  refine Z.iload_n dX5_shown_4 3 rfl ?_
  refine Z.iload_n dX5_shown_5 1 rfl ?_
  refine Z.icmp_gtH dX5_shown_6 H (fun br6 H => ?_) (fun br6 H => ?_)
  · refine Z.iload_n dX5_shown_84 2 rfl ?_
    exact Z.iret rfl dX5_shown_85 (retR H)
  · refine Z.iload_n dX5_shown_9 3 rfl ?_
    refine Z.iconst (v := 2) dX5_shown_10 (by decide) ?_
    refine Z.idiv dX5_shown_11 (by decide) ?_
    refine Z.ineg dX5_shown_12 ?_
    refine Z.istore (lv' := [(4, .int (-(x3 / 2))), (0, .ref (eA E (42))), (1, .int (x1)), (2, .int (x2)), (3, .int (x3))]) dX5_shown_13 (by decide) rfl ?_
    refine Z.sub [1, 2, 3, 4, 0] rfl ?_
    exact tX5_shown_15L  M hk4 FU (x1) (x2) (x3) (-(x3 / 2)) H
theorem tX5_shown_4L {l : Launch} {E : Env5}    (M : Mem) {v9 : Int32}  : ∀ (n : Nat) (x1 : Int32) (x2 : Int32) (x3 : Int32), fX5_shown_4L   M n x1 x2 x3 = some v9 → Z l E RX5 cX5_shown 6 (some .int) 6 4 [(0, .ref (eA E (42))), (1, .int (x1)), (2, .int (x2)), (3, .int (x3))] [] M (PR (some (.int v9)) M) := by
  intro n
  induction n with
  | zero => intro x1 x2 x3 H; exact absurd H (by simp [fX5_shown_4L])
  | succ n ih => intro x1 x2 x3 H; exact tX5_shown_4  x1 x2 x3 M  (fun x1 x2 x3 H => ih x1 x2 x3 H) H
set_option maxRecDepth 100000 in
theorem tX5_shown_0 {l : Launch} {E : Env5}    (x1 : Int32) (M : Mem) {v9 : Int32}  (H : fX5_shown  x1 M = some v9) : Z l E RX5 cX5_shown 6 (some .int) 6 0 [(0, .ref (eA E (42))), (1, .int (x1))] [] M (PR (some (.int v9)) M) := by
  unfold fX5_shown at H
  refine Z.iconst (v := 0) dX5_shown_0 (by decide) ?_
  refine Z.istore_n (lv' := [(2, .int (0)), (0, .ref (eA E (42))), (1, .int (x1))]) dX5_shown_1 (by decide) rfl ?_
  refine Z.iconst (v := 1) dX5_shown_2 (by decide) ?_
  refine Z.istore_n (lv' := [(3, .int (1)), (2, .int (0)), (0, .ref (eA E (42))), (1, .int (x1))]) dX5_shown_3 (by decide) rfl ?_
  refine Z.sub [2, 3, 1, 0] rfl ?_
  exact tX5_shown_4L  M  FU (x1) (0) (1) H
theorem kX5_shown {l : Launch} {E : Env5}   (x1 : Int32) (M : Mem) {v9 : Int32} (H : fX5_shown x1 M = some v9) : Cn l E yX5_shown cX5_shown 6 (some .int) 6 [.ref (eA E (42)), .int (x1)] M (PR (some (.int v9)) M) := Cn.ofZ rfl (Nat.le_of_ble_eq_true rfl) rfl (tX5_shown_0  x1 M H)
theorem hdX5_shown : yX5_shown.cls ≠ "java/lang/invoke/MethodHandle" ∧ yX5_shown.cls ≠ "java/lang/invoke/VarHandle" ∧ (parseMethodDescriptor yX5_shown.desc).map (fun d => d.parameters.length) = some 1 := by decide +kernel

set_option maxRecDepth 100000 in
theorem tX5_showsOf_0 {l : Launch} {E : Env5}    (x1 : Int32) (M : Mem) {v9 : Int32} {M9 : Mem}  (H : fX5_showsOf  x1 M = some (v9, M9)) : Z l E RX5 cX5_showsOf 2 (some .int) 7 0 [(0, .ref (eA E (42))), (1, .int (x1))] [] M (PR (some (.int v9)) M9) := by
  unfold fX5_showsOf at H
  refine Z.aload_n dX5_showsOf_0 0 rfl ?_
  refine Z.iload_n dX5_showsOf_1 1 rfl ?_
  refine Z.aload_n dX5_showsOf_2 0 rfl ?_
  refine Z.get dX5_showsOf_3 inX5 (hc := rfl) (by decide) c5 9 (by decide) kw688 rfl rfl ?_
  refine Z.iconst (v := 5) dX5_showsOf_6 (by decide) ?_
  refine Z.iload_n dX5_showsOf_7 1 rfl ?_
  refine Z.imul dX5_showsOf_8 ?_
  refine Z.iconst (v := 4) dX5_showsOf_9 (by decide) ?_
  refine Z.iadd dX5_showsOf_10 ?_
  refine Z.ialdH dX5_showsOf_11 a5_picture H (fun v1 H => ?_)
  refine bindC H (fun v2 hv2 H => ?_)
  refine Z.callV (As := [.int (x1), .int (v1)]) (rest := []) (st' := []) dX5_showsOf_12 (kX5_lookAs  (x1) (v1) M hv2) kw892 kw894 ks44 kw7 kw895 hdX5_lookAs (by decide) c5 (hc := rfl) (by decide) (by decide) rfl rfl (Nat.le_of_ble_eq_true rfl) rfl ?_
  refine Z.aload_n dX5_showsOf_15 0 rfl ?_
  refine Z.aload_n dX5_showsOf_16 0 rfl ?_
  refine Z.get dX5_showsOf_17 inX5 (hc := rfl) (by decide) c5 9 (by decide) kw688 rfl rfl ?_
  refine Z.iconst (v := 5) dX5_showsOf_20 (by decide) ?_
  refine Z.iload_n dX5_showsOf_21 1 rfl ?_
  refine Z.imul dX5_showsOf_22 ?_
  refine Z.iconst (v := 3) dX5_showsOf_23 (by decide) ?_
  refine Z.iadd dX5_showsOf_24 ?_
  refine Z.ialdH dX5_showsOf_25 a5_picture H (fun v3 H => ?_)
  refine bindC H (fun v4 hv4 H => ?_)
  refine Z.callV (As := [.int (v3)]) (rest := []) (st' := [.int (v4)]) dX5_showsOf_26 (kX5_shown  (v3) v2 hv4) kw900 kw902 ks46 kw7 kw903 hdX5_shown (by decide) c5 (hc := rfl) (by decide) (by decide) rfl rfl (Nat.le_of_ble_eq_true rfl) rfl ?_
  exact Z.iret rfl dX5_showsOf_29 (retW H)
theorem kX5_showsOf {l : Launch} {E : Env5}   (x1 : Int32) (M : Mem) {v9 : Int32} {M9 : Mem} (H : fX5_showsOf x1 M = some (v9, M9)) : Cn l E yX5_showsOf cX5_showsOf 2 (some .int) 7 [.ref (eA E (42)), .int (x1)] M (PR (some (.int v9)) M9) := Cn.ofZ rfl (Nat.le_of_ble_eq_true rfl) rfl (tX5_showsOf_0  x1 M H)
theorem hdX5_showsOf : yX5_showsOf.cls ≠ "java/lang/invoke/MethodHandle" ∧ yX5_showsOf.cls ≠ "java/lang/invoke/VarHandle" ∧ (parseMethodDescriptor yX5_showsOf.desc).map (fun d => d.parameters.length) = some 1 := by decide +kernel

set_option maxRecDepth 100000 in
theorem tX5_shows_0 {l : Launch} {E : Env5}    (x1 : Int32) (M : Mem) {v9 : Int32} {M9 : Mem}  (H : fX5_shows  x1 M = some (v9, M9)) : Z l E RX5 cX5_shows 2 (some .int) 8 0 [(0, .ref (eA E (42))), (1, .int (x1))] [] M (PR (some (.int v9)) M9) := by
  unfold fX5_shows at H
  refine Z.aload_n dX5_shows_0 0 rfl ?_
  refine Z.iload_n dX5_shows_1 1 rfl ?_
  refine bindC H (fun v1 hv1 H => ?_)
  refine Z.callV (As := [.int (x1)]) (rest := []) (st' := [.int (v1)]) dX5_shows_2 (kX5_isPicture  (x1) M hv1) kw858 kw860 ks40 kw7 kw861 hdX5_isPicture (by decide) c5 (hc := rfl) (by decide) (by decide) rfl rfl (Nat.le_of_ble_eq_true rfl) rfl ?_
  refine Z.if_eqH dX5_shows_5 H (fun br5 H => ?_) (fun br5 H => ?_)
  · refine Z.iconst (v := (-1)) dX5_shows_16 (by decide) ?_
    exact Z.iret rfl dX5_shows_17 (retW H)
  · refine Z.aload_n dX5_shows_8 0 rfl ?_
    refine Z.iload_n dX5_shows_9 1 rfl ?_
    refine bindC H (fun v2 hv2 H => ?_)
    refine Z.callV (As := [.int (x1)]) (rest := []) (st' := [.int (v2.1)]) dX5_shows_10 (kX5_showsOf  (x1) M hv2) kw888 kw890 ks43 kw7 kw891 hdX5_showsOf (by decide) c5 (hc := rfl) (by decide) (by decide) rfl rfl (Nat.le_of_ble_eq_true rfl) rfl ?_
    refine Z.goto dX5_shows_13 ?_
    exact Z.iret rfl dX5_shows_17 (retW H)
theorem kX5_shows {l : Launch} {E : Env5}   (x1 : Int32) (M : Mem) {v9 : Int32} {M9 : Mem} (H : fX5_shows x1 M = some (v9, M9)) : Cn l E yX5_shows cX5_shows 2 (some .int) 8 [.ref (eA E (42)), .int (x1)] M (PR (some (.int v9)) M9) := Cn.ofZ rfl (Nat.le_of_ble_eq_true rfl) rfl (tX5_shows_0  x1 M H)
theorem hdX5_shows : yX5_shows.cls ≠ "java/lang/invoke/MethodHandle" ∧ yX5_shows.cls ≠ "java/lang/invoke/VarHandle" ∧ (parseMethodDescriptor yX5_shows.desc).map (fun d => d.parameters.length) = some 1 := by decide +kernel

set_option maxRecDepth 100000 in
theorem tX5_view_0 {l : Launch} {E : Env5}    (x1 : Int32) (x2 : Int32) (x3 : Int32) (x4 : Int32) (x5 : Int32) (M : Mem) {v9 : Int32} {M9 : Mem}  (H : fX5_view  x1 x2 x3 x4 x5 M = some (v9, M9)) : Z l E RX5 cX5_view 6 (some .int) 7 0 [(0, .ref (eA E (42))), (1, .int (x1)), (2, .int (x2)), (3, .int (x3)), (4, .int (x4)), (5, .int (x5))] [] M (PR (some (.int v9)) M9) := by
  unfold fX5_view at H
  refine Z.aload_n dX5_view_0 0 rfl ?_
  refine Z.iload_n dX5_view_1 1 rfl ?_
  refine Z.iload_n dX5_view_2 2 rfl ?_
  refine bindC H (fun v1 hv1 H => ?_)
  refine Z.callV (As := [.int (x1), .int (x2)]) (rest := []) (st' := [.int (v1)]) dX5_view_3 (kX5_isOn  (x1) (x2) M hv1) kw838 kw840 ks37 kw7 kw841 hdX5_isOn (by decide) c5 (hc := rfl) (by decide) (by decide) rfl rfl (Nat.le_of_ble_eq_true rfl) rfl ?_
  refine Z.if_eqH dX5_view_6 H (fun br6 H => ?_) (fun br6 H => ?_)
  · refine Z.iconst (v := (-1)) dX5_view_41 (by decide) ?_
    exact Z.iret rfl dX5_view_42 (retW H)
  · refine Z.iload_n dX5_view_9 3 rfl ?_
    refine Z.iconst (v := 0) dX5_view_10 (by decide) ?_
    refine Z.iconst (v := 3) dX5_view_11 (by decide) ?_
    refine bindC H (fun v2 hv2 H => ?_)
    refine Z.callS (As := [.int (x3), .int (0), .int (3)]) (rest := []) (st' := [.int (v2)]) dX5_view_12 (kX5_in  (x3) (0) (3) M hv2) kw798 kw799 kw7 kw800 hdX5_in (by decide) (by decide) rfl rfl (Nat.le_of_ble_eq_true rfl) rfl ?_
    refine Z.if_eqH dX5_view_15 H (fun br15 H => ?_) (fun br15 H => ?_)
    · refine Z.iconst (v := (-1)) dX5_view_41 (by decide) ?_
      exact Z.iret rfl dX5_view_42 (retW H)
    · refine Z.iload dX5_view_18 4 rfl ?_
      refine Z.iconst (v := 1) dX5_view_20 (by decide) ?_
      refine Z.bipush (v := 9) dX5_view_21 (by decide) ?_
      refine bindC H (fun v3 hv3 H => ?_)
      refine Z.callS (As := [.int (x4), .int (1), .int (9)]) (rest := []) (st' := [.int (v3)]) dX5_view_23 (kX5_in  (x4) (1) (9) M hv3) kw798 kw799 kw7 kw800 hdX5_in (by decide) (by decide) rfl rfl (Nat.le_of_ble_eq_true rfl) rfl ?_
      refine Z.if_eqH dX5_view_26 H (fun br26 H => ?_) (fun br26 H => ?_)
      · refine Z.iconst (v := (-1)) dX5_view_41 (by decide) ?_
        exact Z.iret rfl dX5_view_42 (retW H)
      · refine Z.iload dX5_view_29 5 rfl ?_
        refine Z.iconst (v := 0) dX5_view_31 (by decide) ?_
        refine Z.sipush (v := 199) dX5_view_32 (by decide) ?_
        refine bindC H (fun v4 hv4 H => ?_)
        refine Z.callS (As := [.int (x5), .int (0), .int (199)]) (rest := []) (st' := [.int (v4)]) dX5_view_35 (kX5_in  (x5) (0) (199) M hv4) kw798 kw799 kw7 kw800 hdX5_in (by decide) (by decide) rfl rfl (Nat.le_of_ble_eq_true rfl) rfl ?_
        refine Z.if_neH dX5_view_38 H (fun br38 H => ?_) (fun br38 H => ?_)
        · refine Z.aload_n dX5_view_43 0 rfl ?_
          refine Z.iload_n dX5_view_44 1 rfl ?_
          refine Z.iload_n dX5_view_45 2 rfl ?_
          refine Z.iload_n dX5_view_46 3 rfl ?_
          refine Z.iload dX5_view_47 5 rfl ?_
          refine bindC H (fun v5 hv5 H => ?_)
          refine Z.callV (As := [.int (x1), .int (x2), .int (x3), .int (x5)]) (rest := []) (st' := []) dX5_view_49 (kX5_lookFrom  (x1) (x2) (x3) (x5) M hv5) kw896 kw898 ks45 kw7 kw899 hdX5_lookFrom (by decide) c5 (hc := rfl) (by decide) (by decide) rfl rfl (Nat.le_of_ble_eq_true rfl) rfl ?_
          refine Z.aload_n dX5_view_52 0 rfl ?_
          refine Z.iload dX5_view_53 4 rfl ?_
          refine bindC H (fun v6 hv6 H => ?_)
          refine Z.callV (As := [.int (x4)]) (rest := []) (st' := [.int (v6)]) dX5_view_55 (kX5_shown  (x4) v5 hv6) kw900 kw902 ks46 kw7 kw903 hdX5_shown (by decide) c5 (hc := rfl) (by decide) (by decide) rfl rfl (Nat.le_of_ble_eq_true rfl) rfl ?_
          exact Z.iret rfl dX5_view_58 (retW H)
        · refine Z.iconst (v := (-1)) dX5_view_41 (by decide) ?_
          exact Z.iret rfl dX5_view_42 (retW H)
theorem kX5_view {l : Launch} {E : Env5}   (x1 : Int32) (x2 : Int32) (x3 : Int32) (x4 : Int32) (x5 : Int32) (M : Mem) {v9 : Int32} {M9 : Mem} (H : fX5_view x1 x2 x3 x4 x5 M = some (v9, M9)) : Cn l E yX5_view cX5_view 6 (some .int) 7 [.ref (eA E (42)), .int (x1), .int (x2), .int (x3), .int (x4), .int (x5)] M (PR (some (.int v9)) M9) := Cn.ofZ rfl (Nat.le_of_ble_eq_true rfl) rfl (tX5_view_0  x1 x2 x3 x4 x5 M H)
theorem hdX5_view : yX5_view.cls ≠ "java/lang/invoke/MethodHandle" ∧ yX5_view.cls ≠ "java/lang/invoke/VarHandle" ∧ (parseMethodDescriptor yX5_view.desc).map (fun d => d.parameters.length) = some 5 := by decide +kernel

set_option maxRecDepth 100000 in
theorem tX5_aheadOf_13 {l : Launch} {E : Env5}   {k2 : Int32 → Int32 → Int32 → Mem → Option (Int32 × Mem)} {k13 : Int32 → Int32 → Int32 → Int32 → Mem → Option (Int32 × Mem)} (x1 : Int32) (x2 : Int32) (x3 : Int32) (x4 : Int32) (M : Mem) {v9 : Int32} {M9 : Mem} (hk2 : ∀ (x1 : Int32) (x2 : Int32) (x3 : Int32) (M : Mem), k2 x1 x2 x3 M = some (v9, M9) → Z l E RX5 cX5_aheadOf 5 (some .int) 5 2 [(0, .ref (eA E (42))), (1, .int (x1)), (2, .int (x2)), (3, .int (x3))] [] M (PR (some (.int v9)) M9)) (hk13 : ∀ (x1 : Int32) (x2 : Int32) (x3 : Int32) (x4 : Int32) (M : Mem), k13 x1 x2 x3 x4 M = some (v9, M9) → Z l E RX5 cX5_aheadOf 5 (some .int) 5 13 [(0, .ref (eA E (42))), (1, .int (x1)), (2, .int (x2)), (3, .int (x3)), (4, .int (x4))] [] M (PR (some (.int v9)) M9)) (H : fX5_aheadOf_13B k2 k13 x1 x2 x3 x4 M = some (v9, M9)) : Z l E RX5 cX5_aheadOf 5 (some .int) 5 13 [(0, .ref (eA E (42))), (1, .int (x1)), (2, .int (x2)), (3, .int (x3)), (4, .int (x4))] [] M (PR (some (.int v9)) M9) := by
  unfold fX5_aheadOf_13B at H
  refine Z.iload dX5_aheadOf_13 4 rfl ?_
  refine Z.iload_n dX5_aheadOf_15 3 rfl ?_
  refine Z.iconst (v := 2) dX5_aheadOf_16 (by decide) ?_
  refine Z.idiv dX5_aheadOf_17 (by decide) ?_
  refine Z.icmp_gtH dX5_aheadOf_18 H (fun br18 H => ?_) (fun br18 H => ?_)
  · refine Z.iinc (v := x3 + 1) (lv' := [(3, .int (x3 + 1)), (0, .ref (eA E (42))), (1, .int (x1)), (2, .int (x2)), (4, .int (x4))]) dX5_aheadOf_65 3 rfl rfl (by decide) rfl ?_
    refine Z.goto dX5_aheadOf_68 ?_
    refine Z.sub [1, 2, 3, 0] rfl ?_
    exact hk2 (x1) (x2) (x3 + 1) M  H
  · refine Z.aload_n dX5_aheadOf_21 0 rfl ?_
    refine Z.aload_n dX5_aheadOf_22 0 rfl ?_
    refine Z.iload_n dX5_aheadOf_23 3 rfl ?_
    refine Z.iload dX5_aheadOf_24 4 rfl ?_
    refine bindC H (fun v1 hv1 H => ?_)
    refine Z.callV (As := [.int (x3), .int (x4)]) (rest := [.ref (eA E (42))]) (st' := [.int (v1), .ref (eA E (42))]) dX5_aheadOf_26 (kX5_xAt  (x3) (x4) M hv1) kw904 kw906 ks47 kw7 kw907 hdX5_xAt (by decide) c5 (hc := rfl) (by decide) (by decide) rfl rfl (Nat.le_of_ble_eq_true rfl) rfl ?_
    refine Z.aload_n dX5_aheadOf_29 0 rfl ?_
    refine Z.iload_n dX5_aheadOf_30 3 rfl ?_
    refine Z.iload dX5_aheadOf_31 4 rfl ?_
    refine bindC H (fun v2 hv2 H => ?_)
    refine Z.callV (As := [.int (x3), .int (x4)]) (rest := [.int (v1), .ref (eA E (42))]) (st' := [.int (v2), .int (v1), .ref (eA E (42))]) dX5_aheadOf_33 (kX5_yAt  (x3) (x4) M hv2) kw908 kw910 ks48 kw7 kw911 hdX5_yAt (by decide) c5 (hc := rfl) (by decide) (by decide) rfl rfl (Nat.le_of_ble_eq_true rfl) rfl ?_
    refine Z.aload_n dX5_aheadOf_36 0 rfl ?_
    refine Z.get dX5_aheadOf_37 inX5 (hc := rfl) (by decide) c5 18 (by decide) kw697 rfl rfl ?_
    refine bindC H (fun v3 hv3 H => ?_)
    refine Z.callV (As := [.int (v1), .int (v2), .int (M.1 42 18)]) (rest := []) (st' := [.int (v3)]) dX5_aheadOf_40 (kX5_thoseOn  (v1) (v2) (M.1 42 18) M hv3) kw880 kw882 ks42 kw7 kw883 hdX5_thoseOn (by decide) c5 (hc := rfl) (by decide) (by decide) rfl rfl (Nat.le_of_ble_eq_true rfl) rfl ?_
    refine Z.iload_n dX5_aheadOf_43 1 rfl ?_
    refine Z.ishr dX5_aheadOf_44 ?_
    refine Z.iconst (v := 1) dX5_aheadOf_45 (by decide) ?_
    refine Z.iand dX5_aheadOf_46 ?_
    refine Z.iconst (v := 1) dX5_aheadOf_47 (by decide) ?_
    refine Z.icmp_neH dX5_aheadOf_48 H (fun br48 H => ?_) (fun br48 H => ?_)
    · refine Z.iinc (v := x4 + 1) (lv' := [(4, .int (x4 + 1)), (0, .ref (eA E (42))), (1, .int (x1)), (2, .int (x2)), (3, .int (x3))]) dX5_aheadOf_59 4 rfl rfl (by decide) rfl ?_
      refine Z.goto dX5_aheadOf_62 ?_
      refine Z.sub [1, 2, 3, 4, 0] rfl ?_
      exact hk13 (x1) (x2) (x3) (x4 + 1) M  H
    · refine Z.aload_n dX5_aheadOf_51 0 rfl ?_
      refine Z.iload dX5_aheadOf_52 4 rfl ?_
      refine wE H (fun M4 eM4 H => ?_)
      refine Z.put (ty := .int) (M' := M4) dX5_aheadOf_54 inX5 tyX5_ok nmX5 (hc := rfl) (by decide) c5 19 (by decide) kw698 rfl rfl (by decide +kernel) rfl rfl (Nat.le_of_ble_eq_true rfl) (by rw [← eM4, c5, sI_k]; exact congrArg (fun q => Sum.inr (5, q)) u5_sideNow) (by rw [← eM4]; exact sI_o) (by rw [← eM4]; exact (fun q => q)) ?_
      refine Z.iload_n dX5_aheadOf_57 3 rfl ?_
      exact Z.iret rfl dX5_aheadOf_58 (retW H)
theorem tX5_aheadOf_13L {l : Launch} {E : Env5}   {k2 : Int32 → Int32 → Int32 → Mem → Option (Int32 × Mem)}  {v9 : Int32} {M9 : Mem} (hk2 : ∀ (x1 : Int32) (x2 : Int32) (x3 : Int32) (M : Mem), k2 x1 x2 x3 M = some (v9, M9) → Z l E RX5 cX5_aheadOf 5 (some .int) 5 2 [(0, .ref (eA E (42))), (1, .int (x1)), (2, .int (x2)), (3, .int (x3))] [] M (PR (some (.int v9)) M9)) : ∀ (n : Nat) (x1 : Int32) (x2 : Int32) (x3 : Int32) (x4 : Int32) (M : Mem), fX5_aheadOf_13L k2  n x1 x2 x3 x4 M = some (v9, M9) → Z l E RX5 cX5_aheadOf 5 (some .int) 5 13 [(0, .ref (eA E (42))), (1, .int (x1)), (2, .int (x2)), (3, .int (x3)), (4, .int (x4))] [] M (PR (some (.int v9)) M9) := by
  intro n
  induction n with
  | zero => intro x1 x2 x3 x4 M H; exact absurd H (by simp [fX5_aheadOf_13L])
  | succ n ih => intro x1 x2 x3 x4 M H; exact tX5_aheadOf_13  x1 x2 x3 x4 M hk2 (fun x1 x2 x3 x4 M H => ih x1 x2 x3 x4 M H) H
set_option maxRecDepth 100000 in
theorem tX5_aheadOf_2 {l : Launch} {E : Env5}   {k2 : Int32 → Int32 → Int32 → Mem → Option (Int32 × Mem)} (x1 : Int32) (x2 : Int32) (x3 : Int32) (M : Mem) {v9 : Int32} {M9 : Mem} (hk2 : ∀ (x1 : Int32) (x2 : Int32) (x3 : Int32) (M : Mem), k2 x1 x2 x3 M = some (v9, M9) → Z l E RX5 cX5_aheadOf 5 (some .int) 5 2 [(0, .ref (eA E (42))), (1, .int (x1)), (2, .int (x2)), (3, .int (x3))] [] M (PR (some (.int v9)) M9)) (H : fX5_aheadOf_2B k2 x1 x2 x3 M = some (v9, M9)) : Z l E RX5 cX5_aheadOf 5 (some .int) 5 2 [(0, .ref (eA E (42))), (1, .int (x1)), (2, .int (x2)), (3, .int (x3))] [] M (PR (some (.int v9)) M9) := by
  unfold fX5_aheadOf_2B at H
  refine Z.iload_n dX5_aheadOf_2 3 rfl ?_
  refine Z.iload_n dX5_aheadOf_3 2 rfl ?_
  refine Z.icmp_gtH dX5_aheadOf_4 H (fun br4 H => ?_) (fun br4 H => ?_)
  · refine Z.iconst (v := 0) dX5_aheadOf_71 (by decide) ?_
    exact Z.iret rfl dX5_aheadOf_72 (retW H)
  · refine Z.iload_n dX5_aheadOf_7 3 rfl ?_
    refine Z.iconst (v := 2) dX5_aheadOf_8 (by decide) ?_
    refine Z.idiv dX5_aheadOf_9 (by decide) ?_
    refine Z.ineg dX5_aheadOf_10 ?_
    refine Z.istore (lv' := [(4, .int (-(x3 / 2))), (0, .ref (eA E (42))), (1, .int (x1)), (2, .int (x2)), (3, .int (x3))]) dX5_aheadOf_11 (by decide) rfl ?_
    refine Z.sub [1, 2, 3, 4, 0] rfl ?_
    exact tX5_aheadOf_13L  hk2 FU (x1) (x2) (x3) (-(x3 / 2)) M H
theorem tX5_aheadOf_2L {l : Launch} {E : Env5}     {v9 : Int32} {M9 : Mem}  : ∀ (n : Nat) (x1 : Int32) (x2 : Int32) (x3 : Int32) (M : Mem), fX5_aheadOf_2L   n x1 x2 x3 M = some (v9, M9) → Z l E RX5 cX5_aheadOf 5 (some .int) 5 2 [(0, .ref (eA E (42))), (1, .int (x1)), (2, .int (x2)), (3, .int (x3))] [] M (PR (some (.int v9)) M9) := by
  intro n
  induction n with
  | zero => intro x1 x2 x3 M H; exact absurd H (by simp [fX5_aheadOf_2L])
  | succ n ih => intro x1 x2 x3 M H; exact tX5_aheadOf_2  x1 x2 x3 M  (fun x1 x2 x3 M H => ih x1 x2 x3 M H) H
set_option maxRecDepth 100000 in
theorem tX5_aheadOf_0 {l : Launch} {E : Env5}    (x1 : Int32) (x2 : Int32) (M : Mem) {v9 : Int32} {M9 : Mem}  (H : fX5_aheadOf  x1 x2 M = some (v9, M9)) : Z l E RX5 cX5_aheadOf 5 (some .int) 5 0 [(0, .ref (eA E (42))), (1, .int (x1)), (2, .int (x2))] [] M (PR (some (.int v9)) M9) := by
  unfold fX5_aheadOf at H
  refine Z.iconst (v := 1) dX5_aheadOf_0 (by decide) ?_
  refine Z.istore_n (lv' := [(3, .int (1)), (0, .ref (eA E (42))), (1, .int (x1)), (2, .int (x2))]) dX5_aheadOf_1 (by decide) rfl ?_
  refine Z.sub [1, 2, 3, 0] rfl ?_
  exact tX5_aheadOf_2L   FU (x1) (x2) (1) M H
theorem kX5_aheadOf {l : Launch} {E : Env5}   (x1 : Int32) (x2 : Int32) (M : Mem) {v9 : Int32} {M9 : Mem} (H : fX5_aheadOf x1 x2 M = some (v9, M9)) : Cn l E yX5_aheadOf cX5_aheadOf 5 (some .int) 5 [.ref (eA E (42)), .int (x1), .int (x2)] M (PR (some (.int v9)) M9) := Cn.ofZ rfl (Nat.le_of_ble_eq_true rfl) rfl (tX5_aheadOf_0  x1 x2 M H)
theorem hdX5_aheadOf : yX5_aheadOf.cls ≠ "java/lang/invoke/MethodHandle" ∧ yX5_aheadOf.cls ≠ "java/lang/invoke/VarHandle" ∧ (parseMethodDescriptor yX5_aheadOf.desc).map (fun d => d.parameters.length) = some 2 := by decide +kernel

set_option maxRecDepth 100000 in
theorem tX5_hidden_0 {l : Launch} {E : Env5}    (x1 : Int32) (x2 : Int32) (M : Mem) {v9 : Int32} {M9 : Mem}  (H : fX5_hidden  x1 x2 M = some (v9, M9)) : Z l E RX5 cX5_hidden 4 (some .int) 6 0 [(0, .ref (eA E (42))), (1, .int (x1)), (2, .int (x2))] [] M (PR (some (.int v9)) M9) := by
  unfold fX5_hidden at H
  refine Z.aload_n dX5_hidden_0 0 rfl ?_
  refine Z.iload_n dX5_hidden_1 1 rfl ?_
  refine bindC H (fun v1 hv1 H => ?_)
  refine Z.callV (As := [.int (x1)]) (rest := []) (st' := [.int (v1)]) dX5_hidden_2 (kX5_isPicture  (x1) M hv1) kw858 kw860 ks40 kw7 kw861 hdX5_isPicture (by decide) c5 (hc := rfl) (by decide) (by decide) rfl rfl (Nat.le_of_ble_eq_true rfl) rfl ?_
  refine Z.if_eqH dX5_hidden_5 H (fun br5 H => ?_) (fun br5 H => ?_)
  · refine Z.iconst (v := (-1)) dX5_hidden_16 (by decide) ?_
    exact Z.iret rfl dX5_hidden_17 (retW H)
  · refine Z.aload_n dX5_hidden_8 0 rfl ?_
    refine Z.iload_n dX5_hidden_9 2 rfl ?_
    refine bindC H (fun v2 hv2 H => ?_)
    refine Z.callV (As := [.int (x2)]) (rest := []) (st' := [.int (v2)]) dX5_hidden_10 (kX5_isPerson  (x2) M hv2) kw850 kw852 ks39 kw7 kw853 hdX5_isPerson (by decide) c5 (hc := rfl) (by decide) (by decide) rfl rfl (Nat.le_of_ble_eq_true rfl) rfl ?_
    refine Z.if_neH dX5_hidden_13 H (fun br13 H => ?_) (fun br13 H => ?_)
    · refine Z.aload_n dX5_hidden_18 0 rfl ?_
      refine Z.iload_n dX5_hidden_19 1 rfl ?_
      refine Z.aload_n dX5_hidden_20 0 rfl ?_
      refine Z.get dX5_hidden_21 inX5 (hc := rfl) (by decide) c5 9 (by decide) kw688 rfl rfl ?_
      refine Z.iconst (v := 5) dX5_hidden_24 (by decide) ?_
      refine Z.iload_n dX5_hidden_25 1 rfl ?_
      refine Z.imul dX5_hidden_26 ?_
      refine Z.iconst (v := 4) dX5_hidden_27 (by decide) ?_
      refine Z.iadd dX5_hidden_28 ?_
      refine Z.ialdH dX5_hidden_29 a5_picture H (fun v3 H => ?_)
      refine bindC H (fun v4 hv4 H => ?_)
      refine Z.callV (As := [.int (x1), .int (v3)]) (rest := []) (st' := []) dX5_hidden_30 (kX5_lookAs  (x1) (v3) M hv4) kw892 kw894 ks44 kw7 kw895 hdX5_lookAs (by decide) c5 (hc := rfl) (by decide) (by decide) rfl rfl (Nat.le_of_ble_eq_true rfl) rfl ?_
      refine Z.aload_n dX5_hidden_33 0 rfl ?_
      refine Z.iload_n dX5_hidden_34 2 rfl ?_
      refine Z.aload_n dX5_hidden_35 0 rfl ?_
      refine Z.get dX5_hidden_36 inX5 (hc := rfl) (by decide) c5 9 (by decide) kw688 rfl rfl ?_
      refine Z.iconst (v := 5) dX5_hidden_39 (by decide) ?_
      refine Z.iload_n dX5_hidden_40 1 rfl ?_
      refine Z.imul dX5_hidden_41 ?_
      refine Z.iconst (v := 3) dX5_hidden_42 (by decide) ?_
      refine Z.iadd dX5_hidden_43 ?_
      refine Z.ialdH dX5_hidden_44 a5_picture H (fun v5 H => ?_)
      refine bindC H (fun v6 hv6 H => ?_)
      refine Z.callV (As := [.int (x2), .int (v5)]) (rest := []) (st' := [.int (v6.1)]) dX5_hidden_45 (kX5_aheadOf  (x2) (v5) v4 hv6) kw924 kw926 ks50 kw7 kw927 hdX5_aheadOf (by decide) c5 (hc := rfl) (by decide) (by decide) rfl rfl (Nat.le_of_ble_eq_true rfl) rfl ?_
      refine Z.istore_n (lv' := [(3, .int (v6.1)), (0, .ref (eA E (42))), (1, .int (x1)), (2, .int (x2))]) dX5_hidden_48 (by decide) rfl ?_
      refine Z.iload_n dX5_hidden_49 0 rfl ?_
      refine Z.if_neH dX5_hidden_50 H (fun br50 H => ?_) (fun br50 H => ?_)
      · refine Z.aload_n dX5_hidden_57 1 rfl ?_
        refine Z.iload_n dX5_hidden_58 0 rfl ?_
        refine Z.aload_n dX5_hidden_59 1 rfl ?_
        refine Z.get dX5_hidden_60 inX5 (hc := rfl) (by decide) c5 19 (by decide) kw698 rfl rfl ?_
        refine bindC H (fun v7 hv7 H => ?_)
        refine Z.callV (As := [.int (v6.1), .int (v6.2.1 42 19)]) (rest := []) (st' := [.int (v7)]) dX5_hidden_63 (kX5_hides  (v6.1) (v6.2.1 42 19) v6.2 hv7) kw912 kw914 ks49 kw7 kw915 hdX5_hides (by decide) c5 (hc := rfl) (by decide) (by decide) rfl rfl (Nat.le_of_ble_eq_true rfl) rfl ?_
        exact Z.iret rfl dX5_hidden_66 (retW H)
      · refine Z.iconst (v := 0) dX5_hidden_53 (by decide) ?_
        refine Z.goto dX5_hidden_54 ?_
        exact Z.iret rfl dX5_hidden_66 (retW H)
    · refine Z.iconst (v := (-1)) dX5_hidden_16 (by decide) ?_
      exact Z.iret rfl dX5_hidden_17 (retW H)
theorem kX5_hidden {l : Launch} {E : Env5}   (x1 : Int32) (x2 : Int32) (M : Mem) {v9 : Int32} {M9 : Mem} (H : fX5_hidden x1 x2 M = some (v9, M9)) : Cn l E yX5_hidden cX5_hidden 4 (some .int) 6 [.ref (eA E (42)), .int (x1), .int (x2)] M (PR (some (.int v9)) M9) := Cn.ofZ rfl (Nat.le_of_ble_eq_true rfl) rfl (tX5_hidden_0  x1 x2 M H)
theorem hdX5_hidden : yX5_hidden.cls ≠ "java/lang/invoke/MethodHandle" ∧ yX5_hidden.cls ≠ "java/lang/invoke/VarHandle" ∧ (parseMethodDescriptor yX5_hidden.desc).map (fun d => d.parameters.length) = some 2 := by decide +kernel

set_option maxRecDepth 100000 in
theorem tX5_isSet_0 {l : Launch} {E : Env5}    (x1 : Int32) (M : Mem) {v9 : Int32}  (H : fX5_isSet  x1 M = some v9) : Z l E RX5 cX5_isSet 2 (some .boolean) 1 0 [(0, .ref (eA E (42))), (1, .int (x1))] [] M (PR (some (.int v9)) M) := by
  unfold fX5_isSet at H
  refine Z.iload_n dX5_isSet_0 1 rfl ?_
  refine Z.iconst (v := 0) dX5_isSet_1 (by decide) ?_
  refine Z.iconst (v := 1) dX5_isSet_2 (by decide) ?_
  refine Z.aload_n dX5_isSet_3 0 rfl ?_
  refine Z.get dX5_isSet_4 inX5 (hc := rfl) (by decide) c5 6 (by decide) kw685 rfl rfl ?_
  refine Z.iconst (v := 0) dX5_isSet_7 (by decide) ?_
  refine Z.ialdH dX5_isSet_8 a5_people H (fun v1 H => ?_)
  refine Z.ishl dX5_isSet_9 ?_
  refine Z.iconst (v := 1) dX5_isSet_10 (by decide) ?_
  refine Z.isub dX5_isSet_11 ?_
  refine bindC H (fun v2 hv2 H => ?_)
  refine Z.callS (As := [.int (x1), .int (0), .int ((1 <<< (v1 &&& 31)) - 1)]) (rest := []) (st' := [.int (v2)]) dX5_isSet_12 (kX5_in  (x1) (0) ((1 <<< (v1 &&& 31)) - 1) M hv2) kw798 kw799 kw7 kw800 hdX5_in (by decide) (by decide) rfl rfl (Nat.le_of_ble_eq_true rfl) rfl ?_
  refine gBE H (fun gb H => ?_)
  exact Z.zret rfl gb dX5_isSet_15 (retR H)
theorem kX5_isSet {l : Launch} {E : Env5}   (x1 : Int32) (M : Mem) {v9 : Int32} (H : fX5_isSet x1 M = some v9) : Cn l E yX5_isSet cX5_isSet 2 (some .boolean) 1 [.ref (eA E (42)), .int (x1)] M (PR (some (.int v9)) M) := Cn.ofZ rfl (Nat.le_of_ble_eq_true rfl) rfl (tX5_isSet_0  x1 M H)
theorem hdX5_isSet : yX5_isSet.cls ≠ "java/lang/invoke/MethodHandle" ∧ yX5_isSet.cls ≠ "java/lang/invoke/VarHandle" ∧ (parseMethodDescriptor yX5_isSet.desc).map (fun d => d.parameters.length) = some 1 := by decide +kernel

set_option maxRecDepth 100000 in
theorem tX5_from_147 {l : Launch} {E : Env5}   {k51 : Int32 → Int32 → Int32 → Int32 → Int32 → Int32 → Int32 → Mem → Option (Int32 × Mem)} (x1 : Int32) (x2 : Int32) (x3 : Int32) (x4 : Int32) (x5 : Int32) (x6 : Int32) (x7 : Int32) (M : Mem) {v9 : Int32} {M9 : Mem} (hk51 : ∀ (x1 : Int32) (x2 : Int32) (x3 : Int32) (x4 : Int32) (x5 : Int32) (x6 : Int32) (x7 : Int32) (M : Mem), k51 x1 x2 x3 x4 x5 x6 x7 M = some (v9, M9) → Z l E RX5 cX5_from 10 (some .int) 7 51 [(0, .ref (eA E (42))), (1, .int (x1)), (2, .int (x2)), (3, .int (x3)), (4, .int (x4)), (5, .int (x5)), (6, .int (x6)), (7, .int (x7))] [] M (PR (some (.int v9)) M9)) (H : fX5_from_147 k51 x1 x2 x3 x4 x5 x6 x7 M = some (v9, M9)) : Z l E RX5 cX5_from 10 (some .int) 7 147 [(0, .ref (eA E (42))), (1, .int (x1)), (2, .int (x2)), (3, .int (x3)), (4, .int (x4)), (5, .int (x5)), (6, .int (x6)), (7, .int (x7))] [] M (PR (some (.int v9)) M9) := by
  unfold fX5_from_147 at H
  refine Z.iinc (v := x7 + 1) (lv' := [(7, .int (x7 + 1)), (0, .ref (eA E (42))), (1, .int (x1)), (2, .int (x2)), (3, .int (x3)), (4, .int (x4)), (5, .int (x5)), (6, .int (x6))]) dX5_from_147 7 rfl rfl (by decide) rfl ?_
  refine Z.goto dX5_from_150 ?_
  refine Z.sub [1, 2, 3, 4, 5, 6, 7, 0] rfl ?_
  exact hk51 (x1) (x2) (x3) (x4) (x5) (x6) (x7 + 1) M  H
set_option maxRecDepth 100000 in
theorem tX5_from_142 {l : Launch} {E : Env5}   {k51 : Int32 → Int32 → Int32 → Int32 → Int32 → Int32 → Int32 → Mem → Option (Int32 × Mem)} (x1 : Int32) (x2 : Int32) (x3 : Int32) (x4 : Int32) (x5 : Int32) (x7 : Int32) (s0 : Int32) (M : Mem) {v9 : Int32} {M9 : Mem} (hk51 : ∀ (x1 : Int32) (x2 : Int32) (x3 : Int32) (x4 : Int32) (x5 : Int32) (x6 : Int32) (x7 : Int32) (M : Mem), k51 x1 x2 x3 x4 x5 x6 x7 M = some (v9, M9) → Z l E RX5 cX5_from 10 (some .int) 7 51 [(0, .ref (eA E (42))), (1, .int (x1)), (2, .int (x2)), (3, .int (x3)), (4, .int (x4)), (5, .int (x5)), (6, .int (x6)), (7, .int (x7))] [] M (PR (some (.int v9)) M9)) (H : fX5_from_142 k51 x1 x2 x3 x4 x5 x7 s0 M = some (v9, M9)) : Z l E RX5 cX5_from 10 (some .int) 7 142 [(0, .ref (eA E (42))), (1, .int (x1)), (2, .int (x2)), (3, .int (x3)), (4, .int (x4)), (5, .int (x5)), (7, .int (x7))] [.int (s0)] M (PR (some (.int v9)) M9) := by
  unfold fX5_from_142 at H
  refine Z.istore (lv' := [(6, .int (s0)), (0, .ref (eA E (42))), (1, .int (x1)), (2, .int (x2)), (3, .int (x3)), (4, .int (x4)), (5, .int (x5)), (7, .int (x7))]) dX5_from_142 (by decide) rfl ?_
  refine Z.iinc (v := x5 + 1) (lv' := [(5, .int (x5 + 1)), (6, .int (s0)), (0, .ref (eA E (42))), (1, .int (x1)), (2, .int (x2)), (3, .int (x3)), (4, .int (x4)), (7, .int (x7))]) dX5_from_144 6 rfl rfl (by decide) rfl ?_
  refine Z.sub [2, 3, 4, 5, 6, 0, 1, 7] rfl ?_
  exact tX5_from_147  (x1) (x2) (x3) (x4) (x5 + 1) (s0) (x7) M hk51 H
set_option maxRecDepth 100000 in
theorem tX5_from_51 {l : Launch} {E : Env5}   {k51 : Int32 → Int32 → Int32 → Int32 → Int32 → Int32 → Int32 → Mem → Option (Int32 × Mem)} (x1 : Int32) (x2 : Int32) (x3 : Int32) (x4 : Int32) (x5 : Int32) (x6 : Int32) (x7 : Int32) (M : Mem) {v9 : Int32} {M9 : Mem} (hk51 : ∀ (x1 : Int32) (x2 : Int32) (x3 : Int32) (x4 : Int32) (x5 : Int32) (x6 : Int32) (x7 : Int32) (M : Mem), k51 x1 x2 x3 x4 x5 x6 x7 M = some (v9, M9) → Z l E RX5 cX5_from 10 (some .int) 7 51 [(0, .ref (eA E (42))), (1, .int (x1)), (2, .int (x2)), (3, .int (x3)), (4, .int (x4)), (5, .int (x5)), (6, .int (x6)), (7, .int (x7))] [] M (PR (some (.int v9)) M9)) (H : fX5_from_51B k51 x1 x2 x3 x4 x5 x6 x7 M = some (v9, M9)) : Z l E RX5 cX5_from 10 (some .int) 7 51 [(0, .ref (eA E (42))), (1, .int (x1)), (2, .int (x2)), (3, .int (x3)), (4, .int (x4)), (5, .int (x5)), (6, .int (x6)), (7, .int (x7))] [] M (PR (some (.int v9)) M9) := by
  unfold fX5_from_51B at H
  refine Z.iload dX5_from_51 7 rfl ?_
  refine Z.iconst (v := 4) dX5_from_53 (by decide) ?_
  refine Z.aload_n dX5_from_54 0 rfl ?_
  refine Z.get dX5_from_55 inX5 (hc := rfl) (by decide) c5 3 (by decide) kw682 rfl rfl ?_
  refine Z.iconst (v := 0) dX5_from_58 (by decide) ?_
  refine Z.ialdH dX5_from_59 a5_wides H (fun v1 H => ?_)
  refine Z.imul dX5_from_60 ?_
  refine Z.aload_n dX5_from_61 0 rfl ?_
  refine Z.get dX5_from_62 inX5 (hc := rfl) (by decide) c5 4 (by decide) kw683 rfl rfl ?_
  refine Z.iconst (v := 0) dX5_from_65 (by decide) ?_
  refine Z.ialdH dX5_from_66 a5_highs H (fun v2 H => ?_)
  refine Z.imul dX5_from_67 ?_
  refine Z.icmp_geH dX5_from_68 H (fun br68 H => ?_) (fun br68 H => ?_)
  · refine Z.iload dX5_from_153 4 rfl ?_
    refine Z.if_neH dX5_from_155 H (fun br155 H => ?_) (fun br155 H => ?_)
    · refine Z.iload dX5_from_163 6 rfl ?_
      exact Z.iret rfl dX5_from_165 (retW H)
    · refine Z.iload dX5_from_158 5 rfl ?_
      refine Z.goto dX5_from_160 ?_
      exact Z.iret rfl dX5_from_165 (retW H)
  · refine Z.iload dX5_from_71 7 rfl ?_
    refine Z.iconst (v := 4) dX5_from_73 (by decide) ?_
    refine Z.idiv dX5_from_74 (by decide) ?_
    refine Z.aload_n dX5_from_75 0 rfl ?_
    refine Z.get dX5_from_76 inX5 (hc := rfl) (by decide) c5 3 (by decide) kw682 rfl rfl ?_
    refine Z.iconst (v := 0) dX5_from_79 (by decide) ?_
    refine Z.ialdH dX5_from_80 a5_wides H (fun v3 H => ?_)
    refine Z.iremH dX5_from_81 H (fun v4 H => ?_)
    refine Z.istore (lv' := [(8, .int (v4)), (0, .ref (eA E (42))), (1, .int (x1)), (2, .int (x2)), (3, .int (x3)), (4, .int (x4)), (5, .int (x5)), (6, .int (x6)), (7, .int (x7))]) dX5_from_82 (by decide) rfl ?_
    refine Z.iload dX5_from_84 8 rfl ?_
    refine Z.iconst (v := 4) dX5_from_86 (by decide) ?_
    refine Z.idiv dX5_from_87 (by decide) ?_
    refine Z.aload_n dX5_from_88 1 rfl ?_
    refine Z.get dX5_from_89 inX5 (hc := rfl) (by decide) c5 3 (by decide) kw682 rfl rfl ?_
    refine Z.iconst (v := 0) dX5_from_92 (by decide) ?_
    refine Z.ialdH dX5_from_93 a5_wides H (fun v5 H => ?_)
    refine Z.idivH dX5_from_94 H (fun v6 H => ?_)
    refine Z.istore (lv' := [(9, .int (v6)), (8, .int (v4)), (0, .ref (eA E (42))), (1, .int (x1)), (2, .int (x2)), (3, .int (x3)), (4, .int (x4)), (5, .int (x5)), (6, .int (x6)), (7, .int (x7))]) dX5_from_95 (by decide) rfl ?_
    refine Z.aload_n dX5_from_97 2 rfl ?_
    refine Z.iload dX5_from_98 1 rfl ?_
    refine Z.iload dX5_from_100 0 rfl ?_
    refine bindC H (fun v7 hv7 H => ?_)
    refine Z.callV (As := [.int (v4), .int (v6)]) (rest := []) (st' := [.int (v7)]) dX5_from_102 (kX5_isWall  (v4) (v6) M hv7) kw842 kw844 ks38 kw7 kw845 hdX5_isWall (by decide) c5 (hc := rfl) (by decide) (by decide) rfl rfl (Nat.le_of_ble_eq_true rfl) rfl ?_
    refine Z.if_neH dX5_from_105 H (fun br105 H => ?_) (fun br105 H => ?_)
    · refine Z.sub [2, 3, 4, 5, 6, 7, 8, 9] rfl ?_
      exact tX5_from_147  (x1) (x2) (x3) (x4) (x5) (x6) (x7) M hk51 H
    · refine Z.aload_n dX5_from_108 2 rfl ?_
      refine Z.iload dX5_from_109 1 rfl ?_
      refine Z.iload dX5_from_111 0 rfl ?_
      refine Z.iload dX5_from_113 9 rfl ?_
      refine Z.iconst (v := 4) dX5_from_115 (by decide) ?_
      refine Z.irem dX5_from_116 (by decide) ?_
      refine Z.iload_n dX5_from_117 5 rfl ?_
      refine bindC H (fun v8 hv8 H => ?_)
      refine Z.callV (As := [.int (v4), .int (v6), .int (x7 - x7 / 4 * 4), .int (x3)]) (rest := []) (st' := []) dX5_from_118 (kX5_lookFrom  (v4) (v6) (x7 - x7 / 4 * 4) (x3) M hv8) kw896 kw898 ks45 kw7 kw899 hdX5_lookFrom (by decide) c5 (hc := rfl) (by decide) (by decide) rfl rfl (Nat.le_of_ble_eq_true rfl) rfl ?_
      refine Z.aload_n dX5_from_121 2 rfl ?_
      refine Z.iload_n dX5_from_122 4 rfl ?_
      refine bindC H (fun v9 hv9 H => ?_)
      refine Z.callV (As := [.int (x2)]) (rest := []) (st' := [.int (v9)]) dX5_from_123 (kX5_shown  (x2) v8 hv9) kw900 kw902 ks46 kw7 kw903 hdX5_shown (by decide) c5 (hc := rfl) (by decide) (by decide) rfl rfl (Nat.le_of_ble_eq_true rfl) rfl ?_
      refine Z.iload_n dX5_from_126 3 rfl ?_
      refine Z.icmp_neH dX5_from_127 H (fun br127 H => ?_) (fun br127 H => ?_)
      · refine Z.sub [2, 3, 4, 5, 6, 7, 8, 9] rfl ?_
        exact tX5_from_147  (x1) (x2) (x3) (x4) (x5) (x6) (x7) v8 hk51 H
      · refine Z.iload dX5_from_130 7 rfl ?_
        refine Z.if_neH dX5_from_132 H (fun br132 H => ?_) (fun br132 H => ?_)
        · refine Z.iload dX5_from_140 8 rfl ?_
          refine Z.sub [2, 3, 4, 5, 6, 7, 9] rfl ?_
          exact tX5_from_142  (x1) (x2) (x3) (x4) (x5) (x7) (x6) v8 hk51 H
        · refine Z.iload dX5_from_135 9 rfl ?_
          refine Z.goto dX5_from_137 ?_
          refine Z.sub [2, 3, 4, 5, 6, 7, 9] rfl ?_
          exact tX5_from_142  (x1) (x2) (x3) (x4) (x5) (x7) (x7) v8 hk51 H
theorem tX5_from_51L {l : Launch} {E : Env5}     {v9 : Int32} {M9 : Mem}  : ∀ (n : Nat) (x1 : Int32) (x2 : Int32) (x3 : Int32) (x4 : Int32) (x5 : Int32) (x6 : Int32) (x7 : Int32) (M : Mem), fX5_from_51L   n x1 x2 x3 x4 x5 x6 x7 M = some (v9, M9) → Z l E RX5 cX5_from 10 (some .int) 7 51 [(0, .ref (eA E (42))), (1, .int (x1)), (2, .int (x2)), (3, .int (x3)), (4, .int (x4)), (5, .int (x5)), (6, .int (x6)), (7, .int (x7))] [] M (PR (some (.int v9)) M9) := by
  intro n
  induction n with
  | zero => intro x1 x2 x3 x4 x5 x6 x7 M H; exact absurd H (by simp [fX5_from_51L])
  | succ n ih => intro x1 x2 x3 x4 x5 x6 x7 M H; exact tX5_from_51  x1 x2 x3 x4 x5 x6 x7 M  (fun x1 x2 x3 x4 x5 x6 x7 M H => ih x1 x2 x3 x4 x5 x6 x7 M H) H
set_option maxRecDepth 100000 in
theorem tX5_from_0 {l : Launch} {E : Env5}    (x1 : Int32) (x2 : Int32) (x3 : Int32) (x4 : Int32) (M : Mem) {v9 : Int32} {M9 : Mem}  (H : fX5_from  x1 x2 x3 x4 M = some (v9, M9)) : Z l E RX5 cX5_from 10 (some .int) 7 0 [(0, .ref (eA E (42))), (1, .int (x1)), (2, .int (x2)), (3, .int (x3)), (4, .int (x4))] [] M (PR (some (.int v9)) M9) := by
  unfold fX5_from at H
  refine Z.aload_n dX5_from_0 0 rfl ?_
  refine Z.iload_n dX5_from_1 1 rfl ?_
  refine bindC H (fun v1 hv1 H => ?_)
  refine Z.callV (As := [.int (x1)]) (rest := []) (st' := [.int (v1)]) dX5_from_2 (kX5_isSet  (x1) M hv1) kw932 kw934 ks51 kw7 kw935 hdX5_isSet (by decide) c5 (hc := rfl) (by decide) (by decide) rfl rfl (Nat.le_of_ble_eq_true rfl) rfl ?_
  refine Z.if_eqH dX5_from_5 H (fun br5 H => ?_) (fun br5 H => ?_)
  · refine Z.iconst (v := (-1)) dX5_from_39 (by decide) ?_
    exact Z.iret rfl dX5_from_40 (retW H)
  · refine Z.iload_n dX5_from_8 2 rfl ?_
    refine Z.iconst (v := 1) dX5_from_9 (by decide) ?_
    refine Z.bipush (v := 9) dX5_from_10 (by decide) ?_
    refine bindC H (fun v2 hv2 H => ?_)
    refine Z.callS (As := [.int (x2), .int (1), .int (9)]) (rest := []) (st' := [.int (v2)]) dX5_from_12 (kX5_in  (x2) (1) (9) M hv2) kw798 kw799 kw7 kw800 hdX5_in (by decide) (by decide) rfl rfl (Nat.le_of_ble_eq_true rfl) rfl ?_
    refine Z.if_eqH dX5_from_15 H (fun br15 H => ?_) (fun br15 H => ?_)
    · refine Z.iconst (v := (-1)) dX5_from_39 (by decide) ?_
      exact Z.iret rfl dX5_from_40 (retW H)
    · refine Z.iload_n dX5_from_18 3 rfl ?_
      refine Z.iconst (v := 0) dX5_from_19 (by decide) ?_
      refine Z.sipush (v := 199) dX5_from_20 (by decide) ?_
      refine bindC H (fun v3 hv3 H => ?_)
      refine Z.callS (As := [.int (x3), .int (0), .int (199)]) (rest := []) (st' := [.int (v3)]) dX5_from_23 (kX5_in  (x3) (0) (199) M hv3) kw798 kw799 kw7 kw800 hdX5_in (by decide) (by decide) rfl rfl (Nat.le_of_ble_eq_true rfl) rfl ?_
      refine Z.if_eqH dX5_from_26 H (fun br26 H => ?_) (fun br26 H => ?_)
      · refine Z.iconst (v := (-1)) dX5_from_39 (by decide) ?_
        exact Z.iret rfl dX5_from_40 (retW H)
      · refine Z.iload dX5_from_29 4 rfl ?_
        refine Z.iconst (v := 0) dX5_from_31 (by decide) ?_
        refine Z.iconst (v := 1) dX5_from_32 (by decide) ?_
        refine bindC H (fun v4 hv4 H => ?_)
        refine Z.callS (As := [.int (x4), .int (0), .int (1)]) (rest := []) (st' := [.int (v4)]) dX5_from_33 (kX5_in  (x4) (0) (1) M hv4) kw798 kw799 kw7 kw800 hdX5_in (by decide) (by decide) rfl rfl (Nat.le_of_ble_eq_true rfl) rfl ?_
        refine Z.if_neH dX5_from_36 H (fun br36 H => ?_) (fun br36 H => ?_)
        · refine Z.iconst (v := 0) dX5_from_41 (by decide) ?_
          refine Z.istore (lv' := [(5, .int (0)), (0, .ref (eA E (42))), (1, .int (x1)), (2, .int (x2)), (3, .int (x3)), (4, .int (x4))]) dX5_from_42 (by decide) rfl ?_
          refine Z.bipush (v := (-9)) dX5_from_44 (by decide) ?_
          refine Z.istore (lv' := [(6, .int ((-9))), (5, .int (0)), (0, .ref (eA E (42))), (1, .int (x1)), (2, .int (x2)), (3, .int (x3)), (4, .int (x4))]) dX5_from_46 (by decide) rfl ?_
          refine Z.iconst (v := 0) dX5_from_48 (by decide) ?_
          refine Z.istore (lv' := [(7, .int (0)), (6, .int ((-9))), (5, .int (0)), (0, .ref (eA E (42))), (1, .int (x1)), (2, .int (x2)), (3, .int (x3)), (4, .int (x4))]) dX5_from_49 (by decide) rfl ?_
          refine Z.sub [3, 4, 5, 6, 7, 2, 1, 0] rfl ?_
          exact tX5_from_51L   FU (x1) (x2) (x3) (x4) (0) ((-9)) (0) M H
        · refine Z.iconst (v := (-1)) dX5_from_39 (by decide) ?_
          exact Z.iret rfl dX5_from_40 (retW H)
theorem kX5_from {l : Launch} {E : Env5}   (x1 : Int32) (x2 : Int32) (x3 : Int32) (x4 : Int32) (M : Mem) {v9 : Int32} {M9 : Mem} (H : fX5_from x1 x2 x3 x4 M = some (v9, M9)) : Cn l E yX5_from cX5_from 10 (some .int) 7 [.ref (eA E (42)), .int (x1), .int (x2), .int (x3), .int (x4)] M (PR (some (.int v9)) M9) := Cn.ofZ rfl (Nat.le_of_ble_eq_true rfl) rfl (tX5_from_0  x1 x2 x3 x4 M H)
theorem hdX5_from : yX5_from.cls ≠ "java/lang/invoke/MethodHandle" ∧ yX5_from.cls ≠ "java/lang/invoke/VarHandle" ∧ (parseMethodDescriptor yX5_from.desc).map (fun d => d.parameters.length) = some 4 := by decide +kernel

set_option maxRecDepth 100000 in
theorem tX5_fact_0 {l : Launch} {E : Env5}    (x1 : Int32) (x2 : Int32) (x3 : Int32) (x4 : Int32) (M : Mem) {v9 : Int32} {M9 : Mem}  (H : fX5_fact  x1 x2 x3 x4 M = some (v9, M9)) : Z l E RX5 cX5_fact 6 (some .int) 1 0 [(0, .ref (eA E (42))), (1, .int (x1)), (2, .int (x2)), (3, .int (x3)), (4, .int (x4))] [] M (PR (some (.int v9)) M9) := by
  unfold fX5_fact at H
  refine Z.iload_n dX5_fact_0 1 rfl ?_
  refine Z.iconst (v := 0) dX5_fact_1 (by decide) ?_
  refine Z.iconst (v := 3) dX5_fact_2 (by decide) ?_
  refine bindC H (fun v1 hv1 H => ?_)
  refine Z.callS (As := [.int (x1), .int (0), .int (3)]) (rest := []) (st' := [.int (v1)]) dX5_fact_3 (kX5_in  (x1) (0) (3) M hv1) kw798 kw799 kw7 kw800 hdX5_in (by decide) (by decide) rfl rfl (Nat.le_of_ble_eq_true rfl) rfl ?_
  refine Z.if_eqH dX5_fact_6 H (fun br6 H => ?_) (fun br6 H => ?_)
  · refine Z.iconst (v := (-1)) dX5_fact_44 (by decide) ?_
    exact Z.iret rfl dX5_fact_45 (retW H)
  · refine Z.iload_n dX5_fact_9 3 rfl ?_
    refine Z.iconst (v := 0) dX5_fact_10 (by decide) ?_
    refine Z.iconst (v := 3) dX5_fact_11 (by decide) ?_
    refine bindC H (fun v2 hv2 H => ?_)
    refine Z.callS (As := [.int (x3), .int (0), .int (3)]) (rest := []) (st' := [.int (v2)]) dX5_fact_12 (kX5_in  (x3) (0) (3) M hv2) kw798 kw799 kw7 kw800 hdX5_in (by decide) (by decide) rfl rfl (Nat.le_of_ble_eq_true rfl) rfl ?_
    refine Z.if_eqH dX5_fact_15 H (fun br15 H => ?_) (fun br15 H => ?_)
    · refine Z.iconst (v := (-1)) dX5_fact_44 (by decide) ?_
      exact Z.iret rfl dX5_fact_45 (retW H)
    · refine Z.iload_n dX5_fact_18 1 rfl ?_
      refine Z.iload_n dX5_fact_19 3 rfl ?_
      refine Z.icmp_eqH dX5_fact_20 H (fun br20 H => ?_) (fun br20 H => ?_)
      · refine Z.iconst (v := (-1)) dX5_fact_44 (by decide) ?_
        exact Z.iret rfl dX5_fact_45 (retW H)
      · refine Z.iload_n dX5_fact_23 2 rfl ?_
        refine Z.iconst (v := 0) dX5_fact_24 (by decide) ?_
        refine Z.bipush (v := 99) dX5_fact_25 (by decide) ?_
        refine bindC H (fun v3 hv3 H => ?_)
        refine Z.callS (As := [.int (x2), .int (0), .int (99)]) (rest := []) (st' := [.int (v3)]) dX5_fact_27 (kX5_in  (x2) (0) (99) M hv3) kw798 kw799 kw7 kw800 hdX5_in (by decide) (by decide) rfl rfl (Nat.le_of_ble_eq_true rfl) rfl ?_
        refine Z.if_eqH dX5_fact_30 H (fun br30 H => ?_) (fun br30 H => ?_)
        · refine Z.iconst (v := (-1)) dX5_fact_44 (by decide) ?_
          exact Z.iret rfl dX5_fact_45 (retW H)
        · refine Z.iload dX5_fact_33 4 rfl ?_
          refine Z.iconst (v := 0) dX5_fact_35 (by decide) ?_
          refine Z.bipush (v := 99) dX5_fact_36 (by decide) ?_
          refine bindC H (fun v4 hv4 H => ?_)
          refine Z.callS (As := [.int (x4), .int (0), .int (99)]) (rest := []) (st' := [.int (v4)]) dX5_fact_38 (kX5_in  (x4) (0) (99) M hv4) kw798 kw799 kw7 kw800 hdX5_in (by decide) (by decide) rfl rfl (Nat.le_of_ble_eq_true rfl) rfl ?_
          refine Z.if_neH dX5_fact_41 H (fun br41 H => ?_) (fun br41 H => ?_)
          · refine Z.aload_n dX5_fact_46 0 rfl ?_
            refine Z.get dX5_fact_47 inX5 (hc := rfl) (by decide) c5 20 (by decide) kw699 rfl rfl ?_
            refine Z.iconst (v := 0) dX5_fact_50 (by decide) ?_
            refine Z.ialdH dX5_fact_51 a5_facts H (fun v5 H => ?_)
            refine Z.istore (lv' := [(5, .int (v5)), (0, .ref (eA E (42))), (1, .int (x1)), (2, .int (x2)), (3, .int (x3)), (4, .int (x4))]) dX5_fact_52 (by decide) rfl ?_
            refine Z.iload dX5_fact_54 0 rfl ?_
            refine Z.bipush (v := 20) dX5_fact_56 (by decide) ?_
            refine Z.icmp_neH dX5_fact_58 H (fun br58 H => ?_) (fun br58 H => ?_)
            · refine Z.aload_n dX5_fact_64 1 rfl ?_
              refine Z.get dX5_fact_65 inX5 (hc := rfl) (by decide) c5 21 (by decide) kw700 rfl rfl ?_
              refine Z.iload dX5_fact_68 0 rfl ?_
              refine Z.iload_n dX5_fact_70 2 rfl ?_
              refine Z.iastH dX5_fact_71 a5_factA H (fun M6 H => ?_)
              refine Z.aload_n dX5_fact_72 1 rfl ?_
              refine Z.get dX5_fact_73 inX5 (hc := rfl) (by decide) c5 22 (by decide) kw701 rfl rfl ?_
              refine Z.iload dX5_fact_76 0 rfl ?_
              refine Z.iload_n dX5_fact_78 3 rfl ?_
              refine Z.iastH dX5_fact_79 a5_factU H (fun M7 H => ?_)
              refine Z.aload_n dX5_fact_80 1 rfl ?_
              refine Z.get dX5_fact_81 inX5 (hc := rfl) (by decide) c5 23 (by decide) kw702 rfl rfl ?_
              refine Z.iload dX5_fact_84 0 rfl ?_
              refine Z.iload_n dX5_fact_86 4 rfl ?_
              refine Z.iastH dX5_fact_87 a5_factB H (fun M8 H => ?_)
              refine Z.aload_n dX5_fact_88 1 rfl ?_
              refine Z.get dX5_fact_89 inX5 (hc := rfl) (by decide) c5 24 (by decide) kw703 rfl rfl ?_
              refine Z.iload dX5_fact_92 0 rfl ?_
              refine Z.iload dX5_fact_94 5 rfl ?_
              refine Z.iastH dX5_fact_96 a5_factV H (fun M9 H => ?_)
              refine Z.aload_n dX5_fact_97 1 rfl ?_
              refine Z.get dX5_fact_98 inX5 (hc := rfl) (by decide) c5 20 (by decide) kw699 rfl rfl ?_
              refine Z.iconst (v := 0) dX5_fact_101 (by decide) ?_
              refine Z.dup2 dX5_fact_102 rfl rfl ?_
              refine Z.ialdH dX5_fact_103 a5_facts H (fun v10 H => ?_)
              refine Z.iconst (v := 1) dX5_fact_104 (by decide) ?_
              refine Z.iadd dX5_fact_105 ?_
              refine Z.iastH dX5_fact_106 a5_facts H (fun M11 H => ?_)
              refine Z.iload dX5_fact_107 0 rfl ?_
              refine Z.iconst (v := 1) dX5_fact_109 (by decide) ?_
              refine Z.iadd dX5_fact_110 ?_
              exact Z.iret rfl dX5_fact_111 (retW H)
            · refine Z.bipush (v := (-3)) dX5_fact_61 (by decide) ?_
              exact Z.iret rfl dX5_fact_63 (retW H)
          · refine Z.iconst (v := (-1)) dX5_fact_44 (by decide) ?_
            exact Z.iret rfl dX5_fact_45 (retW H)
theorem kX5_fact {l : Launch} {E : Env5}   (x1 : Int32) (x2 : Int32) (x3 : Int32) (x4 : Int32) (M : Mem) {v9 : Int32} {M9 : Mem} (H : fX5_fact x1 x2 x3 x4 M = some (v9, M9)) : Cn l E yX5_fact cX5_fact 6 (some .int) 1 [.ref (eA E (42)), .int (x1), .int (x2), .int (x3), .int (x4)] M (PR (some (.int v9)) M9) := Cn.ofZ rfl (Nat.le_of_ble_eq_true rfl) rfl (tX5_fact_0  x1 x2 x3 x4 M H)
theorem hdX5_fact : yX5_fact.cls ≠ "java/lang/invoke/MethodHandle" ∧ yX5_fact.cls ≠ "java/lang/invoke/VarHandle" ∧ (parseMethodDescriptor yX5_fact.desc).map (fun d => d.parameters.length) = some 4 := by decide +kernel

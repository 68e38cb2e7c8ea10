section WM2
variable {p : Program} {l : Launch} {e : Env} {s : State} {m : MethodId} {args : Array Value} {below : List Frame} {meth : Method} {c : Code} {D : va_G} {cA : Nat → ClassId} {ev : EVa} {hr : Nat → Nat → Value} {ad : Nat → Nat} {A : Nat → Prop}
set_option maxHeartbeats 4000000 in
set_option maxRecDepth 100000 in
theorem w_X7_lookAt_295 {x1 : Int32} {x2 : Int32} {x3 : Int32} {g : GM} {gz : GM} (kb87 : Int32 × GM → Option (GM)) (hk87 : ∀ (x1 : Int32) (g : GM) (H : Heap) (locs : List Loc) (ls : Array Slot), WS D cA ev hr ad A KM s H locs g → lv_has ls 5 [(0, .ref (ad 0)), (1, .int x1)] → kb87 (x1, g) = some gz → W p l e (RM 5 0 0) s m args below meth c H locs 0 0 (MQ below (QV D cA ev hr ad A KM gz) args s 0 0 A) (F0 m 87 ls [])) (kb119 : Int32 × GM → Option (GM)) (hk119 : ∀ (x3 : Int32) (g : GM) (H : Heap) (locs : List Loc) (ls : Array Slot), WS D cA ev hr ad A KM s H locs g → lv_has ls 5 [(0, .ref (ad 0)), (1, .int x1), (2, .int x2), (3, .int x3)] → kb119 (x3, g) = some gz → W p l e (RM 5 0 0) s m args below meth c H locs 0 0 (MQ below (QV D cA ev hr ad A KM gz) args s 0 0 A) (F0 m 119 ls [])) (C : CX p s m args meth c RX7 yX7_lookAt cX7_lookAt 5 none D cA) (hx : HM hr ad) {H : Heap} {locs : List Loc} (hw : WS D cA ev hr ad A KM s H locs g) {ls : Array Slot} (hl : lv_has ls 5 [(0, .ref (ad 0)), (1, .int x1), (2, .int x2), (3, .int x3)]) (h : F_X7_lookAt_295 kb87 kb119 x1 x2 x3 g = some gz) : W p l e (RM 5 0 0) s m args below meth c H locs 0 0 (MQ below (QV D cA ev hr ad A KM gz) args s 0 0 A) (F0 m 295 ls []) := by
  refine lv_iinc (v := x3 + 1) (lv' := [(3, .int (x3 + 1)), (0, .ref (ad 0)), (1, .int x1), (2, .int x2)]) C.1.1 C.1.2.1 dX7_lookAt_295 hl (k := 3) rfl rfl (by decide) rfl (fun ls hl => ?_)
  refine lt_gen (P := fun x => lv_has ls 5 [(3, .int x), (0, .ref (ad 0)), (1, .int x1), (2, .int x2)]) h hl (fun x3_1 h hl => ?_)
  refine lv_goto (tgt := 119) C.1.1 C.1.2.1 dX7_lookAt_298 (by decide) ?_
  exact hk119 _ _ _ _ _ hw (lv_sub hl [1, 2, 3, 0] rfl) h
set_option maxHeartbeats 4000000 in
set_option maxRecDepth 100000 in
theorem w_X7_lookAt_289 {x1 : Int32} {x2 : Int32} {x3 : Int32} {x4 : Int32} {g : GM} {gz : GM} (kb87 : Int32 × GM → Option (GM)) (hk87 : ∀ (x1 : Int32) (g : GM) (H : Heap) (locs : List Loc) (ls : Array Slot), WS D cA ev hr ad A KM s H locs g → lv_has ls 5 [(0, .ref (ad 0)), (1, .int x1)] → kb87 (x1, g) = some gz → W p l e (RM 5 0 0) s m args below meth c H locs 0 0 (MQ below (QV D cA ev hr ad A KM gz) args s 0 0 A) (F0 m 87 ls [])) (kb119 : Int32 × GM → Option (GM)) (hk119 : ∀ (x3 : Int32) (g : GM) (H : Heap) (locs : List Loc) (ls : Array Slot), WS D cA ev hr ad A KM s H locs g → lv_has ls 5 [(0, .ref (ad 0)), (1, .int x1), (2, .int x2), (3, .int x3)] → kb119 (x3, g) = some gz → W p l e (RM 5 0 0) s m args below meth c H locs 0 0 (MQ below (QV D cA ev hr ad A KM gz) args s 0 0 A) (F0 m 119 ls [])) (kb191 : Int32 × GM → Option (GM)) (hk191 : ∀ (x4 : Int32) (g : GM) (H : Heap) (locs : List Loc) (ls : Array Slot), WS D cA ev hr ad A KM s H locs g → lv_has ls 5 [(0, .ref (ad 0)), (1, .int x1), (2, .int x2), (3, .int x3), (4, .int x4)] → kb191 (x4, g) = some gz → W p l e (RM 5 0 0) s m args below meth c H locs 0 0 (MQ below (QV D cA ev hr ad A KM gz) args s 0 0 A) (F0 m 191 ls [])) (C : CX p s m args meth c RX7 yX7_lookAt cX7_lookAt 5 none D cA) (hx : HM hr ad) {H : Heap} {locs : List Loc} (hw : WS D cA ev hr ad A KM s H locs g) {ls : Array Slot} (hl : lv_has ls 5 [(0, .ref (ad 0)), (1, .int x1), (2, .int x2), (3, .int x3), (4, .int x4)]) (h : F_X7_lookAt_289 kb87 kb119 kb191 x1 x2 x3 x4 g = some gz) : W p l e (RM 5 0 0) s m args below meth c H locs 0 0 (MQ below (QV D cA ev hr ad A KM gz) args s 0 0 A) (F0 m 289 ls []) := by
  refine lv_iinc (v := x4 + 1) (lv' := [(4, .int (x4 + 1)), (0, .ref (ad 0)), (1, .int x1), (2, .int x2), (3, .int x3)]) C.1.1 C.1.2.1 dX7_lookAt_289 hl (k := 4) rfl rfl (by decide) rfl (fun ls hl => ?_)
  refine lt_gen (P := fun x => lv_has ls 5 [(4, .int x), (0, .ref (ad 0)), (1, .int x1), (2, .int x2), (3, .int x3)]) h hl (fun x4_2 h hl => ?_)
  refine lv_goto (tgt := 191) C.1.1 C.1.2.1 dX7_lookAt_292 (by decide) ?_
  exact hk191 _ _ _ _ _ hw (lv_sub hl [1, 2, 3, 4, 0] rfl) h
set_option maxHeartbeats 4000000 in
set_option maxRecDepth 100000 in
theorem w_X7_lookAt_191 {x1 : Int32} {x2 : Int32} {x3 : Int32} {gz : GM} (kb87 : Int32 × GM → Option (GM)) (hk87 : ∀ (x1 : Int32) (g : GM) (H : Heap) (locs : List Loc) (ls : Array Slot), WS D cA ev hr ad A KM s H locs g → lv_has ls 5 [(0, .ref (ad 0)), (1, .int x1)] → kb87 (x1, g) = some gz → W p l e (RM 5 0 0) s m args below meth c H locs 0 0 (MQ below (QV D cA ev hr ad A KM gz) args s 0 0 A) (F0 m 87 ls [])) (kb119 : Int32 × GM → Option (GM)) (hk119 : ∀ (x3 : Int32) (g : GM) (H : Heap) (locs : List Loc) (ls : Array Slot), WS D cA ev hr ad A KM s H locs g → lv_has ls 5 [(0, .ref (ad 0)), (1, .int x1), (2, .int x2), (3, .int x3)] → kb119 (x3, g) = some gz → W p l e (RM 5 0 0) s m args below meth c H locs 0 0 (MQ below (QV D cA ev hr ad A KM gz) args s 0 0 A) (F0 m 119 ls [])) (kb191 : Int32 × GM → Option (GM)) (hk191 : ∀ (x4 : Int32) (g : GM) (H : Heap) (locs : List Loc) (ls : Array Slot), WS D cA ev hr ad A KM s H locs g → lv_has ls 5 [(0, .ref (ad 0)), (1, .int x1), (2, .int x2), (3, .int x3), (4, .int x4)] → kb191 (x4, g) = some gz → W p l e (RM 5 0 0) s m args below meth c H locs 0 0 (MQ below (QV D cA ev hr ad A KM gz) args s 0 0 A) (F0 m 191 ls [])) (C : CX p s m args meth c RX7 yX7_lookAt cX7_lookAt 5 none D cA) (hx : HM hr ad) {H : Heap} {locs : List Loc} {x4 : Int32} {g : GM} (hw : WS D cA ev hr ad A KM s H locs g) {ls : Array Slot} (hl : lv_has ls 5 [(0, .ref (ad 0)), (1, .int x1), (2, .int x2), (3, .int x3), (4, .int x4)]) (h : F_X7_lookAt_191B kb87 kb119 x1 x2 x3 kb191 (x4, g) = some gz) : W p l e (RM 5 0 0) s m args below meth c H locs 0 0 (MQ below (QV D cA ev hr ad A KM gz) args s 0 0 A) (F0 m 191 ls []) := by
  refine lv_iload C.1.1 C.1.2.1 dX7_lookAt_191 (lv_at hl 4 rfl) ?_
  refine lv_aload_n C.1.1 C.1.2.1 dX7_lookAt_193 rfl (lv_at hl 0 rfl) ?_
  refine r_getR (v := .ref (ad 13)) C hw km0 fX7_122 rfl (hm22 hx) dX7_lookAt_194 ?_
  refine lv_aload_n C.1.1 C.1.2.1 dX7_lookAt_197 rfl (lv_at hl 0 rfl) ?_
  refine r_getI C hw km0 fX7_116 rfl dX7_lookAt_198 ?_
  obtain ⟨hz, h⟩ := ck_some h
  refine r_iald C hw km13 (inB_in hz) dX7_lookAt_201 ?_
  refine lv_icmp_ge (tgt := 295) C.1.1 C.1.2.1 dX7_lookAt_202 (by decide) (fun hc => ?_) (fun hc => ?_)
  · replace h := ite_pos' h hc
    exact w_X7_lookAt_295 kb87 hk87 kb119 hk119 C hx hw (lv_sub hl [0, 1, 2, 3] rfl) h
  · replace h := ite_neg' h hc
    refine lv_aload_n C.1.1 C.1.2.1 dX7_lookAt_205 rfl (lv_at hl 0 rfl) ?_
    refine r_getR (v := .ref (ad 17)) C hw km0 fX7_226 rfl (hm28 hx) dX7_lookAt_206 ?_
    refine lv_iload_n C.1.1 C.1.2.1 dX7_lookAt_209 rfl (lv_at hl 2 rfl) ?_
    obtain ⟨hz, h⟩ := ck_some h
    refine r_iald C hw km17 (inB_in hz) dX7_lookAt_210 ?_
    refine lv_if_lt (tgt := 295) C.1.1 C.1.2.1 dX7_lookAt_211 (by decide) (fun hc => ?_) (fun hc => ?_)
    · replace h := ite_pos' h hc
      exact w_X7_lookAt_295 kb87 hk87 kb119 hk119 C hx hw (lv_sub hl [0, 1, 2, 3] rfl) h
    · replace h := ite_neg' h hc
      refine lv_aload_n C.1.1 C.1.2.1 dX7_lookAt_214 rfl (lv_at hl 0 rfl) ?_
      refine lv_iload_n C.1.1 C.1.2.1 dX7_lookAt_215 rfl (lv_at hl 3 rfl) ?_
      obtain ⟨r_3, hc, h⟩ := bnd_some h
      refine r_vI (dc := 1) (As := [.int x3]) (rest := []) C hw vX7_194 km0 (by decide) rfl (fun sz => c_X7_tableAt hx hc sz) (by decide) rfl rfl hl.1 (Nat.le_of_ble_eq_true rfl) dX7_lookAt_216 ⟨Nat.le_refl _, Nat.le_refl _⟩ (fun H locs hw => ?_)
      refine lv_aload_n C.1.1 C.1.2.1 dX7_lookAt_219 rfl (lv_at hl 0 rfl) ?_
      refine r_getR (v := .ref (ad 15)) C hw km0 fX7_229 rfl (hm26 hx) dX7_lookAt_220 ?_
      refine lv_iload_n C.1.1 C.1.2.1 dX7_lookAt_223 rfl (lv_at hl 2 rfl) ?_
      obtain ⟨hz, h⟩ := ck_some h
      refine r_iald C hw km15 (inB_in hz) dX7_lookAt_224 ?_
      refine lv_icmp_ne (tgt := 295) C.1.1 C.1.2.1 dX7_lookAt_225 (by decide) (fun hc => ?_) (fun hc => ?_)
      · replace h := ite_neg' h hc
        exact w_X7_lookAt_295 kb87 hk87 kb119 hk119 C hx hw (lv_sub hl [0, 1, 2, 3] rfl) h
      · replace h := ite_pos' h hc
        refine lv_aload_n C.1.1 C.1.2.1 dX7_lookAt_228 rfl (lv_at hl 0 rfl) ?_
        refine lv_iload C.1.1 C.1.2.1 dX7_lookAt_229 (lv_at hl 4 rfl) ?_
        obtain ⟨r_4, hc, h⟩ := bnd_some h
        refine r_vI (dc := 1) (As := [.int x4]) (rest := []) C hw vX7_194 km0 (by decide) rfl (fun sz => c_X7_tableAt hx hc sz) (by decide) rfl rfl hl.1 (Nat.le_of_ble_eq_true rfl) dX7_lookAt_231 ⟨Nat.le_refl _, Nat.le_refl _⟩ (fun H locs hw => ?_)
        refine lv_aload_n C.1.1 C.1.2.1 dX7_lookAt_234 rfl (lv_at hl 0 rfl) ?_
        refine r_getR (v := .ref (ad 17)) C hw km0 fX7_226 rfl (hm28 hx) dX7_lookAt_235 ?_
        refine lv_iload_n C.1.1 C.1.2.1 dX7_lookAt_238 rfl (lv_at hl 2 rfl) ?_
        obtain ⟨hz, h⟩ := ck_some h
        refine r_iald C hw km17 (inB_in hz) dX7_lookAt_239 ?_
        refine lv_icmp_ne (tgt := 289) C.1.1 C.1.2.1 dX7_lookAt_240 (by decide) (fun hc => ?_) (fun hc => ?_)
        · replace h := ite_neg' h hc
          exact w_X7_lookAt_289 kb87 hk87 kb119 hk119 kb191 hk191 C hx hw hl h
        · replace h := ite_pos' h hc
          refine lv_aload_n C.1.1 C.1.2.1 dX7_lookAt_243 rfl (lv_at hl 0 rfl) ?_
          refine r_getI C hw km0 fX7_147 rfl dX7_lookAt_244 ?_
          refine lv_iload C.1.1 C.1.2.1 dX7_lookAt_247 (lv_at hl 4 rfl) ?_
          refine lv_ishr C.1.1 C.1.2.1 dX7_lookAt_249 ?_
          refine lv_iconst (v := 1) C.1.1 C.1.2.1 dX7_lookAt_250 (by decide) ?_
          refine lv_iand C.1.1 C.1.2.1 dX7_lookAt_251 ?_
          refine lv_if_ne (tgt := 289) C.1.1 C.1.2.1 dX7_lookAt_252 (by decide) (fun hc => ?_) (fun hc => ?_)
          · replace h := ite_neg' h hc
            exact w_X7_lookAt_289 kb87 hk87 kb119 hk119 kb191 hk191 C hx hw hl h
          · replace h := ite_pos' h hc
            refine lv_aload_n C.1.1 C.1.2.1 dX7_lookAt_255 rfl (lv_at hl 0 rfl) ?_
            refine lv_iload C.1.1 C.1.2.1 dX7_lookAt_256 (lv_at hl 4 rfl) ?_
            refine lv_aload_n C.1.1 C.1.2.1 dX7_lookAt_258 rfl (lv_at hl 0 rfl) ?_
            refine r_getR (v := .ref (ad 18)) C hw km0 fX7_254 rfl (hm29 hx) dX7_lookAt_259 ?_
            refine lv_iload_n C.1.1 C.1.2.1 dX7_lookAt_262 rfl (lv_at hl 2 rfl) ?_
            obtain ⟨hz, h⟩ := ck_some h
            refine r_iald C hw km18 (inB_in hz) dX7_lookAt_263 ?_
            obtain ⟨r_5, hc, h⟩ := bnd_some h
            refine r_vI (dc := 2) (As := [.int x4, .int (gi g 18 x2.toNatClampNeg)]) (rest := []) C hw vX7_207 km0 (by decide) rfl (fun sz => c_X7_valueAt hx hc sz) (by decide) rfl rfl hl.1 (Nat.le_of_ble_eq_true rfl) dX7_lookAt_264 ⟨Nat.le_refl _, Nat.le_refl _⟩ (fun H locs hw => ?_)
            refine lv_iload_n C.1.1 C.1.2.1 dX7_lookAt_267 rfl (lv_at hl 3 rfl) ?_
            refine lv_icmp_ne (tgt := 289) C.1.1 C.1.2.1 dX7_lookAt_268 (by decide) (fun hc => ?_) (fun hc => ?_)
            · replace h := ite_neg' h hc
              exact w_X7_lookAt_289 kb87 hk87 kb119 hk119 kb191 hk191 C hx hw hl h
            · replace h := ite_pos' h hc
              refine lv_aload_n C.1.1 C.1.2.1 dX7_lookAt_271 rfl (lv_at hl 0 rfl) ?_
              refine r_getR (v := .ref (ad 30)) C hw km0 fX7_319 rfl (hm48 hx) dX7_lookAt_272 ?_
              refine lv_bipush (v := 16) C.1.1 C.1.2.1 dX7_lookAt_275 (by decide) ?_
              refine lv_iload_n C.1.1 C.1.2.1 dX7_lookAt_277 rfl (lv_at hl 1 rfl) ?_
              refine lv_imul C.1.1 C.1.2.1 dX7_lookAt_278 ?_
              refine lv_iload_n C.1.1 C.1.2.1 dX7_lookAt_279 rfl (lv_at hl 3 rfl) ?_
              refine lv_iadd C.1.1 C.1.2.1 dX7_lookAt_280 ?_
              refine lv_dup2_11 C.1.1 C.1.2.1 dX7_lookAt_281 rfl rfl ?_
              obtain ⟨hz, h⟩ := ck_some h
              refine r_iald C hw km30 (inB_in hz) dX7_lookAt_282 ?_
              refine lv_iconst (v := 1) C.1.1 C.1.2.1 dX7_lookAt_283 (by decide) ?_
              refine lv_iload C.1.1 C.1.2.1 dX7_lookAt_284 (lv_at hl 4 rfl) ?_
              refine lv_ishl C.1.1 C.1.2.1 dX7_lookAt_286 ?_
              refine lv_ior C.1.1 C.1.2.1 dX7_lookAt_287 ?_
              obtain ⟨hz, h⟩ := ck_some h
              refine r_iast C hw km30 (inB_in hz) dX7_lookAt_288 (fun H locs hw => ?_)
              refine lt_gen (P := fun g => WS D cA ev hr ad A KM s H locs g) h hw (fun g_6 h hw => ?_)
              exact w_X7_lookAt_289 kb87 hk87 kb119 hk119 kb191 hk191 C hx hw hl h
set_option maxHeartbeats 4000000 in
set_option maxRecDepth 100000 in
theorem w_X7_lookAt_191L {x1 : Int32} {x2 : Int32} {x3 : Int32} {gz : GM} (kb87 : Int32 × GM → Option (GM)) (hk87 : ∀ (x1 : Int32) (g : GM) (H : Heap) (locs : List Loc) (ls : Array Slot), WS D cA ev hr ad A KM s H locs g → lv_has ls 5 [(0, .ref (ad 0)), (1, .int x1)] → kb87 (x1, g) = some gz → W p l e (RM 5 0 0) s m args below meth c H locs 0 0 (MQ below (QV D cA ev hr ad A KM gz) args s 0 0 A) (F0 m 87 ls [])) (kb119 : Int32 × GM → Option (GM)) (hk119 : ∀ (x3 : Int32) (g : GM) (H : Heap) (locs : List Loc) (ls : Array Slot), WS D cA ev hr ad A KM s H locs g → lv_has ls 5 [(0, .ref (ad 0)), (1, .int x1), (2, .int x2), (3, .int x3)] → kb119 (x3, g) = some gz → W p l e (RM 5 0 0) s m args below meth c H locs 0 0 (MQ below (QV D cA ev hr ad A KM gz) args s 0 0 A) (F0 m 119 ls [])) (C : CX p s m args meth c RX7 yX7_lookAt cX7_lookAt 5 none D cA) (hx : HM hr ad) : ∀ (n : Nat) (x4 : Int32) (g : GM) (H : Heap) (locs : List Loc) (ls : Array Slot), WS D cA ev hr ad A KM s H locs g → lv_has ls 5 [(0, .ref (ad 0)), (1, .int x1), (2, .int x2), (3, .int x3), (4, .int x4)] → fixN (F_X7_lookAt_191B kb87 kb119 x1 x2 x3) n (x4, g) = some gz → W p l e (RM 5 0 0) s m args below meth c H locs 0 0 (MQ below (QV D cA ev hr ad A KM gz) args s 0 0 A) (F0 m 191 ls []) := by
  intro n
  induction n with
  | zero => intro x4 g H locs ls hw hl h; exact (fix_zero h).elim
  | succ n ih => intro x4 g H locs ls hw hl h; exact w_X7_lookAt_191 kb87 hk87 kb119 hk119 (fixN (F_X7_lookAt_191B kb87 kb119 x1 x2 x3) n) ih C hx hw hl h
set_option maxHeartbeats 4000000 in
set_option maxRecDepth 100000 in
theorem w_X7_lookAt_176 {x1 : Int32} {x2 : Int32} {x3 : Int32} {g : GM} {gz : GM} (kb87 : Int32 × GM → Option (GM)) (hk87 : ∀ (x1 : Int32) (g : GM) (H : Heap) (locs : List Loc) (ls : Array Slot), WS D cA ev hr ad A KM s H locs g → lv_has ls 5 [(0, .ref (ad 0)), (1, .int x1)] → kb87 (x1, g) = some gz → W p l e (RM 5 0 0) s m args below meth c H locs 0 0 (MQ below (QV D cA ev hr ad A KM gz) args s 0 0 A) (F0 m 87 ls [])) (kb119 : Int32 × GM → Option (GM)) (hk119 : ∀ (x3 : Int32) (g : GM) (H : Heap) (locs : List Loc) (ls : Array Slot), WS D cA ev hr ad A KM s H locs g → lv_has ls 5 [(0, .ref (ad 0)), (1, .int x1), (2, .int x2), (3, .int x3)] → kb119 (x3, g) = some gz → W p l e (RM 5 0 0) s m args below meth c H locs 0 0 (MQ below (QV D cA ev hr ad A KM gz) args s 0 0 A) (F0 m 119 ls [])) (C : CX p s m args meth c RX7 yX7_lookAt cX7_lookAt 5 none D cA) (hx : HM hr ad) {H : Heap} {locs : List Loc} (hw : WS D cA ev hr ad A KM s H locs g) {ls : Array Slot} (hl : lv_has ls 5 [(0, .ref (ad 0)), (1, .int x1), (2, .int x2), (3, .int x3)]) (h : F_X7_lookAt_176 kb87 kb119 x1 x2 x3 g = some gz) : W p l e (RM 5 0 0) s m args below meth c H locs 0 0 (MQ below (QV D cA ev hr ad A KM gz) args s 0 0 A) (F0 m 176 ls []) := by
  refine lv_aload_n C.1.1 C.1.2.1 dX7_lookAt_176 rfl (lv_at hl 0 rfl) ?_
  refine r_getR (v := .ref (ad 30)) C hw km0 fX7_319 rfl (hm48 hx) dX7_lookAt_177 ?_
  refine lv_bipush (v := 16) C.1.1 C.1.2.1 dX7_lookAt_180 (by decide) ?_
  refine lv_iload_n C.1.1 C.1.2.1 dX7_lookAt_182 rfl (lv_at hl 1 rfl) ?_
  refine lv_imul C.1.1 C.1.2.1 dX7_lookAt_183 ?_
  refine lv_iload_n C.1.1 C.1.2.1 dX7_lookAt_184 rfl (lv_at hl 3 rfl) ?_
  refine lv_iadd C.1.1 C.1.2.1 dX7_lookAt_185 ?_
  refine lv_iconst (v := 0) C.1.1 C.1.2.1 dX7_lookAt_186 (by decide) ?_
  obtain ⟨hz, h⟩ := ck_some h
  refine r_iast C hw km30 (inB_in hz) dX7_lookAt_187 (fun H locs hw => ?_)
  refine lt_gen (P := fun g => WS D cA ev hr ad A KM s H locs g) h hw (fun g_7 h hw => ?_)
  refine lv_iconst (v := 0) C.1.1 C.1.2.1 dX7_lookAt_188 (by decide) ?_
  refine lv_istore (lv' := [(4, .int 0), (0, .ref (ad 0)), (1, .int x1), (2, .int x2), (3, .int x3)]) C.1.1 C.1.2.1 dX7_lookAt_189 hl (by decide) rfl (fun ls hl => ?_)
  exact w_X7_lookAt_191L kb87 hk87 kb119 hk119 C hx FU _ _ _ _ _ hw (lv_sub hl [1, 2, 3, 4, 0] rfl) h
set_option maxHeartbeats 4000000 in
set_option maxRecDepth 100000 in
theorem w_X7_lookAt_119 {x1 : Int32} {x2 : Int32} {gz : GM} (kb87 : Int32 × GM → Option (GM)) (hk87 : ∀ (x1 : Int32) (g : GM) (H : Heap) (locs : List Loc) (ls : Array Slot), WS D cA ev hr ad A KM s H locs g → lv_has ls 5 [(0, .ref (ad 0)), (1, .int x1)] → kb87 (x1, g) = some gz → W p l e (RM 5 0 0) s m args below meth c H locs 0 0 (MQ below (QV D cA ev hr ad A KM gz) args s 0 0 A) (F0 m 87 ls [])) (kb119 : Int32 × GM → Option (GM)) (hk119 : ∀ (x3 : Int32) (g : GM) (H : Heap) (locs : List Loc) (ls : Array Slot), WS D cA ev hr ad A KM s H locs g → lv_has ls 5 [(0, .ref (ad 0)), (1, .int x1), (2, .int x2), (3, .int x3)] → kb119 (x3, g) = some gz → W p l e (RM 5 0 0) s m args below meth c H locs 0 0 (MQ below (QV D cA ev hr ad A KM gz) args s 0 0 A) (F0 m 119 ls [])) (C : CX p s m args meth c RX7 yX7_lookAt cX7_lookAt 5 none D cA) (hx : HM hr ad) {H : Heap} {locs : List Loc} {x3 : Int32} {g : GM} (hw : WS D cA ev hr ad A KM s H locs g) {ls : Array Slot} (hl : lv_has ls 5 [(0, .ref (ad 0)), (1, .int x1), (2, .int x2), (3, .int x3)]) (h : F_X7_lookAt_119B kb87 x1 x2 kb119 (x3, g) = some gz) : W p l e (RM 5 0 0) s m args below meth c H locs 0 0 (MQ below (QV D cA ev hr ad A KM gz) args s 0 0 A) (F0 m 119 ls []) := by
  refine lv_iload_n C.1.1 C.1.2.1 dX7_lookAt_119 rfl (lv_at hl 3 rfl) ?_
  refine lv_aload_n C.1.1 C.1.2.1 dX7_lookAt_120 rfl (lv_at hl 0 rfl) ?_
  refine r_getR (v := .ref (ad 13)) C hw km0 fX7_122 rfl (hm22 hx) dX7_lookAt_121 ?_
  refine lv_aload_n C.1.1 C.1.2.1 dX7_lookAt_124 rfl (lv_at hl 0 rfl) ?_
  refine r_getI C hw km0 fX7_116 rfl dX7_lookAt_125 ?_
  obtain ⟨hz, h⟩ := ck_some h
  refine r_iald C hw km13 (inB_in hz) dX7_lookAt_128 ?_
  refine lv_icmp_ge (tgt := 301) C.1.1 C.1.2.1 dX7_lookAt_129 (by decide) (fun hc => ?_) (fun hc => ?_)
  · replace h := ite_pos' h hc
    refine lv_iinc (v := x1 + 1) (lv' := [(1, .int (x1 + 1)), (0, .ref (ad 0)), (2, .int x2), (3, .int x3)]) C.1.1 C.1.2.1 dX7_lookAt_301 hl (k := 1) rfl rfl (by decide) rfl (fun ls hl => ?_)
    refine lt_gen (P := fun x => lv_has ls 5 [(1, .int x), (0, .ref (ad 0)), (2, .int x2), (3, .int x3)]) h hl (fun x1_8 h hl => ?_)
    refine lv_goto (tgt := 87) C.1.1 C.1.2.1 dX7_lookAt_304 (by decide) ?_
    exact hk87 _ _ _ _ _ hw (lv_sub hl [1, 0] rfl) h
  · replace h := ite_neg' h hc
    refine lv_aload_n C.1.1 C.1.2.1 dX7_lookAt_132 rfl (lv_at hl 0 rfl) ?_
    refine r_getR (v := .ref (ad 17)) C hw km0 fX7_226 rfl (hm28 hx) dX7_lookAt_133 ?_
    refine lv_iload_n C.1.1 C.1.2.1 dX7_lookAt_136 rfl (lv_at hl 2 rfl) ?_
    obtain ⟨hz, h⟩ := ck_some h
    refine r_iald C hw km17 (inB_in hz) dX7_lookAt_137 ?_
    refine lv_if_ge (tgt := 176) C.1.1 C.1.2.1 dX7_lookAt_138 (by decide) (fun hc => ?_) (fun hc => ?_)
    · replace h := ite_pos' h hc
      exact w_X7_lookAt_176 kb87 hk87 kb119 hk119 C hx hw hl h
    · replace h := ite_neg' h hc
      refine lv_aload_n C.1.1 C.1.2.1 dX7_lookAt_141 rfl (lv_at hl 0 rfl) ?_
      refine lv_iload_n C.1.1 C.1.2.1 dX7_lookAt_142 rfl (lv_at hl 3 rfl) ?_
      obtain ⟨r_9, hc, h⟩ := bnd_some h
      refine r_vI (dc := 1) (As := [.int x3]) (rest := []) C hw vX7_194 km0 (by decide) rfl (fun sz => c_X7_tableAt hx hc sz) (by decide) rfl rfl hl.1 (Nat.le_of_ble_eq_true rfl) dX7_lookAt_143 ⟨Nat.le_refl _, Nat.le_refl _⟩ (fun H locs hw => ?_)
      refine lv_aload_n C.1.1 C.1.2.1 dX7_lookAt_146 rfl (lv_at hl 0 rfl) ?_
      refine r_getR (v := .ref (ad 15)) C hw km0 fX7_229 rfl (hm26 hx) dX7_lookAt_147 ?_
      refine lv_iload_n C.1.1 C.1.2.1 dX7_lookAt_150 rfl (lv_at hl 2 rfl) ?_
      obtain ⟨hz, h⟩ := ck_some h
      refine r_iald C hw km15 (inB_in hz) dX7_lookAt_151 ?_
      refine lv_icmp_ne (tgt := 176) C.1.1 C.1.2.1 dX7_lookAt_152 (by decide) (fun hc => ?_) (fun hc => ?_)
      · replace h := ite_neg' h hc
        exact w_X7_lookAt_176 kb87 hk87 kb119 hk119 C hx hw hl h
      · replace h := ite_pos' h hc
        refine lv_aload_n C.1.1 C.1.2.1 dX7_lookAt_155 rfl (lv_at hl 0 rfl) ?_
        refine lv_iload_n C.1.1 C.1.2.1 dX7_lookAt_156 rfl (lv_at hl 2 rfl) ?_
        refine lv_iload_n C.1.1 C.1.2.1 dX7_lookAt_157 rfl (lv_at hl 3 rfl) ?_
        obtain ⟨⟨r_10, g_11⟩, hc, h⟩ := bnd_some h
        refine r_vI (dc := 4) (As := [.int x2, .int x3]) (rest := []) C hw vX7_307 km0 (by decide) rfl (fun sz => c_X7_holdsFor hx hc sz) (by decide) rfl rfl hl.1 (Nat.le_of_ble_eq_true rfl) dX7_lookAt_158 ⟨Nat.le_refl _, Nat.le_refl _⟩ (fun H locs hw => ?_)
        refine lv_if_eq (tgt := 176) C.1.1 C.1.2.1 dX7_lookAt_161 (by decide) (fun hc => ?_) (fun hc => ?_)
        · replace h := ite_pos' h hc
          exact w_X7_lookAt_176 kb87 hk87 kb119 hk119 C hx hw hl h
        · replace h := ite_neg' h hc
          refine lv_aload_n C.1.1 C.1.2.1 dX7_lookAt_164 rfl (lv_at hl 0 rfl) ?_
          refine r_getR (v := .ref (ad 29)) C hw km0 fX7_316 rfl (hm47 hx) dX7_lookAt_165 ?_
          refine lv_iload_n C.1.1 C.1.2.1 dX7_lookAt_168 rfl (lv_at hl 1 rfl) ?_
          refine lv_dup2_11 C.1.1 C.1.2.1 dX7_lookAt_169 rfl rfl ?_
          obtain ⟨hz, h⟩ := ck_some h
          refine r_iald C hw km29 (inB_in hz) dX7_lookAt_170 ?_
          refine lv_iconst (v := 1) C.1.1 C.1.2.1 dX7_lookAt_171 (by decide) ?_
          refine lv_iload_n C.1.1 C.1.2.1 dX7_lookAt_172 rfl (lv_at hl 3 rfl) ?_
          refine lv_ishl C.1.1 C.1.2.1 dX7_lookAt_173 ?_
          refine lv_ior C.1.1 C.1.2.1 dX7_lookAt_174 ?_
          obtain ⟨hz, h⟩ := ck_some h
          refine r_iast C hw km29 (inB_in hz) dX7_lookAt_175 (fun H locs hw => ?_)
          refine lt_gen (P := fun g => WS D cA ev hr ad A KM s H locs g) h hw (fun g_12 h hw => ?_)
          exact w_X7_lookAt_176 kb87 hk87 kb119 hk119 C hx hw hl h
set_option maxHeartbeats 4000000 in
set_option maxRecDepth 100000 in
theorem w_X7_lookAt_119L {x1 : Int32} {x2 : Int32} {gz : GM} (kb87 : Int32 × GM → Option (GM)) (hk87 : ∀ (x1 : Int32) (g : GM) (H : Heap) (locs : List Loc) (ls : Array Slot), WS D cA ev hr ad A KM s H locs g → lv_has ls 5 [(0, .ref (ad 0)), (1, .int x1)] → kb87 (x1, g) = some gz → W p l e (RM 5 0 0) s m args below meth c H locs 0 0 (MQ below (QV D cA ev hr ad A KM gz) args s 0 0 A) (F0 m 87 ls [])) (C : CX p s m args meth c RX7 yX7_lookAt cX7_lookAt 5 none D cA) (hx : HM hr ad) : ∀ (n : Nat) (x3 : Int32) (g : GM) (H : Heap) (locs : List Loc) (ls : Array Slot), WS D cA ev hr ad A KM s H locs g → lv_has ls 5 [(0, .ref (ad 0)), (1, .int x1), (2, .int x2), (3, .int x3)] → fixN (F_X7_lookAt_119B kb87 x1 x2) n (x3, g) = some gz → W p l e (RM 5 0 0) s m args below meth c H locs 0 0 (MQ below (QV D cA ev hr ad A KM gz) args s 0 0 A) (F0 m 119 ls []) := by
  intro n
  induction n with
  | zero => intro x3 g H locs ls hw hl h; exact (fix_zero h).elim
  | succ n ih => intro x3 g H locs ls hw hl h; exact w_X7_lookAt_119 kb87 hk87 (fixN (F_X7_lookAt_119B kb87 x1 x2) n) ih C hx hw hl h
set_option maxHeartbeats 4000000 in
set_option maxRecDepth 100000 in
theorem w_X7_lookAt_87 {gz : GM} (kb87 : Int32 × GM → Option (GM)) (hk87 : ∀ (x1 : Int32) (g : GM) (H : Heap) (locs : List Loc) (ls : Array Slot), WS D cA ev hr ad A KM s H locs g → lv_has ls 5 [(0, .ref (ad 0)), (1, .int x1)] → kb87 (x1, g) = some gz → W p l e (RM 5 0 0) s m args below meth c H locs 0 0 (MQ below (QV D cA ev hr ad A KM gz) args s 0 0 A) (F0 m 87 ls [])) (C : CX p s m args meth c RX7 yX7_lookAt cX7_lookAt 5 none D cA) (hx : HM hr ad) {H : Heap} {locs : List Loc} {x1 : Int32} {g : GM} (hw : WS D cA ev hr ad A KM s H locs g) {ls : Array Slot} (hl : lv_has ls 5 [(0, .ref (ad 0)), (1, .int x1)]) (h : F_X7_lookAt_87B kb87 (x1, g) = some gz) : W p l e (RM 5 0 0) s m args below meth c H locs 0 0 (MQ below (QV D cA ev hr ad A KM gz) args s 0 0 A) (F0 m 87 ls []) := by
  refine lv_iload_n C.1.1 C.1.2.1 dX7_lookAt_87 rfl (lv_at hl 1 rfl) ?_
  refine lv_aload_n C.1.1 C.1.2.1 dX7_lookAt_88 rfl (lv_at hl 0 rfl) ?_
  refine r_getR (v := .ref (ad 14)) C hw km0 fX7_138 rfl (hm25 hx) dX7_lookAt_89 ?_
  refine lv_aload_n C.1.1 C.1.2.1 dX7_lookAt_92 rfl (lv_at hl 0 rfl) ?_
  refine r_getI C hw km0 fX7_141 rfl dX7_lookAt_93 ?_
  obtain ⟨hz, h⟩ := ck_some h
  refine r_iald C hw km14 (inB_in hz) dX7_lookAt_96 ?_
  refine lv_icmp_ge (tgt := 307) C.1.1 C.1.2.1 dX7_lookAt_97 (by decide) (fun hc => ?_) (fun hc => ?_)
  · replace h := ite_pos' h hc
    cases h
    exact r_vret C hw rfl dX7_lookAt_307
  · replace h := ite_neg' h hc
    refine lv_bipush (v := 10) C.1.1 C.1.2.1 dX7_lookAt_100 (by decide) ?_
    refine lv_aload_n C.1.1 C.1.2.1 dX7_lookAt_102 rfl (lv_at hl 0 rfl) ?_
    refine r_getI C hw km0 fX7_141 rfl dX7_lookAt_103 ?_
    refine lv_imul C.1.1 C.1.2.1 dX7_lookAt_106 ?_
    refine lv_iload_n C.1.1 C.1.2.1 dX7_lookAt_107 rfl (lv_at hl 1 rfl) ?_
    refine lv_iadd C.1.1 C.1.2.1 dX7_lookAt_108 ?_
    refine lv_istore_n (lv' := [(2, .int ((10 * (gi g 0 37)) + x1)), (0, .ref (ad 0)), (1, .int x1)]) C.1.1 C.1.2.1 dX7_lookAt_109 rfl hl (by decide) rfl (fun ls hl => ?_)
    refine lt_gen (P := fun x => lv_has ls 5 [(2, .int x), (0, .ref (ad 0)), (1, .int x1)]) h hl (fun x2_13 h hl => ?_)
    refine lv_aload_n C.1.1 C.1.2.1 dX7_lookAt_110 rfl (lv_at hl 1 rfl) ?_
    refine r_getR (v := .ref (ad 29)) C hw km0 fX7_316 rfl (hm47 hx) dX7_lookAt_111 ?_
    refine lv_iload_n C.1.1 C.1.2.1 dX7_lookAt_114 rfl (lv_at hl 2 rfl) ?_
    refine lv_iconst (v := 0) C.1.1 C.1.2.1 dX7_lookAt_115 (by decide) ?_
    obtain ⟨hz, h⟩ := ck_some h
    refine r_iast C hw km29 (inB_in hz) dX7_lookAt_116 (fun H locs hw => ?_)
    refine lt_gen (P := fun g => WS D cA ev hr ad A KM s H locs g) h hw (fun g_14 h hw => ?_)
    refine lv_iconst (v := 0) C.1.1 C.1.2.1 dX7_lookAt_117 (by decide) ?_
    refine lv_istore_n (lv' := [(3, .int 0), (2, .int x2_13), (0, .ref (ad 0)), (1, .int x1)]) C.1.1 C.1.2.1 dX7_lookAt_118 rfl hl (by decide) rfl (fun ls hl => ?_)
    exact w_X7_lookAt_119L kb87 hk87 C hx FU _ _ _ _ _ hw (lv_sub hl [2, 3, 1, 0] rfl) h
set_option maxHeartbeats 4000000 in
set_option maxRecDepth 100000 in
theorem w_X7_lookAt_87L {gz : GM} (C : CX p s m args meth c RX7 yX7_lookAt cX7_lookAt 5 none D cA) (hx : HM hr ad) : ∀ (n : Nat) (x1 : Int32) (g : GM) (H : Heap) (locs : List Loc) (ls : Array Slot), WS D cA ev hr ad A KM s H locs g → lv_has ls 5 [(0, .ref (ad 0)), (1, .int x1)] → fixN (F_X7_lookAt_87B) n (x1, g) = some gz → W p l e (RM 5 0 0) s m args below meth c H locs 0 0 (MQ below (QV D cA ev hr ad A KM gz) args s 0 0 A) (F0 m 87 ls []) := by
  intro n
  induction n with
  | zero => intro x1 g H locs ls hw hl h; exact (fix_zero h).elim
  | succ n ih => intro x1 g H locs ls hw hl h; exact w_X7_lookAt_87 (fixN (F_X7_lookAt_87B) n) ih C hx hw hl h
set_option maxHeartbeats 4000000 in
set_option maxRecDepth 100000 in
theorem w_X7_lookAt_73 {x1 : Int32} {x2 : Int32} {g : GM} {gz : GM} (kb2 : Int32 × GM → Option (GM)) (hk2 : ∀ (x1 : Int32) (g : GM) (H : Heap) (locs : List Loc) (ls : Array Slot), WS D cA ev hr ad A KM s H locs g → lv_has ls 5 [(0, .ref (ad 0)), (1, .int x1)] → kb2 (x1, g) = some gz → W p l e (RM 5 0 0) s m args below meth c H locs 0 0 (MQ below (QV D cA ev hr ad A KM gz) args s 0 0 A) (F0 m 2 ls [])) (kb24 : Int32 × GM → Option (GM)) (hk24 : ∀ (x2 : Int32) (g : GM) (H : Heap) (locs : List Loc) (ls : Array Slot), WS D cA ev hr ad A KM s H locs g → lv_has ls 5 [(0, .ref (ad 0)), (1, .int x1), (2, .int x2)] → kb24 (x2, g) = some gz → W p l e (RM 5 0 0) s m args below meth c H locs 0 0 (MQ below (QV D cA ev hr ad A KM gz) args s 0 0 A) (F0 m 24 ls [])) (C : CX p s m args meth c RX7 yX7_lookAt cX7_lookAt 5 none D cA) (hx : HM hr ad) {H : Heap} {locs : List Loc} (hw : WS D cA ev hr ad A KM s H locs g) {ls : Array Slot} (hl : lv_has ls 5 [(0, .ref (ad 0)), (1, .int x1), (2, .int x2)]) (h : F_X7_lookAt_73 kb2 kb24 x1 x2 g = some gz) : W p l e (RM 5 0 0) s m args below meth c H locs 0 0 (MQ below (QV D cA ev hr ad A KM gz) args s 0 0 A) (F0 m 73 ls []) := by
  refine lv_iinc (v := x2 + 1) (lv' := [(2, .int (x2 + 1)), (0, .ref (ad 0)), (1, .int x1)]) C.1.1 C.1.2.1 dX7_lookAt_73 hl (k := 2) rfl rfl (by decide) rfl (fun ls hl => ?_)
  refine lt_gen (P := fun x => lv_has ls 5 [(2, .int x), (0, .ref (ad 0)), (1, .int x1)]) h hl (fun x2_15 h hl => ?_)
  refine lv_goto (tgt := 24) C.1.1 C.1.2.1 dX7_lookAt_76 (by decide) ?_
  exact hk24 _ _ _ _ _ hw (lv_sub hl [1, 2, 0] rfl) h
set_option maxHeartbeats 4000000 in
set_option maxRecDepth 100000 in
theorem w_X7_lookAt_24 {x1 : Int32} {gz : GM} (kb2 : Int32 × GM → Option (GM)) (hk2 : ∀ (x1 : Int32) (g : GM) (H : Heap) (locs : List Loc) (ls : Array Slot), WS D cA ev hr ad A KM s H locs g → lv_has ls 5 [(0, .ref (ad 0)), (1, .int x1)] → kb2 (x1, g) = some gz → W p l e (RM 5 0 0) s m args below meth c H locs 0 0 (MQ below (QV D cA ev hr ad A KM gz) args s 0 0 A) (F0 m 2 ls [])) (kb24 : Int32 × GM → Option (GM)) (hk24 : ∀ (x2 : Int32) (g : GM) (H : Heap) (locs : List Loc) (ls : Array Slot), WS D cA ev hr ad A KM s H locs g → lv_has ls 5 [(0, .ref (ad 0)), (1, .int x1), (2, .int x2)] → kb24 (x2, g) = some gz → W p l e (RM 5 0 0) s m args below meth c H locs 0 0 (MQ below (QV D cA ev hr ad A KM gz) args s 0 0 A) (F0 m 24 ls [])) (C : CX p s m args meth c RX7 yX7_lookAt cX7_lookAt 5 none D cA) (hx : HM hr ad) {H : Heap} {locs : List Loc} {x2 : Int32} {g : GM} (hw : WS D cA ev hr ad A KM s H locs g) {ls : Array Slot} (hl : lv_has ls 5 [(0, .ref (ad 0)), (1, .int x1), (2, .int x2)]) (h : F_X7_lookAt_24B kb2 x1 kb24 (x2, g) = some gz) : W p l e (RM 5 0 0) s m args below meth c H locs 0 0 (MQ below (QV D cA ev hr ad A KM gz) args s 0 0 A) (F0 m 24 ls []) := by
  refine lv_iload_n C.1.1 C.1.2.1 dX7_lookAt_24 rfl (lv_at hl 2 rfl) ?_
  refine lv_aload_n C.1.1 C.1.2.1 dX7_lookAt_25 rfl (lv_at hl 0 rfl) ?_
  refine r_getR (v := .ref (ad 5)) C hw km0 fX7_106 rfl (hm14 hx) dX7_lookAt_26 ?_
  refine lv_aload_n C.1.1 C.1.2.1 dX7_lookAt_29 rfl (lv_at hl 0 rfl) ?_
  refine lv_iload_n C.1.1 C.1.2.1 dX7_lookAt_30 rfl (lv_at hl 1 rfl) ?_
  obtain ⟨r_16, hc, h⟩ := bnd_some h
  refine r_vI (dc := 1) (As := [.int x1]) (rest := [.ref (ad 5), .int x2]) C hw vX7_194 km0 (by decide) rfl (fun sz => c_X7_tableAt hx hc sz) (by decide) rfl rfl hl.1 (Nat.le_of_ble_eq_true rfl) dX7_lookAt_31 ⟨Nat.le_refl _, Nat.le_refl _⟩ (fun H locs hw => ?_)
  obtain ⟨hz, h⟩ := ck_some h
  refine r_iald C hw km5 (inB_in hz) dX7_lookAt_34 ?_
  refine lv_icmp_ge (tgt := 79) C.1.1 C.1.2.1 dX7_lookAt_35 (by decide) (fun hc => ?_) (fun hc => ?_)
  · replace h := ite_pos' h hc
    refine lv_iinc (v := x1 + 1) (lv' := [(1, .int (x1 + 1)), (0, .ref (ad 0)), (2, .int x2)]) C.1.1 C.1.2.1 dX7_lookAt_79 hl (k := 1) rfl rfl (by decide) rfl (fun ls hl => ?_)
    refine lt_gen (P := fun x => lv_has ls 5 [(1, .int x), (0, .ref (ad 0)), (2, .int x2)]) h hl (fun x1_17 h hl => ?_)
    refine lv_goto (tgt := 2) C.1.1 C.1.2.1 dX7_lookAt_82 (by decide) ?_
    exact hk2 _ _ _ _ _ hw (lv_sub hl [1, 0] rfl) h
  · replace h := ite_neg' h hc
    refine lv_aload_n C.1.1 C.1.2.1 dX7_lookAt_38 rfl (lv_at hl 0 rfl) ?_
    refine lv_iload_n C.1.1 C.1.2.1 dX7_lookAt_39 rfl (lv_at hl 1 rfl) ?_
    refine lv_iload_n C.1.1 C.1.2.1 dX7_lookAt_40 rfl (lv_at hl 2 rfl) ?_
    obtain ⟨r_18, hc, h⟩ := bnd_some h
    refine r_vI (dc := 2) (As := [.int x1, .int x2]) (rest := []) C hw vX7_313 km0 (by decide) rfl (fun sz => c_X7_isLink hx hc sz) (by decide) rfl rfl hl.1 (Nat.le_of_ble_eq_true rfl) dX7_lookAt_41 ⟨Nat.le_refl _, Nat.le_refl _⟩ (fun H locs hw => ?_)
    refine lv_if_eq (tgt := 73) C.1.1 C.1.2.1 dX7_lookAt_44 (by decide) (fun hc => ?_) (fun hc => ?_)
    · replace h := ite_pos' h hc
      exact w_X7_lookAt_73 kb2 hk2 kb24 hk24 C hx hw hl h
    · replace h := ite_neg' h hc
      refine lv_aload_n C.1.1 C.1.2.1 dX7_lookAt_47 rfl (lv_at hl 0 rfl) ?_
      refine lv_iload_n C.1.1 C.1.2.1 dX7_lookAt_48 rfl (lv_at hl 1 rfl) ?_
      refine lv_iload_n C.1.1 C.1.2.1 dX7_lookAt_49 rfl (lv_at hl 2 rfl) ?_
      obtain ⟨r_19, hc, h⟩ := bnd_some h
      refine r_vI (dc := 2) (As := [.int x1, .int x2]) (rest := []) C hw vX7_207 km0 (by decide) rfl (fun sz => c_X7_valueAt hx hc sz) (by decide) rfl rfl hl.1 (Nat.le_of_ble_eq_true rfl) dX7_lookAt_50 ⟨Nat.le_refl _, Nat.le_refl _⟩ (fun H locs hw => ?_)
      refine lv_if_lt (tgt := 73) C.1.1 C.1.2.1 dX7_lookAt_53 (by decide) (fun hc => ?_) (fun hc => ?_)
      · replace h := ite_pos' h hc
        exact w_X7_lookAt_73 kb2 hk2 kb24 hk24 C hx hw hl h
      · replace h := ite_neg' h hc
        refine lv_aload_n C.1.1 C.1.2.1 dX7_lookAt_56 rfl (lv_at hl 0 rfl) ?_
        refine r_getR (v := .ref (ad 28)) C hw km0 fX7_310 rfl (hm46 hx) dX7_lookAt_57 ?_
        refine lv_iload_n C.1.1 C.1.2.1 dX7_lookAt_60 rfl (lv_at hl 1 rfl) ?_
        refine lv_dup2_11 C.1.1 C.1.2.1 dX7_lookAt_61 rfl rfl ?_
        obtain ⟨hz, h⟩ := ck_some h
        refine r_iald C hw km28 (inB_in hz) dX7_lookAt_62 ?_
        refine lv_iconst (v := 1) C.1.1 C.1.2.1 dX7_lookAt_63 (by decide) ?_
        refine lv_aload_n C.1.1 C.1.2.1 dX7_lookAt_64 rfl (lv_at hl 0 rfl) ?_
        refine lv_iload_n C.1.1 C.1.2.1 dX7_lookAt_65 rfl (lv_at hl 1 rfl) ?_
        refine lv_iload_n C.1.1 C.1.2.1 dX7_lookAt_66 rfl (lv_at hl 2 rfl) ?_
        obtain ⟨r_20, hc, h⟩ := bnd_some h
        refine r_vI (dc := 2) (As := [.int x1, .int x2]) (rest := [.int 1, .int (gi g 28 x1.toNatClampNeg), .int x1, .ref (ad 28)]) C hw vX7_207 km0 (by decide) rfl (fun sz => c_X7_valueAt hx hc sz) (by decide) rfl rfl hl.1 (Nat.le_of_ble_eq_true rfl) dX7_lookAt_67 ⟨Nat.le_refl _, Nat.le_refl _⟩ (fun H locs hw => ?_)
        refine lv_ishl C.1.1 C.1.2.1 dX7_lookAt_70 ?_
        refine lv_ior C.1.1 C.1.2.1 dX7_lookAt_71 ?_
        obtain ⟨hz, h⟩ := ck_some h
        refine r_iast C hw km28 (inB_in hz) dX7_lookAt_72 (fun H locs hw => ?_)
        refine lt_gen (P := fun g => WS D cA ev hr ad A KM s H locs g) h hw (fun g_21 h hw => ?_)
        exact w_X7_lookAt_73 kb2 hk2 kb24 hk24 C hx hw hl h
set_option maxHeartbeats 4000000 in
set_option maxRecDepth 100000 in
theorem w_X7_lookAt_24L {x1 : Int32} {gz : GM} (kb2 : Int32 × GM → Option (GM)) (hk2 : ∀ (x1 : Int32) (g : GM) (H : Heap) (locs : List Loc) (ls : Array Slot), WS D cA ev hr ad A KM s H locs g → lv_has ls 5 [(0, .ref (ad 0)), (1, .int x1)] → kb2 (x1, g) = some gz → W p l e (RM 5 0 0) s m args below meth c H locs 0 0 (MQ below (QV D cA ev hr ad A KM gz) args s 0 0 A) (F0 m 2 ls [])) (C : CX p s m args meth c RX7 yX7_lookAt cX7_lookAt 5 none D cA) (hx : HM hr ad) : ∀ (n : Nat) (x2 : Int32) (g : GM) (H : Heap) (locs : List Loc) (ls : Array Slot), WS D cA ev hr ad A KM s H locs g → lv_has ls 5 [(0, .ref (ad 0)), (1, .int x1), (2, .int x2)] → fixN (F_X7_lookAt_24B kb2 x1) n (x2, g) = some gz → W p l e (RM 5 0 0) s m args below meth c H locs 0 0 (MQ below (QV D cA ev hr ad A KM gz) args s 0 0 A) (F0 m 24 ls []) := by
  intro n
  induction n with
  | zero => intro x2 g H locs ls hw hl h; exact (fix_zero h).elim
  | succ n ih => intro x2 g H locs ls hw hl h; exact w_X7_lookAt_24 kb2 hk2 (fixN (F_X7_lookAt_24B kb2 x1) n) ih C hx hw hl h
set_option maxHeartbeats 4000000 in
set_option maxRecDepth 100000 in
theorem w_X7_lookAt_2 {gz : GM} (kb2 : Int32 × GM → Option (GM)) (hk2 : ∀ (x1 : Int32) (g : GM) (H : Heap) (locs : List Loc) (ls : Array Slot), WS D cA ev hr ad A KM s H locs g → lv_has ls 5 [(0, .ref (ad 0)), (1, .int x1)] → kb2 (x1, g) = some gz → W p l e (RM 5 0 0) s m args below meth c H locs 0 0 (MQ below (QV D cA ev hr ad A KM gz) args s 0 0 A) (F0 m 2 ls [])) (C : CX p s m args meth c RX7 yX7_lookAt cX7_lookAt 5 none D cA) (hx : HM hr ad) {H : Heap} {locs : List Loc} {x1 : Int32} {g : GM} (hw : WS D cA ev hr ad A KM s H locs g) {ls : Array Slot} (hl : lv_has ls 5 [(0, .ref (ad 0)), (1, .int x1)]) (h : F_X7_lookAt_2B kb2 (x1, g) = some gz) : W p l e (RM 5 0 0) s m args below meth c H locs 0 0 (MQ below (QV D cA ev hr ad A KM gz) args s 0 0 A) (F0 m 2 ls []) := by
  refine lv_iload_n C.1.1 C.1.2.1 dX7_lookAt_2 rfl (lv_at hl 1 rfl) ?_
  refine lv_aload_n C.1.1 C.1.2.1 dX7_lookAt_3 rfl (lv_at hl 0 rfl) ?_
  refine r_getR (v := .ref (ad 13)) C hw km0 fX7_122 rfl (hm22 hx) dX7_lookAt_4 ?_
  refine lv_aload_n C.1.1 C.1.2.1 dX7_lookAt_7 rfl (lv_at hl 0 rfl) ?_
  refine r_getI C hw km0 fX7_116 rfl dX7_lookAt_8 ?_
  obtain ⟨hz, h⟩ := ck_some h
  refine r_iald C hw km13 (inB_in hz) dX7_lookAt_11 ?_
  refine lv_icmp_ge (tgt := 85) C.1.1 C.1.2.1 dX7_lookAt_12 (by decide) (fun hc => ?_) (fun hc => ?_)
  · replace h := ite_pos' h hc
    refine lv_iconst (v := 0) C.1.1 C.1.2.1 dX7_lookAt_85 (by decide) ?_
    refine lv_istore_n (lv' := [(1, .int 0), (0, .ref (ad 0))]) C.1.1 C.1.2.1 dX7_lookAt_86 rfl hl (by decide) rfl (fun ls hl => ?_)
    exact w_X7_lookAt_87L C hx FU _ _ _ _ _ hw (lv_sub hl [1, 0] rfl) h
  · replace h := ite_neg' h hc
    refine lv_aload_n C.1.1 C.1.2.1 dX7_lookAt_15 rfl (lv_at hl 0 rfl) ?_
    refine r_getR (v := .ref (ad 28)) C hw km0 fX7_310 rfl (hm46 hx) dX7_lookAt_16 ?_
    refine lv_iload_n C.1.1 C.1.2.1 dX7_lookAt_19 rfl (lv_at hl 1 rfl) ?_
    refine lv_iconst (v := 0) C.1.1 C.1.2.1 dX7_lookAt_20 (by decide) ?_
    obtain ⟨hz, h⟩ := ck_some h
    refine r_iast C hw km28 (inB_in hz) dX7_lookAt_21 (fun H locs hw => ?_)
    refine lt_gen (P := fun g => WS D cA ev hr ad A KM s H locs g) h hw (fun g_22 h hw => ?_)
    refine lv_iconst (v := 0) C.1.1 C.1.2.1 dX7_lookAt_22 (by decide) ?_
    refine lv_istore_n (lv' := [(2, .int 0), (0, .ref (ad 0)), (1, .int x1)]) C.1.1 C.1.2.1 dX7_lookAt_23 rfl hl (by decide) rfl (fun ls hl => ?_)
    exact w_X7_lookAt_24L kb2 hk2 C hx FU _ _ _ _ _ hw (lv_sub hl [1, 2, 0] rfl) h
set_option maxHeartbeats 4000000 in
set_option maxRecDepth 100000 in
theorem w_X7_lookAt_2L {gz : GM} (C : CX p s m args meth c RX7 yX7_lookAt cX7_lookAt 5 none D cA) (hx : HM hr ad) : ∀ (n : Nat) (x1 : Int32) (g : GM) (H : Heap) (locs : List Loc) (ls : Array Slot), WS D cA ev hr ad A KM s H locs g → lv_has ls 5 [(0, .ref (ad 0)), (1, .int x1)] → fixN (F_X7_lookAt_2B) n (x1, g) = some gz → W p l e (RM 5 0 0) s m args below meth c H locs 0 0 (MQ below (QV D cA ev hr ad A KM gz) args s 0 0 A) (F0 m 2 ls []) := by
  intro n
  induction n with
  | zero => intro x1 g H locs ls hw hl h; exact (fix_zero h).elim
  | succ n ih => intro x1 g H locs ls hw hl h; exact w_X7_lookAt_2 (fixN (F_X7_lookAt_2B) n) ih C hx hw hl h
set_option maxHeartbeats 4000000 in
set_option maxRecDepth 100000 in
theorem w_X7_lookAt_0 (C : CX p s m args meth c RX7 yX7_lookAt cX7_lookAt 5 none D cA) (hx : HM hr ad) {H : Heap} {locs : List Loc} {g : GM} (hw : WS D cA ev hr ad A KM s H locs g) {ls : Array Slot} (hl : lv_has ls 5 [(0, .ref (ad 0))]) {gz : GM} (h : F_X7_lookAt g = some gz) : W p l e (RM 5 0 0) s m args below meth c H locs 0 0 (MQ below (QV D cA ev hr ad A KM gz) args s 0 0 A) (F0 m 0 ls []) := by
  refine lv_iconst (v := 0) C.1.1 C.1.2.1 dX7_lookAt_0 (by decide) ?_
  refine lv_istore_n (lv' := [(1, .int 0), (0, .ref (ad 0))]) C.1.1 C.1.2.1 dX7_lookAt_1 rfl hl (by decide) rfl (fun ls hl => ?_)
  exact w_X7_lookAt_2L C hx FU _ _ _ _ _ hw (lv_sub hl [1, 0] rfl) h
set_option maxHeartbeats 4000000 in
set_option maxRecDepth 100000 in
theorem c_X7_lookAt (hx : HM hr ad) {g : GM} {gz : GM} (h : F_X7_lookAt g = some gz) (sz : Nat) : Met l yX7_lookAt (WSX yX7_lookAt cX7_lookAt 5 none) (RM 5 0 0) (va_Pc [.ref (ad 0)] (PX D cA ev hr ad KM g sz)) (QV D cA ev hr ad (AX ad KM.length sz) KM gz) 0 0 (AX ad KM.length sz) :=
  met_of (own := RX7) pnX7 rfl (Nat.le_of_ble_eq_true rfl) (fun p e s m below meth c ls C hw hsz hl => w_X7_lookAt_0 C hx hw hl h)
set_option maxHeartbeats 4000000 in
set_option maxRecDepth 100000 in
theorem w_X7_isPiece_195 {x1 : Int32} {x2 : Int32} {g : GM} {r : Int32} (kb58 : Int32 → Option (Int32)) (hk58 : ∀ (x2 : Int32) (H : Heap) (locs : List Loc) (ls : Array Slot), WS D cA ev hr ad A KM s H locs g → lv_has ls 6 [(0, .ref (ad 0)), (1, .int x1), (2, .int x2)] → kb58 x2 = some r → W p l e (RM 2 0 0) s m args below meth c H locs 0 0 (MQ below (QI D cA ev hr ad A KM r g) args s 0 0 A) (F0 m 58 ls [])) (C : CX p s m args meth c RX7 yX7_isPiece cX7_isPiece 6 (some .boolean) D cA) (hx : HM hr ad) {H : Heap} {locs : List Loc} (hw : WS D cA ev hr ad A KM s H locs g) {ls : Array Slot} (hl : lv_has ls 6 [(0, .ref (ad 0)), (1, .int x1), (2, .int x2)]) (h : F_X7_isPiece_195 kb58 x1 x2 g = some r) : W p l e (RM 2 0 0) s m args below meth c H locs 0 0 (MQ below (QI D cA ev hr ad A KM r g) args s 0 0 A) (F0 m 195 ls []) := by
  refine lv_iinc (v := x2 + 1) (lv' := [(2, .int (x2 + 1)), (0, .ref (ad 0)), (1, .int x1)]) C.1.1 C.1.2.1 dX7_isPiece_195 hl (k := 2) rfl rfl (by decide) rfl (fun ls hl => ?_)
  refine lt_gen (P := fun x => lv_has ls 6 [(2, .int x), (0, .ref (ad 0)), (1, .int x1)]) h hl (fun x2_1 h hl => ?_)
  refine lv_goto (tgt := 58) C.1.1 C.1.2.1 dX7_isPiece_198 (by decide) ?_
  exact hk58 _ _ _ _ hw (lv_sub hl [1, 2, 0] rfl) h
set_option maxHeartbeats 4000000 in
set_option maxRecDepth 100000 in
theorem w_X7_isPiece_189 {x1 : Int32} {x2 : Int32} {x3 : Int32} {x4 : Int32} {g : GM} {r : Int32} (kb58 : Int32 → Option (Int32)) (hk58 : ∀ (x2 : Int32) (H : Heap) (locs : List Loc) (ls : Array Slot), WS D cA ev hr ad A KM s H locs g → lv_has ls 6 [(0, .ref (ad 0)), (1, .int x1), (2, .int x2)] → kb58 x2 = some r → W p l e (RM 2 0 0) s m args below meth c H locs 0 0 (MQ below (QI D cA ev hr ad A KM r g) args s 0 0 A) (F0 m 58 ls [])) (kb115 : Int32 → Option (Int32)) (hk115 : ∀ (x4 : Int32) (H : Heap) (locs : List Loc) (ls : Array Slot), WS D cA ev hr ad A KM s H locs g → lv_has ls 6 [(0, .ref (ad 0)), (1, .int x1), (2, .int x2), (3, .int x3), (4, .int x4)] → kb115 x4 = some r → W p l e (RM 2 0 0) s m args below meth c H locs 0 0 (MQ below (QI D cA ev hr ad A KM r g) args s 0 0 A) (F0 m 115 ls [])) (C : CX p s m args meth c RX7 yX7_isPiece cX7_isPiece 6 (some .boolean) D cA) (hx : HM hr ad) {H : Heap} {locs : List Loc} (hw : WS D cA ev hr ad A KM s H locs g) {ls : Array Slot} (hl : lv_has ls 6 [(0, .ref (ad 0)), (1, .int x1), (2, .int x2), (3, .int x3), (4, .int x4)]) (h : F_X7_isPiece_189 kb58 kb115 x1 x2 x3 x4 g = some r) : W p l e (RM 2 0 0) s m args below meth c H locs 0 0 (MQ below (QI D cA ev hr ad A KM r g) args s 0 0 A) (F0 m 189 ls []) := by
  refine lv_iinc (v := x4 + 1) (lv' := [(4, .int (x4 + 1)), (0, .ref (ad 0)), (1, .int x1), (2, .int x2), (3, .int x3)]) C.1.1 C.1.2.1 dX7_isPiece_189 hl (k := 4) rfl rfl (by decide) rfl (fun ls hl => ?_)
  refine lt_gen (P := fun x => lv_has ls 6 [(4, .int x), (0, .ref (ad 0)), (1, .int x1), (2, .int x2), (3, .int x3)]) h hl (fun x4_2 h hl => ?_)
  refine lv_goto (tgt := 115) C.1.1 C.1.2.1 dX7_isPiece_192 (by decide) ?_
  exact hk115 _ _ _ _ hw (lv_sub hl [1, 2, 3, 4, 0] rfl) h
set_option maxHeartbeats 4000000 in
set_option maxRecDepth 100000 in
theorem w_X7_isPiece_115 {x1 : Int32} {x2 : Int32} {x3 : Int32} {g : GM} {r : Int32} (kb58 : Int32 → Option (Int32)) (hk58 : ∀ (x2 : Int32) (H : Heap) (locs : List Loc) (ls : Array Slot), WS D cA ev hr ad A KM s H locs g → lv_has ls 6 [(0, .ref (ad 0)), (1, .int x1), (2, .int x2)] → kb58 x2 = some r → W p l e (RM 2 0 0) s m args below meth c H locs 0 0 (MQ below (QI D cA ev hr ad A KM r g) args s 0 0 A) (F0 m 58 ls [])) (kb115 : Int32 → Option (Int32)) (hk115 : ∀ (x4 : Int32) (H : Heap) (locs : List Loc) (ls : Array Slot), WS D cA ev hr ad A KM s H locs g → lv_has ls 6 [(0, .ref (ad 0)), (1, .int x1), (2, .int x2), (3, .int x3), (4, .int x4)] → kb115 x4 = some r → W p l e (RM 2 0 0) s m args below meth c H locs 0 0 (MQ below (QI D cA ev hr ad A KM r g) args s 0 0 A) (F0 m 115 ls [])) (C : CX p s m args meth c RX7 yX7_isPiece cX7_isPiece 6 (some .boolean) D cA) (hx : HM hr ad) {H : Heap} {locs : List Loc} {x4 : Int32} (hw : WS D cA ev hr ad A KM s H locs g) {ls : Array Slot} (hl : lv_has ls 6 [(0, .ref (ad 0)), (1, .int x1), (2, .int x2), (3, .int x3), (4, .int x4)]) (h : F_X7_isPiece_115B kb58 x1 x2 x3 g kb115 x4 = some r) : W p l e (RM 2 0 0) s m args below meth c H locs 0 0 (MQ below (QI D cA ev hr ad A KM r g) args s 0 0 A) (F0 m 115 ls []) := by
  refine lv_iload C.1.1 C.1.2.1 dX7_isPiece_115 (lv_at hl 4 rfl) ?_
  refine lv_aload_n C.1.1 C.1.2.1 dX7_isPiece_117 rfl (lv_at hl 0 rfl) ?_
  refine r_getR (v := .ref (ad 13)) C hw km0 fX7_122 rfl (hm22 hx) dX7_isPiece_118 ?_
  refine lv_aload_n C.1.1 C.1.2.1 dX7_isPiece_121 rfl (lv_at hl 0 rfl) ?_
  refine r_getI C hw km0 fX7_116 rfl dX7_isPiece_122 ?_
  obtain ⟨hz, h⟩ := ck_some h
  refine r_iald C hw km13 (inB_in hz) dX7_isPiece_125 ?_
  refine lv_icmp_ge (tgt := 195) C.1.1 C.1.2.1 dX7_isPiece_126 (by decide) (fun hc => ?_) (fun hc => ?_)
  · replace h := ite_pos' h hc
    exact w_X7_isPiece_195 kb58 hk58 C hx hw (lv_sub hl [0, 1, 2] rfl) h
  · replace h := ite_neg' h hc
    refine lv_aload_n C.1.1 C.1.2.1 dX7_isPiece_129 rfl (lv_at hl 0 rfl) ?_
    refine r_getR (v := .ref (ad 17)) C hw km0 fX7_226 rfl (hm28 hx) dX7_isPiece_130 ?_
    refine lv_iload_n C.1.1 C.1.2.1 dX7_isPiece_133 rfl (lv_at hl 3 rfl) ?_
    obtain ⟨hz, h⟩ := ck_some h
    refine r_iald C hw km17 (inB_in hz) dX7_isPiece_134 ?_
    refine lv_if_lt (tgt := 195) C.1.1 C.1.2.1 dX7_isPiece_135 (by decide) (fun hc => ?_) (fun hc => ?_)
    · replace h := ite_pos' h hc
      exact w_X7_isPiece_195 kb58 hk58 C hx hw (lv_sub hl [0, 1, 2] rfl) h
    · replace h := ite_neg' h hc
      refine lv_aload_n C.1.1 C.1.2.1 dX7_isPiece_138 rfl (lv_at hl 0 rfl) ?_
      refine r_getR (v := .ref (ad 30)) C hw km0 fX7_319 rfl (hm48 hx) dX7_isPiece_139 ?_
      refine lv_bipush (v := 16) C.1.1 C.1.2.1 dX7_isPiece_142 (by decide) ?_
      refine lv_iload_n C.1.1 C.1.2.1 dX7_isPiece_144 rfl (lv_at hl 2 rfl) ?_
      refine lv_imul C.1.1 C.1.2.1 dX7_isPiece_145 ?_
      refine lv_iload C.1.1 C.1.2.1 dX7_isPiece_146 (lv_at hl 4 rfl) ?_
      refine lv_iadd C.1.1 C.1.2.1 dX7_isPiece_148 ?_
      obtain ⟨hz, h⟩ := ck_some h
      refine r_iald C hw km30 (inB_in hz) dX7_isPiece_149 ?_
      refine lv_istore (lv' := [(5, .int (gi g 30 ((16 * x2) + x4).toNatClampNeg)), (0, .ref (ad 0)), (1, .int x1), (2, .int x2), (3, .int x3), (4, .int x4)]) C.1.1 C.1.2.1 dX7_isPiece_150 hl (by decide) rfl (fun ls hl => ?_)
      refine lt_gen (P := fun x => lv_has ls 6 [(5, .int x), (0, .ref (ad 0)), (1, .int x1), (2, .int x2), (3, .int x3), (4, .int x4)]) h hl (fun x5_3 h hl => ?_)
      refine lv_iload_n C.1.1 C.1.2.1 dX7_isPiece_152 rfl (lv_at hl 2 rfl) ?_
      refine lv_iload C.1.1 C.1.2.1 dX7_isPiece_153 (lv_at hl 5 rfl) ?_
      refine lv_ishr C.1.1 C.1.2.1 dX7_isPiece_155 ?_
      refine lv_iconst (v := 1) C.1.1 C.1.2.1 dX7_isPiece_156 (by decide) ?_
      refine lv_iand C.1.1 C.1.2.1 dX7_isPiece_157 ?_
      refine lv_iconst (v := 1) C.1.1 C.1.2.1 dX7_isPiece_158 (by decide) ?_
      refine lv_icmp_ne (tgt := 189) C.1.1 C.1.2.1 dX7_isPiece_159 (by decide) (fun hc => ?_) (fun hc => ?_)
      · replace h := ite_neg' h hc
        exact w_X7_isPiece_189 kb58 hk58 kb115 hk115 C hx hw (lv_sub hl [1, 2, 3, 4, 5] rfl) h
      · replace h := ite_pos' h hc
        refine lv_iload C.1.1 C.1.2.1 dX7_isPiece_162 (lv_at hl 0 rfl) ?_
        refine lv_iload_n C.1.1 C.1.2.1 dX7_isPiece_164 rfl (lv_at hl 2 rfl) ?_
        refine lv_iconst (v := (-1)) C.1.1 C.1.2.1 dX7_isPiece_165 (by decide) ?_
        refine lv_ixor C.1.1 C.1.2.1 dX7_isPiece_166 ?_
        refine lv_iand C.1.1 C.1.2.1 dX7_isPiece_167 ?_
        refine lv_if_eq (tgt := 189) C.1.1 C.1.2.1 dX7_isPiece_168 (by decide) (fun hc => ?_) (fun hc => ?_)
        · replace h := ite_pos' h hc
          exact w_X7_isPiece_189 kb58 hk58 kb115 hk115 C hx hw (lv_sub hl [1, 2, 3, 4, 5] rfl) h
        · replace h := ite_neg' h hc
          refine lv_iload C.1.1 C.1.2.1 dX7_isPiece_171 (lv_at hl 0 rfl) ?_
          refine lv_iload_n C.1.1 C.1.2.1 dX7_isPiece_173 rfl (lv_at hl 2 rfl) ?_
          refine lv_iand C.1.1 C.1.2.1 dX7_isPiece_174 ?_
          obtain ⟨r_4, hc, h⟩ := bnd_some h
          refine r_sI (dc := 1) (As := [.int (x5_3 &&& x1)]) (rest := []) C hw sX7_322 (fun sz => c_X7_bitsOf hx hc sz) (by decide) rfl rfl hl.1 (Nat.le_of_ble_eq_true rfl) dX7_isPiece_175 ⟨Nat.le_refl _, Nat.le_refl _⟩ (fun H locs hw => ?_)
          refine lv_aload_n C.1.1 C.1.2.1 dX7_isPiece_178 rfl (lv_at hl 1 rfl) ?_
          refine r_getR (v := .ref (ad 16)) C hw km0 fX7_236 rfl (hm27 hx) dX7_isPiece_179 ?_
          refine lv_iload_n C.1.1 C.1.2.1 dX7_isPiece_182 rfl (lv_at hl 4 rfl) ?_
          obtain ⟨hz, h⟩ := ck_some h
          refine r_iald C hw km16 (inB_in hz) dX7_isPiece_183 ?_
          refine lv_icmp_ge (tgt := 189) C.1.1 C.1.2.1 dX7_isPiece_184 (by decide) (fun hc => ?_) (fun hc => ?_)
          · replace h := ite_pos' h hc
            exact w_X7_isPiece_189 kb58 hk58 kb115 hk115 C hx hw (lv_sub hl [1, 2, 3, 4, 5] rfl) h
          · replace h := ite_neg' h hc
            refine lv_iconst (v := 0) C.1.1 C.1.2.1 dX7_isPiece_187 (by decide) ?_
            cases h
            exact r_iret C hw (Or.inr ⟨rfl, Or.inl rfl⟩) dX7_isPiece_188
set_option maxHeartbeats 4000000 in
set_option maxRecDepth 100000 in
theorem w_X7_isPiece_115L {x1 : Int32} {x2 : Int32} {x3 : Int32} {g : GM} {r : Int32} (kb58 : Int32 → Option (Int32)) (hk58 : ∀ (x2 : Int32) (H : Heap) (locs : List Loc) (ls : Array Slot), WS D cA ev hr ad A KM s H locs g → lv_has ls 6 [(0, .ref (ad 0)), (1, .int x1), (2, .int x2)] → kb58 x2 = some r → W p l e (RM 2 0 0) s m args below meth c H locs 0 0 (MQ below (QI D cA ev hr ad A KM r g) args s 0 0 A) (F0 m 58 ls [])) (C : CX p s m args meth c RX7 yX7_isPiece cX7_isPiece 6 (some .boolean) D cA) (hx : HM hr ad) : ∀ (n : Nat) (x4 : Int32) (H : Heap) (locs : List Loc) (ls : Array Slot), WS D cA ev hr ad A KM s H locs g → lv_has ls 6 [(0, .ref (ad 0)), (1, .int x1), (2, .int x2), (3, .int x3), (4, .int x4)] → fixN (F_X7_isPiece_115B kb58 x1 x2 x3 g) n x4 = some r → W p l e (RM 2 0 0) s m args below meth c H locs 0 0 (MQ below (QI D cA ev hr ad A KM r g) args s 0 0 A) (F0 m 115 ls []) := by
  intro n
  induction n with
  | zero => intro x4 H locs ls hw hl h; exact (fix_zero h).elim
  | succ n ih => intro x4 H locs ls hw hl h; exact w_X7_isPiece_115 kb58 hk58 (fixN (F_X7_isPiece_115B kb58 x1 x2 x3 g) n) ih C hx hw hl h
set_option maxHeartbeats 4000000 in
set_option maxRecDepth 100000 in
theorem w_X7_isPiece_112 {x1 : Int32} {x2 : Int32} {x3 : Int32} {g : GM} {r : Int32} (kb58 : Int32 → Option (Int32)) (hk58 : ∀ (x2 : Int32) (H : Heap) (locs : List Loc) (ls : Array Slot), WS D cA ev hr ad A KM s H locs g → lv_has ls 6 [(0, .ref (ad 0)), (1, .int x1), (2, .int x2)] → kb58 x2 = some r → W p l e (RM 2 0 0) s m args below meth c H locs 0 0 (MQ below (QI D cA ev hr ad A KM r g) args s 0 0 A) (F0 m 58 ls [])) (C : CX p s m args meth c RX7 yX7_isPiece cX7_isPiece 6 (some .boolean) D cA) (hx : HM hr ad) {H : Heap} {locs : List Loc} (hw : WS D cA ev hr ad A KM s H locs g) {ls : Array Slot} (hl : lv_has ls 6 [(0, .ref (ad 0)), (1, .int x1), (2, .int x2), (3, .int x3)]) (h : F_X7_isPiece_112 kb58 x1 x2 x3 g = some r) : W p l e (RM 2 0 0) s m args below meth c H locs 0 0 (MQ below (QI D cA ev hr ad A KM r g) args s 0 0 A) (F0 m 112 ls []) := by
  refine lv_iconst (v := 0) C.1.1 C.1.2.1 dX7_isPiece_112 (by decide) ?_
  refine lv_istore (lv' := [(4, .int 0), (0, .ref (ad 0)), (1, .int x1), (2, .int x2), (3, .int x3)]) C.1.1 C.1.2.1 dX7_isPiece_113 hl (by decide) rfl (fun ls hl => ?_)
  exact w_X7_isPiece_115L kb58 hk58 C hx FU _ _ _ _ hw (lv_sub hl [1, 2, 3, 4, 0] rfl) h
set_option maxHeartbeats 4000000 in
set_option maxRecDepth 100000 in
theorem w_X7_isPiece_58 {x1 : Int32} {g : GM} {r : Int32} (kb58 : Int32 → Option (Int32)) (hk58 : ∀ (x2 : Int32) (H : Heap) (locs : List Loc) (ls : Array Slot), WS D cA ev hr ad A KM s H locs g → lv_has ls 6 [(0, .ref (ad 0)), (1, .int x1), (2, .int x2)] → kb58 x2 = some r → W p l e (RM 2 0 0) s m args below meth c H locs 0 0 (MQ below (QI D cA ev hr ad A KM r g) args s 0 0 A) (F0 m 58 ls [])) (C : CX p s m args meth c RX7 yX7_isPiece cX7_isPiece 6 (some .boolean) D cA) (hx : HM hr ad) {H : Heap} {locs : List Loc} {x2 : Int32} (hw : WS D cA ev hr ad A KM s H locs g) {ls : Array Slot} (hl : lv_has ls 6 [(0, .ref (ad 0)), (1, .int x1), (2, .int x2)]) (h : F_X7_isPiece_58B x1 g kb58 x2 = some r) : W p l e (RM 2 0 0) s m args below meth c H locs 0 0 (MQ below (QI D cA ev hr ad A KM r g) args s 0 0 A) (F0 m 58 ls []) := by
  refine lv_iload_n C.1.1 C.1.2.1 dX7_isPiece_58 rfl (lv_at hl 2 rfl) ?_
  refine lv_aload_n C.1.1 C.1.2.1 dX7_isPiece_59 rfl (lv_at hl 0 rfl) ?_
  refine r_getR (v := .ref (ad 14)) C hw km0 fX7_138 rfl (hm25 hx) dX7_isPiece_60 ?_
  refine lv_aload_n C.1.1 C.1.2.1 dX7_isPiece_63 rfl (lv_at hl 0 rfl) ?_
  refine r_getI C hw km0 fX7_141 rfl dX7_isPiece_64 ?_
  obtain ⟨hz, h⟩ := ck_some h
  refine r_iald C hw km14 (inB_in hz) dX7_isPiece_67 ?_
  refine lv_icmp_ge (tgt := 201) C.1.1 C.1.2.1 dX7_isPiece_68 (by decide) (fun hc => ?_) (fun hc => ?_)
  · replace h := ite_pos' h hc
    refine lv_iconst (v := 1) C.1.1 C.1.2.1 dX7_isPiece_201 (by decide) ?_
    cases h
    exact r_iret C hw (Or.inr ⟨rfl, Or.inr rfl⟩) dX7_isPiece_202
  · replace h := ite_neg' h hc
    refine lv_bipush (v := 10) C.1.1 C.1.2.1 dX7_isPiece_71 (by decide) ?_
    refine lv_aload_n C.1.1 C.1.2.1 dX7_isPiece_73 rfl (lv_at hl 0 rfl) ?_
    refine r_getI C hw km0 fX7_141 rfl dX7_isPiece_74 ?_
    refine lv_imul C.1.1 C.1.2.1 dX7_isPiece_77 ?_
    refine lv_iload_n C.1.1 C.1.2.1 dX7_isPiece_78 rfl (lv_at hl 2 rfl) ?_
    refine lv_iadd C.1.1 C.1.2.1 dX7_isPiece_79 ?_
    refine lv_istore_n (lv' := [(3, .int ((10 * (gi g 0 37)) + x2)), (0, .ref (ad 0)), (1, .int x1), (2, .int x2)]) C.1.1 C.1.2.1 dX7_isPiece_80 rfl hl (by decide) rfl (fun ls hl => ?_)
    refine lt_gen (P := fun x => lv_has ls 6 [(3, .int x), (0, .ref (ad 0)), (1, .int x1), (2, .int x2)]) h hl (fun x3_5 h hl => ?_)
    refine lv_aload_n C.1.1 C.1.2.1 dX7_isPiece_81 rfl (lv_at hl 1 rfl) ?_
    refine r_getR (v := .ref (ad 17)) C hw km0 fX7_226 rfl (hm28 hx) dX7_isPiece_82 ?_
    refine lv_iload_n C.1.1 C.1.2.1 dX7_isPiece_85 rfl (lv_at hl 0 rfl) ?_
    obtain ⟨hz, h⟩ := ck_some h
    refine r_iald C hw km17 (inB_in hz) dX7_isPiece_86 ?_
    refine lv_if_ge (tgt := 112) C.1.1 C.1.2.1 dX7_isPiece_87 (by decide) (fun hc => ?_) (fun hc => ?_)
    · replace h := ite_pos' h hc
      exact w_X7_isPiece_112 kb58 hk58 C hx hw (lv_sub hl [1, 2, 3, 0] rfl) h
    · replace h := ite_neg' h hc
      refine lv_aload_n C.1.1 C.1.2.1 dX7_isPiece_90 rfl (lv_at hl 1 rfl) ?_
      refine r_getR (v := .ref (ad 29)) C hw km0 fX7_316 rfl (hm47 hx) dX7_isPiece_91 ?_
      refine lv_iload_n C.1.1 C.1.2.1 dX7_isPiece_94 rfl (lv_at hl 3 rfl) ?_
      obtain ⟨hz, h⟩ := ck_some h
      refine r_iald C hw km29 (inB_in hz) dX7_isPiece_95 ?_
      refine lv_iload_n C.1.1 C.1.2.1 dX7_isPiece_96 rfl (lv_at hl 2 rfl) ?_
      refine lv_iand C.1.1 C.1.2.1 dX7_isPiece_97 ?_
      obtain ⟨r_6, hc, h⟩ := bnd_some h
      refine r_sI (dc := 1) (As := [.int ((gi g 29 x2.toNatClampNeg) &&& x1)]) (rest := []) C hw sX7_322 (fun sz => c_X7_bitsOf hx hc sz) (by decide) rfl rfl hl.1 (Nat.le_of_ble_eq_true rfl) dX7_isPiece_98 ⟨Nat.le_refl _, Nat.le_refl _⟩ (fun H locs hw => ?_)
      refine lv_aload_n C.1.1 C.1.2.1 dX7_isPiece_101 rfl (lv_at hl 1 rfl) ?_
      refine r_getR (v := .ref (ad 16)) C hw km0 fX7_236 rfl (hm27 hx) dX7_isPiece_102 ?_
      refine lv_iload_n C.1.1 C.1.2.1 dX7_isPiece_105 rfl (lv_at hl 0 rfl) ?_
      obtain ⟨hz, h⟩ := ck_some h
      refine r_iald C hw km16 (inB_in hz) dX7_isPiece_106 ?_
      refine lv_icmp_ge (tgt := 112) C.1.1 C.1.2.1 dX7_isPiece_107 (by decide) (fun hc => ?_) (fun hc => ?_)
      · replace h := ite_pos' h hc
        exact w_X7_isPiece_112 kb58 hk58 C hx hw (lv_sub hl [1, 2, 3, 0] rfl) h
      · replace h := ite_neg' h hc
        refine lv_iconst (v := 0) C.1.1 C.1.2.1 dX7_isPiece_110 (by decide) ?_
        cases h
        exact r_iret C hw (Or.inr ⟨rfl, Or.inl rfl⟩) dX7_isPiece_111
set_option maxHeartbeats 4000000 in
set_option maxRecDepth 100000 in
theorem w_X7_isPiece_58L {x1 : Int32} {g : GM} {r : Int32} (C : CX p s m args meth c RX7 yX7_isPiece cX7_isPiece 6 (some .boolean) D cA) (hx : HM hr ad) : ∀ (n : Nat) (x2 : Int32) (H : Heap) (locs : List Loc) (ls : Array Slot), WS D cA ev hr ad A KM s H locs g → lv_has ls 6 [(0, .ref (ad 0)), (1, .int x1), (2, .int x2)] → fixN (F_X7_isPiece_58B x1 g) n x2 = some r → W p l e (RM 2 0 0) s m args below meth c H locs 0 0 (MQ below (QI D cA ev hr ad A KM r g) args s 0 0 A) (F0 m 58 ls []) := by
  intro n
  induction n with
  | zero => intro x2 H locs ls hw hl h; exact (fix_zero h).elim
  | succ n ih => intro x2 H locs ls hw hl h; exact w_X7_isPiece_58 (fixN (F_X7_isPiece_58B x1 g) n) ih C hx hw hl h
set_option maxHeartbeats 4000000 in
set_option maxRecDepth 100000 in
theorem w_X7_isPiece_50 {x1 : Int32} {x2 : Int32} {g : GM} {r : Int32} (kb13 : Int32 → Option (Int32)) (hk13 : ∀ (x2 : Int32) (H : Heap) (locs : List Loc) (ls : Array Slot), WS D cA ev hr ad A KM s H locs g → lv_has ls 6 [(0, .ref (ad 0)), (1, .int x1), (2, .int x2)] → kb13 x2 = some r → W p l e (RM 2 0 0) s m args below meth c H locs 0 0 (MQ below (QI D cA ev hr ad A KM r g) args s 0 0 A) (F0 m 13 ls [])) (C : CX p s m args meth c RX7 yX7_isPiece cX7_isPiece 6 (some .boolean) D cA) (hx : HM hr ad) {H : Heap} {locs : List Loc} (hw : WS D cA ev hr ad A KM s H locs g) {ls : Array Slot} (hl : lv_has ls 6 [(0, .ref (ad 0)), (1, .int x1), (2, .int x2)]) (h : F_X7_isPiece_50 kb13 x1 x2 g = some r) : W p l e (RM 2 0 0) s m args below meth c H locs 0 0 (MQ below (QI D cA ev hr ad A KM r g) args s 0 0 A) (F0 m 50 ls []) := by
  refine lv_iinc (v := x2 + 1) (lv' := [(2, .int (x2 + 1)), (0, .ref (ad 0)), (1, .int x1)]) C.1.1 C.1.2.1 dX7_isPiece_50 hl (k := 2) rfl rfl (by decide) rfl (fun ls hl => ?_)
  refine lt_gen (P := fun x => lv_has ls 6 [(2, .int x), (0, .ref (ad 0)), (1, .int x1)]) h hl (fun x2_7 h hl => ?_)
  refine lv_goto (tgt := 13) C.1.1 C.1.2.1 dX7_isPiece_53 (by decide) ?_
  exact hk13 _ _ _ _ hw (lv_sub hl [1, 2, 0] rfl) h
set_option maxHeartbeats 4000000 in
set_option maxRecDepth 100000 in
theorem w_X7_isPiece_13 {x1 : Int32} {g : GM} {r : Int32} (kb13 : Int32 → Option (Int32)) (hk13 : ∀ (x2 : Int32) (H : Heap) (locs : List Loc) (ls : Array Slot), WS D cA ev hr ad A KM s H locs g → lv_has ls 6 [(0, .ref (ad 0)), (1, .int x1), (2, .int x2)] → kb13 x2 = some r → W p l e (RM 2 0 0) s m args below meth c H locs 0 0 (MQ below (QI D cA ev hr ad A KM r g) args s 0 0 A) (F0 m 13 ls [])) (C : CX p s m args meth c RX7 yX7_isPiece cX7_isPiece 6 (some .boolean) D cA) (hx : HM hr ad) {H : Heap} {locs : List Loc} {x2 : Int32} (hw : WS D cA ev hr ad A KM s H locs g) {ls : Array Slot} (hl : lv_has ls 6 [(0, .ref (ad 0)), (1, .int x1), (2, .int x2)]) (h : F_X7_isPiece_13B x1 g kb13 x2 = some r) : W p l e (RM 2 0 0) s m args below meth c H locs 0 0 (MQ below (QI D cA ev hr ad A KM r g) args s 0 0 A) (F0 m 13 ls []) := by
  refine lv_iload_n C.1.1 C.1.2.1 dX7_isPiece_13 rfl (lv_at hl 2 rfl) ?_
  refine lv_aload_n C.1.1 C.1.2.1 dX7_isPiece_14 rfl (lv_at hl 0 rfl) ?_
  refine r_getR (v := .ref (ad 13)) C hw km0 fX7_122 rfl (hm22 hx) dX7_isPiece_15 ?_
  refine lv_aload_n C.1.1 C.1.2.1 dX7_isPiece_18 rfl (lv_at hl 0 rfl) ?_
  refine r_getI C hw km0 fX7_116 rfl dX7_isPiece_19 ?_
  obtain ⟨hz, h⟩ := ck_some h
  refine r_iald C hw km13 (inB_in hz) dX7_isPiece_22 ?_
  refine lv_icmp_ge (tgt := 56) C.1.1 C.1.2.1 dX7_isPiece_23 (by decide) (fun hc => ?_) (fun hc => ?_)
  · replace h := ite_pos' h hc
    refine lv_iconst (v := 0) C.1.1 C.1.2.1 dX7_isPiece_56 (by decide) ?_
    refine lv_istore_n (lv' := [(2, .int 0), (0, .ref (ad 0)), (1, .int x1)]) C.1.1 C.1.2.1 dX7_isPiece_57 rfl hl (by decide) rfl (fun ls hl => ?_)
    exact w_X7_isPiece_58L C hx FU _ _ _ _ hw (lv_sub hl [1, 2, 0] rfl) h
  · replace h := ite_neg' h hc
    refine lv_iload_n C.1.1 C.1.2.1 dX7_isPiece_26 rfl (lv_at hl 1 rfl) ?_
    refine lv_iload_n C.1.1 C.1.2.1 dX7_isPiece_27 rfl (lv_at hl 2 rfl) ?_
    refine lv_ishr C.1.1 C.1.2.1 dX7_isPiece_28 ?_
    refine lv_iconst (v := 1) C.1.1 C.1.2.1 dX7_isPiece_29 (by decide) ?_
    refine lv_iand C.1.1 C.1.2.1 dX7_isPiece_30 ?_
    refine lv_iconst (v := 1) C.1.1 C.1.2.1 dX7_isPiece_31 (by decide) ?_
    refine lv_icmp_ne (tgt := 50) C.1.1 C.1.2.1 dX7_isPiece_32 (by decide) (fun hc => ?_) (fun hc => ?_)
    · replace h := ite_neg' h hc
      exact w_X7_isPiece_50 kb13 hk13 C hx hw hl h
    · replace h := ite_pos' h hc
      refine lv_aload_n C.1.1 C.1.2.1 dX7_isPiece_35 rfl (lv_at hl 0 rfl) ?_
      refine r_getR (v := .ref (ad 28)) C hw km0 fX7_310 rfl (hm46 hx) dX7_isPiece_36 ?_
      refine lv_iload_n C.1.1 C.1.2.1 dX7_isPiece_39 rfl (lv_at hl 2 rfl) ?_
      obtain ⟨hz, h⟩ := ck_some h
      refine r_iald C hw km28 (inB_in hz) dX7_isPiece_40 ?_
      refine lv_iload_n C.1.1 C.1.2.1 dX7_isPiece_41 rfl (lv_at hl 1 rfl) ?_
      refine lv_iconst (v := (-1)) C.1.1 C.1.2.1 dX7_isPiece_42 (by decide) ?_
      refine lv_ixor C.1.1 C.1.2.1 dX7_isPiece_43 ?_
      refine lv_iand C.1.1 C.1.2.1 dX7_isPiece_44 ?_
      refine lv_if_eq (tgt := 50) C.1.1 C.1.2.1 dX7_isPiece_45 (by decide) (fun hc => ?_) (fun hc => ?_)
      · replace h := ite_pos' h hc
        exact w_X7_isPiece_50 kb13 hk13 C hx hw hl h
      · replace h := ite_neg' h hc
        refine lv_iconst (v := 0) C.1.1 C.1.2.1 dX7_isPiece_48 (by decide) ?_
        cases h
        exact r_iret C hw (Or.inr ⟨rfl, Or.inl rfl⟩) dX7_isPiece_49
set_option maxHeartbeats 4000000 in
set_option maxRecDepth 100000 in
theorem w_X7_isPiece_13L {x1 : Int32} {g : GM} {r : Int32} (C : CX p s m args meth c RX7 yX7_isPiece cX7_isPiece 6 (some .boolean) D cA) (hx : HM hr ad) : ∀ (n : Nat) (x2 : Int32) (H : Heap) (locs : List Loc) (ls : Array Slot), WS D cA ev hr ad A KM s H locs g → lv_has ls 6 [(0, .ref (ad 0)), (1, .int x1), (2, .int x2)] → fixN (F_X7_isPiece_13B x1 g) n x2 = some r → W p l e (RM 2 0 0) s m args below meth c H locs 0 0 (MQ below (QI D cA ev hr ad A KM r g) args s 0 0 A) (F0 m 13 ls []) := by
  intro n
  induction n with
  | zero => intro x2 H locs ls hw hl h; exact (fix_zero h).elim
  | succ n ih => intro x2 H locs ls hw hl h; exact w_X7_isPiece_13 (fixN (F_X7_isPiece_13B x1 g) n) ih C hx hw hl h
set_option maxHeartbeats 4000000 in
set_option maxRecDepth 100000 in
theorem w_X7_isPiece_0 (C : CX p s m args meth c RX7 yX7_isPiece cX7_isPiece 6 (some .boolean) D cA) (hx : HM hr ad) {H : Heap} {locs : List Loc} {g : GM} (hw : WS D cA ev hr ad A KM s H locs g) {a1 : Int32} {ls : Array Slot} (hl : lv_has ls 6 [(0, .ref (ad 0)), (1, .int a1)]) {r : Int32} (h : F_X7_isPiece a1 g = some r) : W p l e (RM 2 0 0) s m args below meth c H locs 0 0 (MQ below (QI D cA ev hr ad A KM r g) args s 0 0 A) (F0 m 0 ls []) := by
  refine lv_iload_n C.1.1 C.1.2.1 dX7_isPiece_0 rfl (lv_at hl 1 rfl) ?_
  refine lv_aload_n C.1.1 C.1.2.1 dX7_isPiece_1 rfl (lv_at hl 0 rfl) ?_
  refine r_getI C hw km0 fX7_147 rfl dX7_isPiece_2 ?_
  refine lv_iand C.1.1 C.1.2.1 dX7_isPiece_5 ?_
  refine lv_if_eq (tgt := 11) C.1.1 C.1.2.1 dX7_isPiece_6 (by decide) (fun hc => ?_) (fun hc => ?_)
  · replace h := ite_pos' h hc
    refine lv_iconst (v := 0) C.1.1 C.1.2.1 dX7_isPiece_11 (by decide) ?_
    refine lv_istore_n (lv' := [(2, .int 0), (0, .ref (ad 0)), (1, .int a1)]) C.1.1 C.1.2.1 dX7_isPiece_12 rfl hl (by decide) rfl (fun ls hl => ?_)
    exact w_X7_isPiece_13L C hx FU _ _ _ _ hw (lv_sub hl [1, 2, 0] rfl) h
  · replace h := ite_neg' h hc
    refine lv_iconst (v := 0) C.1.1 C.1.2.1 dX7_isPiece_9 (by decide) ?_
    cases h
    exact r_iret C hw (Or.inr ⟨rfl, Or.inl rfl⟩) dX7_isPiece_10
set_option maxHeartbeats 4000000 in
set_option maxRecDepth 100000 in
theorem c_X7_isPiece (hx : HM hr ad) {a1 : Int32} {g : GM} {r : Int32} (h : F_X7_isPiece a1 g = some r) (sz : Nat) : Met l yX7_isPiece (WSX yX7_isPiece cX7_isPiece 6 (some .boolean)) (RM 2 0 0) (va_Pc [.ref (ad 0), .int a1] (PX D cA ev hr ad KM g sz)) (QI D cA ev hr ad (AX ad KM.length sz) KM r g) 0 0 (AX ad KM.length sz) :=
  met_of (own := RX7) pnX7 rfl (Nat.le_of_ble_eq_true rfl) (fun p e s m below meth c ls C hw hsz hl => w_X7_isPiece_0 C hx hw hl h)
set_option maxHeartbeats 4000000 in
set_option maxRecDepth 100000 in
theorem w_X7_isAhead_21 {g : GM} {r : Int32} (C : CX p s m args meth c RX7 yX7_isAhead cX7_isAhead 3 (some .boolean) D cA) (hx : HM hr ad) {H : Heap} {locs : List Loc} (hw : WS D cA ev hr ad A KM s H locs g) {ls : Array Slot} (hl : lv_has ls 3 []) (h : F_X7_isAhead_21 = some r) : W p l e (RM 1 0 0) s m args below meth c H locs 0 0 (MQ below (QI D cA ev hr ad A KM r g) args s 0 0 A) (F0 m 21 ls []) := by
  refine lv_iconst (v := 0) C.1.1 C.1.2.1 dX7_isAhead_21 (by decide) ?_
  cases h
  exact r_iret C hw (Or.inr ⟨rfl, Or.inl rfl⟩) dX7_isAhead_22
set_option maxHeartbeats 4000000 in
set_option maxRecDepth 100000 in
theorem w_X7_isAhead_0 (C : CX p s m args meth c RX7 yX7_isAhead cX7_isAhead 3 (some .boolean) D cA) (hx : HM hr ad) {H : Heap} {locs : List Loc} {g : GM} (hw : WS D cA ev hr ad A KM s H locs g) {a0 : Int32} {a1 : Int32} {ls : Array Slot} (hl : lv_has ls 3 [(0, .int a0), (1, .int a1)]) {r : Int32} (h : F_X7_isAhead a0 a1 = some r) : W p l e (RM 1 0 0) s m args below meth c H locs 0 0 (MQ below (QI D cA ev hr ad A KM r g) args s 0 0 A) (F0 m 0 ls []) := by
  refine lv_iload_n C.1.1 C.1.2.1 dX7_isAhead_0 rfl (lv_at hl 0 rfl) ?_
  refine lv_iload_n C.1.1 C.1.2.1 dX7_isAhead_1 rfl (lv_at hl 1 rfl) ?_
  refine lv_ixor C.1.1 C.1.2.1 dX7_isAhead_2 ?_
  refine lv_istore_n (lv' := [(2, .int (a0 ^^^ a1)), (0, .int a0), (1, .int a1)]) C.1.1 C.1.2.1 dX7_isAhead_3 rfl hl (by decide) rfl (fun ls hl => ?_)
  refine lt_gen (P := fun x => lv_has ls 3 [(2, .int x), (0, .int a0), (1, .int a1)]) h hl (fun x2_1 h hl => ?_)
  refine lv_iload_n C.1.1 C.1.2.1 dX7_isAhead_4 rfl (lv_at hl 0 rfl) ?_
  refine lv_if_eq (tgt := 21) C.1.1 C.1.2.1 dX7_isAhead_5 (by decide) (fun hc => ?_) (fun hc => ?_)
  · replace h := ite_pos' h hc
    exact w_X7_isAhead_21 C hx hw (lv_sub hl [] rfl) h
  · replace h := ite_neg' h hc
    refine lv_iload_n C.1.1 C.1.2.1 dX7_isAhead_8 rfl (lv_at hl 1 rfl) ?_
    refine lv_iload_n C.1.1 C.1.2.1 dX7_isAhead_9 rfl (lv_at hl 0 rfl) ?_
    refine lv_iand C.1.1 C.1.2.1 dX7_isAhead_10 ?_
    refine lv_iload_n C.1.1 C.1.2.1 dX7_isAhead_11 rfl (lv_at hl 0 rfl) ?_
    refine lv_ineg C.1.1 C.1.2.1 dX7_isAhead_12 ?_
    refine lv_iand C.1.1 C.1.2.1 dX7_isAhead_13 ?_
    refine lv_if_eq (tgt := 21) C.1.1 C.1.2.1 dX7_isAhead_14 (by decide) (fun hc => ?_) (fun hc => ?_)
    · replace h := ite_pos' h hc
      exact w_X7_isAhead_21 C hx hw (lv_sub hl [] rfl) h
    · replace h := ite_neg' h hc
      refine lv_iconst (v := 1) C.1.1 C.1.2.1 dX7_isAhead_17 (by decide) ?_
      refine lv_goto (tgt := 22) C.1.1 C.1.2.1 dX7_isAhead_18 (by decide) ?_
      cases h
      exact r_iret C hw (Or.inr ⟨rfl, Or.inr rfl⟩) dX7_isAhead_22
set_option maxHeartbeats 4000000 in
set_option maxRecDepth 100000 in
theorem c_X7_isAhead (hx : HM hr ad) {a0 : Int32} {a1 : Int32} {g : GM} {r : Int32} (h : F_X7_isAhead a0 a1 = some r) (sz : Nat) : Met l yX7_isAhead (WSX yX7_isAhead cX7_isAhead 3 (some .boolean)) (RM 1 0 0) (va_Pc [.int a0, .int a1] (PX D cA ev hr ad KM g sz)) (QI D cA ev hr ad (AX ad KM.length sz) KM r g) 0 0 (AX ad KM.length sz) :=
  met_of (own := RX7) pnX7 rfl (Nat.le_of_ble_eq_true rfl) (fun p e s m below meth c ls C hw hsz hl => w_X7_isAhead_0 C hx hw hl h)
set_option maxHeartbeats 4000000 in
set_option maxRecDepth 100000 in
theorem w_X7_know_108 {x1 : Int32} {g : GM} {gz : GM} (kb24 : Int32 × GM → Option (GM)) (hk24 : ∀ (x1 : Int32) (g : GM) (H : Heap) (locs : List Loc) (ls : Array Slot), WS D cA ev hr ad A KM s H locs g → lv_has ls 2 [(0, .ref (ad 0)), (1, .int x1)] → kb24 (x1, g) = some gz → W p l e (RM 6 0 0) s m args below meth c H locs 0 0 (MQ below (QV D cA ev hr ad A KM gz) args s 0 0 A) (F0 m 24 ls [])) (C : CX p s m args meth c RX7 yX7_know cX7_know 2 none D cA) (hx : HM hr ad) {H : Heap} {locs : List Loc} (hw : WS D cA ev hr ad A KM s H locs g) {ls : Array Slot} (hl : lv_has ls 2 [(0, .ref (ad 0)), (1, .int x1)]) (h : F_X7_know_108 kb24 x1 g = some gz) : W p l e (RM 6 0 0) s m args below meth c H locs 0 0 (MQ below (QV D cA ev hr ad A KM gz) args s 0 0 A) (F0 m 108 ls []) := by
  refine lv_iinc (v := x1 + 1) (lv' := [(1, .int (x1 + 1)), (0, .ref (ad 0))]) C.1.1 C.1.2.1 dX7_know_108 hl (k := 1) rfl rfl (by decide) rfl (fun ls hl => ?_)
  refine lt_gen (P := fun x => lv_has ls 2 [(1, .int x), (0, .ref (ad 0))]) h hl (fun x1_1 h hl => ?_)
  refine lv_goto (tgt := 24) C.1.1 C.1.2.1 dX7_know_111 (by decide) ?_
  exact hk24 _ _ _ _ _ hw (lv_sub hl [1, 0] rfl) h
set_option maxHeartbeats 4000000 in
set_option maxRecDepth 100000 in
theorem w_X7_know_103 {x1 : Int32} {g : GM} {gz : GM} (kb24 : Int32 × GM → Option (GM)) (hk24 : ∀ (x1 : Int32) (g : GM) (H : Heap) (locs : List Loc) (ls : Array Slot), WS D cA ev hr ad A KM s H locs g → lv_has ls 2 [(0, .ref (ad 0)), (1, .int x1)] → kb24 (x1, g) = some gz → W p l e (RM 6 0 0) s m args below meth c H locs 0 0 (MQ below (QV D cA ev hr ad A KM gz) args s 0 0 A) (F0 m 24 ls [])) (C : CX p s m args meth c RX7 yX7_know cX7_know 2 none D cA) (hx : HM hr ad) {H : Heap} {locs : List Loc} (hw : WS D cA ev hr ad A KM s H locs g) {ls : Array Slot} (hl : lv_has ls 2 [(0, .ref (ad 0)), (1, .int x1)]) (h : F_X7_know_103 kb24 x1 g = some gz) : W p l e (RM 6 0 0) s m args below meth c H locs 0 0 (MQ below (QV D cA ev hr ad A KM gz) args s 0 0 A) (F0 m 103 ls []) := by
  refine lv_aload_n C.1.1 C.1.2.1 dX7_know_103 rfl (lv_at hl 0 rfl) ?_
  refine lv_iload_n C.1.1 C.1.2.1 dX7_know_104 rfl (lv_at hl 1 rfl) ?_
  refine r_putI C hw km0 fX7_328 rfl rfl (Or.inl rfl) dX7_know_105 (fun H locs hw => ?_)
  refine lt_gen (P := fun g => WS D cA ev hr ad A KM s H locs g) h hw (fun g_2 h hw => ?_)
  exact w_X7_know_108 kb24 hk24 C hx hw hl h
set_option maxHeartbeats 4000000 in
set_option maxRecDepth 100000 in
theorem w_X7_know_60 {x1 : Int32} {g : GM} {gz : GM} (kb24 : Int32 × GM → Option (GM)) (hk24 : ∀ (x1 : Int32) (g : GM) (H : Heap) (locs : List Loc) (ls : Array Slot), WS D cA ev hr ad A KM s H locs g → lv_has ls 2 [(0, .ref (ad 0)), (1, .int x1)] → kb24 (x1, g) = some gz → W p l e (RM 6 0 0) s m args below meth c H locs 0 0 (MQ below (QV D cA ev hr ad A KM gz) args s 0 0 A) (F0 m 24 ls [])) (C : CX p s m args meth c RX7 yX7_know cX7_know 2 none D cA) (hx : HM hr ad) {H : Heap} {locs : List Loc} (hw : WS D cA ev hr ad A KM s H locs g) {ls : Array Slot} (hl : lv_has ls 2 [(0, .ref (ad 0)), (1, .int x1)]) (h : F_X7_know_60 kb24 x1 g = some gz) : W p l e (RM 6 0 0) s m args below meth c H locs 0 0 (MQ below (QV D cA ev hr ad A KM gz) args s 0 0 A) (F0 m 60 ls []) := by
  refine lv_aload_n C.1.1 C.1.2.1 dX7_know_60 rfl (lv_at hl 0 rfl) ?_
  refine lv_iload_n C.1.1 C.1.2.1 dX7_know_61 rfl (lv_at hl 1 rfl) ?_
  obtain ⟨r_3, hc, h⟩ := bnd_some h
  refine r_vI (dc := 2) (As := [.int x1]) (rest := []) C hw vX7_331 km0 (by decide) rfl (fun sz => c_X7_isPiece hx hc sz) (by decide) rfl rfl hl.1 (Nat.le_of_ble_eq_true rfl) dX7_know_62 ⟨Nat.le_refl _, Nat.le_refl _⟩ (fun H locs hw => ?_)
  refine lv_if_ne (tgt := 71) C.1.1 C.1.2.1 dX7_know_65 (by decide) (fun hc => ?_) (fun hc => ?_)
  · replace h := ite_neg' h hc
    refine lv_aload_n C.1.1 C.1.2.1 dX7_know_71 rfl (lv_at hl 0 rfl) ?_
    refine r_getI C hw km0 fX7_328 rfl dX7_know_72 ?_
    refine lv_if_lt (tgt := 103) C.1.1 C.1.2.1 dX7_know_75 (by decide) (fun hc => ?_) (fun hc => ?_)
    · replace h := ite_pos' h hc
      exact w_X7_know_103 kb24 hk24 C hx hw hl h
    · replace h := ite_neg' h hc
      refine lv_iload_n C.1.1 C.1.2.1 dX7_know_78 rfl (lv_at hl 1 rfl) ?_
      obtain ⟨r_4, hc, h⟩ := bnd_some h
      refine r_sI (dc := 1) (As := [.int x1]) (rest := []) C hw sX7_322 (fun sz => c_X7_bitsOf hx hc sz) (by decide) rfl rfl hl.1 (Nat.le_of_ble_eq_true rfl) dX7_know_79 ⟨Nat.le_refl _, Nat.le_refl _⟩ (fun H locs hw => ?_)
      refine lv_aload_n C.1.1 C.1.2.1 dX7_know_82 rfl (lv_at hl 0 rfl) ?_
      refine r_getI C hw km0 fX7_328 rfl dX7_know_83 ?_
      obtain ⟨r_5, hc, h⟩ := bnd_some h
      refine r_sI (dc := 1) (As := [.int (gi g 0 51)]) (rest := [.int r_4]) C hw sX7_322 (fun sz => c_X7_bitsOf hx hc sz) (by decide) rfl rfl hl.1 (Nat.le_of_ble_eq_true rfl) dX7_know_86 ⟨Nat.le_refl _, Nat.le_refl _⟩ (fun H locs hw => ?_)
      refine lv_icmp_lt (tgt := 103) C.1.1 C.1.2.1 dX7_know_89 (by decide) (fun hc => ?_) (fun hc => ?_)
      · replace h := ite_pos' h hc
        exact w_X7_know_103 kb24 hk24 C hx hw hl h
      · replace h := ite_neg' h hc
        refine lv_iload_n C.1.1 C.1.2.1 dX7_know_92 rfl (lv_at hl 1 rfl) ?_
        refine lv_aload_n C.1.1 C.1.2.1 dX7_know_93 rfl (lv_at hl 0 rfl) ?_
        refine r_getI C hw km0 fX7_328 rfl dX7_know_94 ?_
        obtain ⟨r_6, hc, h⟩ := bnd_some h
        refine r_sI (dc := 1) (As := [.int x1, .int (gi g 0 51)]) (rest := []) C hw sX7_334 (fun sz => c_X7_isAhead hx hc sz) (by decide) rfl rfl hl.1 (Nat.le_of_ble_eq_true rfl) dX7_know_97 ⟨Nat.le_refl _, Nat.le_refl _⟩ (fun H locs hw => ?_)
        refine lv_if_eq (tgt := 108) C.1.1 C.1.2.1 dX7_know_100 (by decide) (fun hc => ?_) (fun hc => ?_)
        · replace h := ite_pos' h hc
          exact w_X7_know_108 kb24 hk24 C hx hw hl h
        · replace h := ite_neg' h hc
          exact w_X7_know_103 kb24 hk24 C hx hw hl h
  · replace h := ite_pos' h hc
    refine lv_goto (tgt := 108) C.1.1 C.1.2.1 dX7_know_68 (by decide) ?_
    exact w_X7_know_108 kb24 hk24 C hx hw hl h
set_option maxHeartbeats 4000000 in
set_option maxRecDepth 100000 in
theorem w_X7_know_24 {gz : GM} (kb24 : Int32 × GM → Option (GM)) (hk24 : ∀ (x1 : Int32) (g : GM) (H : Heap) (locs : List Loc) (ls : Array Slot), WS D cA ev hr ad A KM s H locs g → lv_has ls 2 [(0, .ref (ad 0)), (1, .int x1)] → kb24 (x1, g) = some gz → W p l e (RM 6 0 0) s m args below meth c H locs 0 0 (MQ below (QV D cA ev hr ad A KM gz) args s 0 0 A) (F0 m 24 ls [])) (C : CX p s m args meth c RX7 yX7_know cX7_know 2 none D cA) (hx : HM hr ad) {H : Heap} {locs : List Loc} {x1 : Int32} {g : GM} (hw : WS D cA ev hr ad A KM s H locs g) {ls : Array Slot} (hl : lv_has ls 2 [(0, .ref (ad 0)), (1, .int x1)]) (h : F_X7_know_24B kb24 (x1, g) = some gz) : W p l e (RM 6 0 0) s m args below meth c H locs 0 0 (MQ below (QV D cA ev hr ad A KM gz) args s 0 0 A) (F0 m 24 ls []) := by
  refine lv_iload_n C.1.1 C.1.2.1 dX7_know_24 rfl (lv_at hl 1 rfl) ?_
  refine lv_iconst (v := 1) C.1.1 C.1.2.1 dX7_know_25 (by decide) ?_
  refine lv_aload_n C.1.1 C.1.2.1 dX7_know_26 rfl (lv_at hl 0 rfl) ?_
  refine r_getR (v := .ref (ad 13)) C hw km0 fX7_122 rfl (hm22 hx) dX7_know_27 ?_
  refine lv_aload_n C.1.1 C.1.2.1 dX7_know_30 rfl (lv_at hl 0 rfl) ?_
  refine r_getI C hw km0 fX7_116 rfl dX7_know_31 ?_
  obtain ⟨hz, h⟩ := ck_some h
  refine r_iald C hw km13 (inB_in hz) dX7_know_34 ?_
  refine lv_ishl C.1.1 C.1.2.1 dX7_know_35 ?_
  refine lv_icmp_ge (tgt := 114) C.1.1 C.1.2.1 dX7_know_36 (by decide) (fun hc => ?_) (fun hc => ?_)
  · replace h := ite_pos' h hc
    cases h
    exact r_vret C hw rfl dX7_know_114
  · replace h := ite_neg' h hc
    refine lv_aload_n C.1.1 C.1.2.1 dX7_know_39 rfl (lv_at hl 0 rfl) ?_
    refine r_getI C hw km0 fX7_328 rfl dX7_know_40 ?_
    refine lv_if_lt (tgt := 60) C.1.1 C.1.2.1 dX7_know_43 (by decide) (fun hc => ?_) (fun hc => ?_)
    · replace h := ite_pos' h hc
      exact w_X7_know_60 kb24 hk24 C hx hw hl h
    · replace h := ite_neg' h hc
      refine lv_iload_n C.1.1 C.1.2.1 dX7_know_46 rfl (lv_at hl 1 rfl) ?_
      obtain ⟨r_7, hc, h⟩ := bnd_some h
      refine r_sI (dc := 1) (As := [.int x1]) (rest := []) C hw sX7_322 (fun sz => c_X7_bitsOf hx hc sz) (by decide) rfl rfl hl.1 (Nat.le_of_ble_eq_true rfl) dX7_know_47 ⟨Nat.le_refl _, Nat.le_refl _⟩ (fun H locs hw => ?_)
      refine lv_aload_n C.1.1 C.1.2.1 dX7_know_50 rfl (lv_at hl 0 rfl) ?_
      refine r_getI C hw km0 fX7_328 rfl dX7_know_51 ?_
      obtain ⟨r_8, hc, h⟩ := bnd_some h
      refine r_sI (dc := 1) (As := [.int (gi g 0 51)]) (rest := [.int r_7]) C hw sX7_322 (fun sz => c_X7_bitsOf hx hc sz) (by decide) rfl rfl hl.1 (Nat.le_of_ble_eq_true rfl) dX7_know_54 ⟨Nat.le_refl _, Nat.le_refl _⟩ (fun H locs hw => ?_)
      refine lv_icmp_gt (tgt := 108) C.1.1 C.1.2.1 dX7_know_57 (by decide) (fun hc => ?_) (fun hc => ?_)
      · replace h := ite_pos' h hc
        exact w_X7_know_108 kb24 hk24 C hx hw hl h
      · replace h := ite_neg' h hc
        exact w_X7_know_60 kb24 hk24 C hx hw hl h
set_option maxHeartbeats 4000000 in
set_option maxRecDepth 100000 in
theorem w_X7_know_24L {gz : GM} (C : CX p s m args meth c RX7 yX7_know cX7_know 2 none D cA) (hx : HM hr ad) : ∀ (n : Nat) (x1 : Int32) (g : GM) (H : Heap) (locs : List Loc) (ls : Array Slot), WS D cA ev hr ad A KM s H locs g → lv_has ls 2 [(0, .ref (ad 0)), (1, .int x1)] → fixN (F_X7_know_24B) n (x1, g) = some gz → W p l e (RM 6 0 0) s m args below meth c H locs 0 0 (MQ below (QV D cA ev hr ad A KM gz) args s 0 0 A) (F0 m 24 ls []) := by
  intro n
  induction n with
  | zero => intro x1 g H locs ls hw hl h; exact (fix_zero h).elim
  | succ n ih => intro x1 g H locs ls hw hl h; exact w_X7_know_24 (fixN (F_X7_know_24B) n) ih C hx hw hl h
set_option maxHeartbeats 4000000 in
set_option maxRecDepth 100000 in
theorem w_X7_know_0 (C : CX p s m args meth c RX7 yX7_know cX7_know 2 none D cA) (hx : HM hr ad) {H : Heap} {locs : List Loc} {g : GM} (hw : WS D cA ev hr ad A KM s H locs g) {ls : Array Slot} (hl : lv_has ls 2 [(0, .ref (ad 0))]) {gz : GM} (h : F_X7_know g = some gz) : W p l e (RM 6 0 0) s m args below meth c H locs 0 0 (MQ below (QV D cA ev hr ad A KM gz) args s 0 0 A) (F0 m 0 ls []) := by
  refine lv_aload_n C.1.1 C.1.2.1 dX7_know_0 rfl (lv_at hl 0 rfl) ?_
  refine r_getI C hw km0 fX7_153 rfl dX7_know_1 ?_
  refine lv_if_eq (tgt := 8) C.1.1 C.1.2.1 dX7_know_4 (by decide) (fun hc => ?_) (fun hc => ?_)
  · replace h := ite_pos' h hc
    refine lv_aload_n C.1.1 C.1.2.1 dX7_know_8 rfl (lv_at hl 0 rfl) ?_
    refine lv_iconst (v := 1) C.1.1 C.1.2.1 dX7_know_9 (by decide) ?_
    refine r_putZ C hw km0 fX7_153 rfl rfl (Or.inr rfl) (Or.inl rfl) dX7_know_10 (fun H locs hw => ?_)
    refine lt_gen (P := fun g => WS D cA ev hr ad A KM s H locs g) h hw (fun g_9 h hw => ?_)
    refine lv_aload_n C.1.1 C.1.2.1 dX7_know_13 rfl (lv_at hl 0 rfl) ?_
    obtain ⟨g_10, hc, h⟩ := bnd_some h
    refine r_vV (dc := 5) (As := []) (rest := []) C hw vX7_325 km0 (by decide) rfl (fun sz => c_X7_lookAt hx hc sz) (by decide) rfl rfl hl.1 (Nat.le_of_ble_eq_true rfl) dX7_know_14 ⟨Nat.le_refl _, Nat.le_refl _⟩ (fun H locs hw => ?_)
    refine lv_aload_n C.1.1 C.1.2.1 dX7_know_17 rfl (lv_at hl 0 rfl) ?_
    refine lv_iconst (v := (-1)) C.1.1 C.1.2.1 dX7_know_18 (by decide) ?_
    refine r_putI C hw km0 fX7_328 rfl rfl (Or.inl rfl) dX7_know_19 (fun H locs hw => ?_)
    refine lt_gen (P := fun g => WS D cA ev hr ad A KM s H locs g) h hw (fun g_11 h hw => ?_)
    refine lv_iconst (v := 0) C.1.1 C.1.2.1 dX7_know_22 (by decide) ?_
    refine lv_istore_n (lv' := [(1, .int 0), (0, .ref (ad 0))]) C.1.1 C.1.2.1 dX7_know_23 rfl hl (by decide) rfl (fun ls hl => ?_)
    exact w_X7_know_24L C hx FU _ _ _ _ _ hw (lv_sub hl [1, 0] rfl) h
  · replace h := ite_neg' h hc
    cases h
    exact r_vret C hw rfl dX7_know_7
set_option maxHeartbeats 4000000 in
set_option maxRecDepth 100000 in
theorem c_X7_know (hx : HM hr ad) {g : GM} {gz : GM} (h : F_X7_know g = some gz) (sz : Nat) : Met l yX7_know (WSX yX7_know cX7_know 2 none) (RM 6 0 0) (va_Pc [.ref (ad 0)] (PX D cA ev hr ad KM g sz)) (QV D cA ev hr ad (AX ad KM.length sz) KM gz) 0 0 (AX ad KM.length sz) :=
  met_of (own := RX7) pnX7 rfl (Nat.le_of_ble_eq_true rfl) (fun p e s m below meth c ls C hw hsz hl => w_X7_know_0 C hx hw hl h)
set_option maxHeartbeats 4000000 in
set_option maxRecDepth 100000 in
theorem w_X7_gone_68 {x1 : Int32} {x2 : Int32} {g : GM} {r : Int32} {gz : GM} (kb28 : Int32 → Option (Int32 × GM)) (hk28 : ∀ (x2 : Int32) (H : Heap) (locs : List Loc) (ls : Array Slot), WS D cA ev hr ad A KM s H locs g → lv_has ls 3 [(0, .ref (ad 0)), (1, .int x1), (2, .int x2)] → kb28 x2 = some (r, gz) → W p l e (RM 6 0 0) s m args below meth c H locs 0 0 (MQ below (QI D cA ev hr ad A KM r gz) args s 0 0 A) (F0 m 28 ls [])) (C : CX p s m args meth c RX7 yX7_gone cX7_gone 3 (some .boolean) D cA) (hx : HM hr ad) {H : Heap} {locs : List Loc} (hw : WS D cA ev hr ad A KM s H locs g) {ls : Array Slot} (hl : lv_has ls 3 [(0, .ref (ad 0)), (1, .int x1), (2, .int x2)]) (h : F_X7_gone_68 kb28 x1 x2 g = some (r, gz)) : W p l e (RM 6 0 0) s m args below meth c H locs 0 0 (MQ below (QI D cA ev hr ad A KM r gz) args s 0 0 A) (F0 m 68 ls []) := by
  refine lv_iinc (v := x2 + 1) (lv' := [(2, .int (x2 + 1)), (0, .ref (ad 0)), (1, .int x1)]) C.1.1 C.1.2.1 dX7_gone_68 hl (k := 2) rfl rfl (by decide) rfl (fun ls hl => ?_)
  refine lt_gen (P := fun x => lv_has ls 3 [(2, .int x), (0, .ref (ad 0)), (1, .int x1)]) h hl (fun x2_1 h hl => ?_)
  refine lv_goto (tgt := 28) C.1.1 C.1.2.1 dX7_gone_71 (by decide) ?_
  exact hk28 _ _ _ _ hw (lv_sub hl [1, 2, 0] rfl) h
set_option maxHeartbeats 4000000 in
set_option maxRecDepth 100000 in
theorem w_X7_gone_28 {x1 : Int32} {g : GM} {r : Int32} {gz : GM} (kb28 : Int32 → Option (Int32 × GM)) (hk28 : ∀ (x2 : Int32) (H : Heap) (locs : List Loc) (ls : Array Slot), WS D cA ev hr ad A KM s H locs g → lv_has ls 3 [(0, .ref (ad 0)), (1, .int x1), (2, .int x2)] → kb28 x2 = some (r, gz) → W p l e (RM 6 0 0) s m args below meth c H locs 0 0 (MQ below (QI D cA ev hr ad A KM r gz) args s 0 0 A) (F0 m 28 ls [])) (C : CX p s m args meth c RX7 yX7_gone cX7_gone 3 (some .boolean) D cA) (hx : HM hr ad) {H : Heap} {locs : List Loc} {x2 : Int32} (hw : WS D cA ev hr ad A KM s H locs g) {ls : Array Slot} (hl : lv_has ls 3 [(0, .ref (ad 0)), (1, .int x1), (2, .int x2)]) (h : F_X7_gone_28B x1 g kb28 x2 = some (r, gz)) : W p l e (RM 6 0 0) s m args below meth c H locs 0 0 (MQ below (QI D cA ev hr ad A KM r gz) args s 0 0 A) (F0 m 28 ls []) := by
  refine lv_iload_n C.1.1 C.1.2.1 dX7_gone_28 rfl (lv_at hl 2 rfl) ?_
  refine lv_aload_n C.1.1 C.1.2.1 dX7_gone_29 rfl (lv_at hl 0 rfl) ?_
  refine r_getR (v := .ref (ad 13)) C hw km0 fX7_122 rfl (hm22 hx) dX7_gone_30 ?_
  refine lv_aload_n C.1.1 C.1.2.1 dX7_gone_33 rfl (lv_at hl 0 rfl) ?_
  refine r_getI C hw km0 fX7_116 rfl dX7_gone_34 ?_
  obtain ⟨hz, h⟩ := ck_some h
  refine r_iald C hw km13 (inB_in hz) dX7_gone_37 ?_
  refine lv_icmp_ge (tgt := 74) C.1.1 C.1.2.1 dX7_gone_38 (by decide) (fun hc => ?_) (fun hc => ?_)
  · replace h := ite_pos' h hc
    refine lv_aload_n C.1.1 C.1.2.1 dX7_gone_74 rfl (lv_at hl 0 rfl) ?_
    refine lv_dup C.1.1 C.1.2.1 dX7_gone_75 rfl ?_
    refine r_getI C hw km0 fX7_147 rfl dX7_gone_76 ?_
    refine lv_iconst (v := 1) C.1.1 C.1.2.1 dX7_gone_79 (by decide) ?_
    refine lv_iload_n C.1.1 C.1.2.1 dX7_gone_80 rfl (lv_at hl 1 rfl) ?_
    refine lv_ishl C.1.1 C.1.2.1 dX7_gone_81 ?_
    refine lv_ior C.1.1 C.1.2.1 dX7_gone_82 ?_
    refine r_putI C hw km0 fX7_147 rfl rfl (Or.inl rfl) dX7_gone_83 (fun H locs hw => ?_)
    refine lt_gen (P := fun g => WS D cA ev hr ad A KM s H locs g) h hw (fun g_2 h hw => ?_)
    refine lv_aload_n C.1.1 C.1.2.1 dX7_gone_86 rfl (lv_at hl 0 rfl) ?_
    refine lv_iconst (v := 0) C.1.1 C.1.2.1 dX7_gone_87 (by decide) ?_
    refine r_putZ C hw km0 fX7_153 rfl rfl (Or.inl rfl) (Or.inl rfl) dX7_gone_88 (fun H locs hw => ?_)
    refine lt_gen (P := fun g => WS D cA ev hr ad A KM s H locs g) h hw (fun g_3 h hw => ?_)
    refine lv_iconst (v := 1) C.1.1 C.1.2.1 dX7_gone_91 (by decide) ?_
    cases h
    exact r_iret C hw (Or.inr ⟨rfl, Or.inr rfl⟩) dX7_gone_92
  · replace h := ite_neg' h hc
    refine lv_aload_n C.1.1 C.1.2.1 dX7_gone_41 rfl (lv_at hl 0 rfl) ?_
    refine r_getI C hw km0 fX7_147 rfl dX7_gone_42 ?_
    refine lv_iload_n C.1.1 C.1.2.1 dX7_gone_45 rfl (lv_at hl 2 rfl) ?_
    refine lv_ishr C.1.1 C.1.2.1 dX7_gone_46 ?_
    refine lv_iconst (v := 1) C.1.1 C.1.2.1 dX7_gone_47 (by decide) ?_
    refine lv_iand C.1.1 C.1.2.1 dX7_gone_48 ?_
    refine lv_if_ne (tgt := 68) C.1.1 C.1.2.1 dX7_gone_49 (by decide) (fun hc => ?_) (fun hc => ?_)
    · replace h := ite_neg' h hc
      exact w_X7_gone_68 kb28 hk28 C hx hw hl h
    · replace h := ite_pos' h hc
      refine lv_aload_n C.1.1 C.1.2.1 dX7_gone_52 rfl (lv_at hl 0 rfl) ?_
      refine r_getR (v := .ref (ad 28)) C hw km0 fX7_310 rfl (hm46 hx) dX7_gone_53 ?_
      refine lv_iload_n C.1.1 C.1.2.1 dX7_gone_56 rfl (lv_at hl 2 rfl) ?_
      obtain ⟨hz, h⟩ := ck_some h
      refine r_iald C hw km28 (inB_in hz) dX7_gone_57 ?_
      refine lv_iload_n C.1.1 C.1.2.1 dX7_gone_58 rfl (lv_at hl 1 rfl) ?_
      refine lv_ishr C.1.1 C.1.2.1 dX7_gone_59 ?_
      refine lv_iconst (v := 1) C.1.1 C.1.2.1 dX7_gone_60 (by decide) ?_
      refine lv_iand C.1.1 C.1.2.1 dX7_gone_61 ?_
      refine lv_iconst (v := 1) C.1.1 C.1.2.1 dX7_gone_62 (by decide) ?_
      refine lv_icmp_ne (tgt := 68) C.1.1 C.1.2.1 dX7_gone_63 (by decide) (fun hc => ?_) (fun hc => ?_)
      · replace h := ite_neg' h hc
        exact w_X7_gone_68 kb28 hk28 C hx hw hl h
      · replace h := ite_pos' h hc
        refine lv_iconst (v := 0) C.1.1 C.1.2.1 dX7_gone_66 (by decide) ?_
        cases h
        exact r_iret C hw (Or.inr ⟨rfl, Or.inl rfl⟩) dX7_gone_67
set_option maxHeartbeats 4000000 in
set_option maxRecDepth 100000 in
theorem w_X7_gone_28L {x1 : Int32} {g : GM} {r : Int32} {gz : GM} (C : CX p s m args meth c RX7 yX7_gone cX7_gone 3 (some .boolean) D cA) (hx : HM hr ad) : ∀ (n : Nat) (x2 : Int32) (H : Heap) (locs : List Loc) (ls : Array Slot), WS D cA ev hr ad A KM s H locs g → lv_has ls 3 [(0, .ref (ad 0)), (1, .int x1), (2, .int x2)] → fixN (F_X7_gone_28B x1 g) n x2 = some (r, gz) → W p l e (RM 6 0 0) s m args below meth c H locs 0 0 (MQ below (QI D cA ev hr ad A KM r gz) args s 0 0 A) (F0 m 28 ls []) := by
  intro n
  induction n with
  | zero => intro x2 H locs ls hw hl h; exact (fix_zero h).elim
  | succ n ih => intro x2 H locs ls hw hl h; exact w_X7_gone_28 (fixN (F_X7_gone_28B x1 g) n) ih C hx hw hl h
set_option maxHeartbeats 4000000 in
set_option maxRecDepth 100000 in
theorem w_X7_gone_0 (C : CX p s m args meth c RX7 yX7_gone cX7_gone 3 (some .boolean) D cA) (hx : HM hr ad) {H : Heap} {locs : List Loc} {g : GM} (hw : WS D cA ev hr ad A KM s H locs g) {a1 : Int32} {ls : Array Slot} (hl : lv_has ls 3 [(0, .ref (ad 0)), (1, .int a1)]) {r : Int32} {gz : GM} (h : F_X7_gone a1 g = some (r, gz)) : W p l e (RM 6 0 0) s m args below meth c H locs 0 0 (MQ below (QI D cA ev hr ad A KM r gz) args s 0 0 A) (F0 m 0 ls []) := by
  refine lv_aload_n C.1.1 C.1.2.1 dX7_gone_0 rfl (lv_at hl 0 rfl) ?_
  refine lv_iload_n C.1.1 C.1.2.1 dX7_gone_1 rfl (lv_at hl 1 rfl) ?_
  obtain ⟨r_4, hc, h⟩ := bnd_some h
  refine r_vI (dc := 1) (As := [.int a1]) (rest := []) C hw vX7_200 km0 (by decide) rfl (fun sz => c_X7_isRow hx hc sz) (by decide) rfl rfl hl.1 (Nat.le_of_ble_eq_true rfl) dX7_gone_2 ⟨Nat.le_refl _, Nat.le_refl _⟩ (fun H locs hw => ?_)
  refine lv_if_eq (tgt := 20) C.1.1 C.1.2.1 dX7_gone_5 (by decide) (fun hc => ?_) (fun hc => ?_)
  · replace h := ite_pos' h hc
    refine lv_iconst (v := 0) C.1.1 C.1.2.1 dX7_gone_20 (by decide) ?_
    cases h
    exact r_iret C hw (Or.inr ⟨rfl, Or.inl rfl⟩) dX7_gone_21
  · replace h := ite_neg' h hc
    refine lv_aload_n C.1.1 C.1.2.1 dX7_gone_8 rfl (lv_at hl 0 rfl) ?_
    refine r_getI C hw km0 fX7_147 rfl dX7_gone_9 ?_
    refine lv_iload_n C.1.1 C.1.2.1 dX7_gone_12 rfl (lv_at hl 1 rfl) ?_
    refine lv_ishr C.1.1 C.1.2.1 dX7_gone_13 ?_
    refine lv_iconst (v := 1) C.1.1 C.1.2.1 dX7_gone_14 (by decide) ?_
    refine lv_iand C.1.1 C.1.2.1 dX7_gone_15 ?_
    refine lv_iconst (v := 1) C.1.1 C.1.2.1 dX7_gone_16 (by decide) ?_
    refine lv_icmp_ne (tgt := 22) C.1.1 C.1.2.1 dX7_gone_17 (by decide) (fun hc => ?_) (fun hc => ?_)
    · replace h := ite_neg' h hc
      refine lv_aload_n C.1.1 C.1.2.1 dX7_gone_22 rfl (lv_at hl 0 rfl) ?_
      obtain ⟨g_5, hc, h⟩ := bnd_some h
      refine r_vV (dc := 5) (As := []) (rest := []) C hw vX7_325 km0 (by decide) rfl (fun sz => c_X7_lookAt hx hc sz) (by decide) rfl rfl hl.1 (Nat.le_of_ble_eq_true rfl) dX7_gone_23 ⟨Nat.le_refl _, Nat.le_refl _⟩ (fun H locs hw => ?_)
      refine lv_iconst (v := 0) C.1.1 C.1.2.1 dX7_gone_26 (by decide) ?_
      refine lv_istore_n (lv' := [(2, .int 0), (0, .ref (ad 0)), (1, .int a1)]) C.1.1 C.1.2.1 dX7_gone_27 rfl hl (by decide) rfl (fun ls hl => ?_)
      exact w_X7_gone_28L C hx FU _ _ _ _ hw (lv_sub hl [1, 2, 0] rfl) h
    · replace h := ite_pos' h hc
      refine lv_iconst (v := 0) C.1.1 C.1.2.1 dX7_gone_20 (by decide) ?_
      cases h
      exact r_iret C hw (Or.inr ⟨rfl, Or.inl rfl⟩) dX7_gone_21
set_option maxHeartbeats 4000000 in
set_option maxRecDepth 100000 in
theorem c_X7_gone (hx : HM hr ad) {a1 : Int32} {g : GM} {r : Int32} {gz : GM} (h : F_X7_gone a1 g = some (r, gz)) (sz : Nat) : Met l yX7_gone (WSX yX7_gone cX7_gone 3 (some .boolean)) (RM 6 0 0) (va_Pc [.ref (ad 0), .int a1] (PX D cA ev hr ad KM g sz)) (QI D cA ev hr ad (AX ad KM.length sz) KM r gz) 0 0 (AX ad KM.length sz) :=
  met_of (own := RX7) pnX7 rfl (Nat.le_of_ble_eq_true rfl) (fun p e s m below meth c ls C hw hsz hl => w_X7_gone_0 C hx hw hl h)
set_option maxHeartbeats 4000000 in
set_option maxRecDepth 100000 in
theorem w_X7_least_0 (C : CX p s m args meth c RX7 yX7_least cX7_least 1 (some .int) D cA) (hx : HM hr ad) {H : Heap} {locs : List Loc} {g : GM} (hw : WS D cA ev hr ad A KM s H locs g) {ls : Array Slot} (hl : lv_has ls 1 [(0, .ref (ad 0))]) {r : Int32} {gz : GM} (h : F_X7_least g = some (r, gz)) : W p l e (RM 7 0 0) s m args below meth c H locs 0 0 (MQ below (QI D cA ev hr ad A KM r gz) args s 0 0 A) (F0 m 0 ls []) := by
  refine lv_aload_n C.1.1 C.1.2.1 dX7_least_0 rfl (lv_at hl 0 rfl) ?_
  obtain ⟨g_1, hc, h⟩ := bnd_some h
  refine r_vV (dc := 6) (As := []) (rest := []) C hw vX7_337 km0 (by decide) rfl (fun sz => c_X7_know hx hc sz) (by decide) rfl rfl hl.1 (Nat.le_of_ble_eq_true rfl) dX7_least_1 ⟨Nat.le_refl _, Nat.le_refl _⟩ (fun H locs hw => ?_)
  refine lv_aload_n C.1.1 C.1.2.1 dX7_least_4 rfl (lv_at hl 0 rfl) ?_
  refine r_getI C hw km0 fX7_328 rfl dX7_least_5 ?_
  cases h
  exact r_iret C hw (Or.inl rfl) dX7_least_8
set_option maxHeartbeats 4000000 in
set_option maxRecDepth 100000 in
theorem c_X7_least (hx : HM hr ad) {g : GM} {r : Int32} {gz : GM} (h : F_X7_least g = some (r, gz)) (sz : Nat) : Met l yX7_least (WSX yX7_least cX7_least 1 (some .int)) (RM 7 0 0) (va_Pc [.ref (ad 0)] (PX D cA ev hr ad KM g sz)) (QI D cA ev hr ad (AX ad KM.length sz) KM r gz) 0 0 (AX ad KM.length sz) :=
  met_of (own := RX7) pnX7 rfl (Nat.le_of_ble_eq_true rfl) (fun p e s m below meth c ls C hw hsz hl => w_X7_least_0 C hx hw hl h)
set_option maxHeartbeats 4000000 in
set_option maxRecDepth 100000 in
theorem w_X7_keep_0 (C : CX p s m args meth c RX7 yX7_keep cX7_keep 1 (some .boolean) D cA) (hx : HM hr ad) {H : Heap} {locs : List Loc} {g : GM} (hw : WS D cA ev hr ad A KM s H locs g) {ls : Array Slot} (hl : lv_has ls 1 [(0, .ref (ad 0))]) {r : Int32} {gz : GM} (h : F_X7_keep g = some (r, gz)) : W p l e (RM 7 0 0) s m args below meth c H locs 0 0 (MQ below (QI D cA ev hr ad A KM r gz) args s 0 0 A) (F0 m 0 ls []) := by
  refine lv_aload_n C.1.1 C.1.2.1 dX7_keep_0 rfl (lv_at hl 0 rfl) ?_
  obtain ⟨g_1, hc, h⟩ := bnd_some h
  refine r_vV (dc := 6) (As := []) (rest := []) C hw vX7_337 km0 (by decide) rfl (fun sz => c_X7_know hx hc sz) (by decide) rfl rfl hl.1 (Nat.le_of_ble_eq_true rfl) dX7_keep_1 ⟨Nat.le_refl _, Nat.le_refl _⟩ (fun H locs hw => ?_)
  refine lv_aload_n C.1.1 C.1.2.1 dX7_keep_4 rfl (lv_at hl 0 rfl) ?_
  refine r_getI C hw km0 fX7_328 rfl dX7_keep_5 ?_
  refine lv_if_ge (tgt := 13) C.1.1 C.1.2.1 dX7_keep_8 (by decide) (fun hc => ?_) (fun hc => ?_)
  · replace h := ite_pos' h hc
    refine lv_aload_n C.1.1 C.1.2.1 dX7_keep_13 rfl (lv_at hl 0 rfl) ?_
    refine lv_aload_n C.1.1 C.1.2.1 dX7_keep_14 rfl (lv_at hl 0 rfl) ?_
    refine r_getI C hw km0 fX7_328 rfl dX7_keep_15 ?_
    refine r_putI C hw km0 fX7_144 rfl rfl (Or.inl rfl) dX7_keep_18 (fun H locs hw => ?_)
    refine lt_gen (P := fun g => WS D cA ev hr ad A KM s H locs g) h hw (fun g_2 h hw => ?_)
    refine lv_iconst (v := 1) C.1.1 C.1.2.1 dX7_keep_21 (by decide) ?_
    cases h
    exact r_iret C hw (Or.inr ⟨rfl, Or.inr rfl⟩) dX7_keep_22
  · replace h := ite_neg' h hc
    refine lv_iconst (v := 0) C.1.1 C.1.2.1 dX7_keep_11 (by decide) ?_
    cases h
    exact r_iret C hw (Or.inr ⟨rfl, Or.inl rfl⟩) dX7_keep_12
set_option maxHeartbeats 4000000 in
set_option maxRecDepth 100000 in
theorem c_X7_keep (hx : HM hr ad) {g : GM} {r : Int32} {gz : GM} (h : F_X7_keep g = some (r, gz)) (sz : Nat) : Met l yX7_keep (WSX yX7_keep cX7_keep 1 (some .boolean)) (RM 7 0 0) (va_Pc [.ref (ad 0)] (PX D cA ev hr ad KM g sz)) (QI D cA ev hr ad (AX ad KM.length sz) KM r gz) 0 0 (AX ad KM.length sz) :=
  met_of (own := RX7) pnX7 rfl (Nat.le_of_ble_eq_true rfl) (fun p e s m below meth c ls C hw hsz hl => w_X7_keep_0 C hx hw hl h)
set_option maxHeartbeats 4000000 in
set_option maxRecDepth 100000 in
theorem w_X7_steady_112 {x1 : Int32} {x2 : Int32} {x3 : Int32} {g : GM} {r : Int32} {gz : GM} (kb10 : Int32 × Int32 × Int32 → Option (Int32 × GM)) (hk10 : ∀ (x1 : Int32) (x2 : Int32) (x3 : Int32) (H : Heap) (locs : List Loc) (ls : Array Slot), WS D cA ev hr ad A KM s H locs g → lv_has ls 5 [(0, .ref (ad 0)), (1, .int x1), (2, .int x2), (3, .int x3)] → kb10 (x1, x2, x3) = some (r, gz) → W p l e (RM 7 0 0) s m args below meth c H locs 0 0 (MQ below (QI D cA ev hr ad A KM r gz) args s 0 0 A) (F0 m 10 ls [])) (C : CX p s m args meth c RX7 yX7_steady cX7_steady 5 (some .int) D cA) (hx : HM hr ad) {H : Heap} {locs : List Loc} (hw : WS D cA ev hr ad A KM s H locs g) {ls : Array Slot} (hl : lv_has ls 5 [(0, .ref (ad 0)), (1, .int x1), (2, .int x2), (3, .int x3)]) (h : F_X7_steady_112 kb10 x1 x2 x3 g = some (r, gz)) : W p l e (RM 7 0 0) s m args below meth c H locs 0 0 (MQ below (QI D cA ev hr ad A KM r gz) args s 0 0 A) (F0 m 112 ls []) := by
  refine lv_iinc (v := x3 + 1) (lv' := [(3, .int (x3 + 1)), (0, .ref (ad 0)), (1, .int x1), (2, .int x2)]) C.1.1 C.1.2.1 dX7_steady_112 hl (k := 3) rfl rfl (by decide) rfl (fun ls hl => ?_)
  refine lt_gen (P := fun x => lv_has ls 5 [(3, .int x), (0, .ref (ad 0)), (1, .int x1), (2, .int x2)]) h hl (fun x3_1 h hl => ?_)
  refine lv_goto (tgt := 10) C.1.1 C.1.2.1 dX7_steady_115 (by decide) ?_
  exact hk10 _ _ _ _ _ _ hw (lv_sub hl [1, 2, 3, 0] rfl) h
set_option maxHeartbeats 4000000 in
set_option maxRecDepth 100000 in
theorem w_X7_steady_107 {x3 : Int32} {x4 : Int32} {g : GM} {r : Int32} {gz : GM} (kb10 : Int32 × Int32 × Int32 → Option (Int32 × GM)) (hk10 : ∀ (x1 : Int32) (x2 : Int32) (x3 : Int32) (H : Heap) (locs : List Loc) (ls : Array Slot), WS D cA ev hr ad A KM s H locs g → lv_has ls 5 [(0, .ref (ad 0)), (1, .int x1), (2, .int x2), (3, .int x3)] → kb10 (x1, x2, x3) = some (r, gz) → W p l e (RM 7 0 0) s m args below meth c H locs 0 0 (MQ below (QI D cA ev hr ad A KM r gz) args s 0 0 A) (F0 m 10 ls [])) (C : CX p s m args meth c RX7 yX7_steady cX7_steady 5 (some .int) D cA) (hx : HM hr ad) {H : Heap} {locs : List Loc} (hw : WS D cA ev hr ad A KM s H locs g) {ls : Array Slot} (hl : lv_has ls 5 [(0, .ref (ad 0)), (3, .int x3), (4, .int x4)]) (h : F_X7_steady_107 kb10 x3 x4 g = some (r, gz)) : W p l e (RM 7 0 0) s m args below meth c H locs 0 0 (MQ below (QI D cA ev hr ad A KM r gz) args s 0 0 A) (F0 m 107 ls []) := by
  refine lv_iload_n C.1.1 C.1.2.1 dX7_steady_107 rfl (lv_at hl 1 rfl) ?_
  refine lv_istore_n (lv' := [(1, .int x3), (0, .ref (ad 0)), (3, .int x3), (4, .int x4)]) C.1.1 C.1.2.1 dX7_steady_108 rfl hl (by decide) rfl (fun ls hl => ?_)
  refine lv_iload C.1.1 C.1.2.1 dX7_steady_109 (lv_at hl 3 rfl) ?_
  refine lv_istore_n (lv' := [(2, .int x4), (1, .int x3), (0, .ref (ad 0)), (3, .int x3), (4, .int x4)]) C.1.1 C.1.2.1 dX7_steady_111 rfl hl (by decide) rfl (fun ls hl => ?_)
  exact w_X7_steady_112 kb10 hk10 C hx hw (lv_sub hl [2, 1, 0, 3] rfl) h
set_option maxHeartbeats 4000000 in
set_option maxRecDepth 100000 in
theorem w_X7_steady_53 {x1 : Int32} {x2 : Int32} {x3 : Int32} {x4 : Int32} {g : GM} {r : Int32} {gz : GM} (kb10 : Int32 × Int32 × Int32 → Option (Int32 × GM)) (hk10 : ∀ (x1 : Int32) (x2 : Int32) (x3 : Int32) (H : Heap) (locs : List Loc) (ls : Array Slot), WS D cA ev hr ad A KM s H locs g → lv_has ls 5 [(0, .ref (ad 0)), (1, .int x1), (2, .int x2), (3, .int x3)] → kb10 (x1, x2, x3) = some (r, gz) → W p l e (RM 7 0 0) s m args below meth c H locs 0 0 (MQ below (QI D cA ev hr ad A KM r gz) args s 0 0 A) (F0 m 10 ls [])) (C : CX p s m args meth c RX7 yX7_steady cX7_steady 5 (some .int) D cA) (hx : HM hr ad) {H : Heap} {locs : List Loc} (hw : WS D cA ev hr ad A KM s H locs g) {ls : Array Slot} (hl : lv_has ls 5 [(0, .ref (ad 0)), (1, .int x1), (2, .int x2), (3, .int x3), (4, .int x4)]) (h : F_X7_steady_53 kb10 x1 x2 x3 x4 g = some (r, gz)) : W p l e (RM 7 0 0) s m args below meth c H locs 0 0 (MQ below (QI D cA ev hr ad A KM r gz) args s 0 0 A) (F0 m 53 ls []) := by
  refine lv_aload_n C.1.1 C.1.2.1 dX7_steady_53 rfl (lv_at hl 0 rfl) ?_
  refine lv_iload_n C.1.1 C.1.2.1 dX7_steady_54 rfl (lv_at hl 3 rfl) ?_
  obtain ⟨r_2, hc, h⟩ := bnd_some h
  refine r_vI (dc := 2) (As := [.int x3]) (rest := []) C hw vX7_331 km0 (by decide) rfl (fun sz => c_X7_isPiece hx hc sz) (by decide) rfl rfl hl.1 (Nat.le_of_ble_eq_true rfl) dX7_steady_55 ⟨Nat.le_refl _, Nat.le_refl _⟩ (fun H locs hw => ?_)
  refine lv_if_ne (tgt := 64) C.1.1 C.1.2.1 dX7_steady_58 (by decide) (fun hc => ?_) (fun hc => ?_)
  · replace h := ite_neg' h hc
    refine lv_iload_n C.1.1 C.1.2.1 dX7_steady_64 rfl (lv_at hl 1 rfl) ?_
    refine lv_if_lt (tgt := 107) C.1.1 C.1.2.1 dX7_steady_65 (by decide) (fun hc => ?_) (fun hc => ?_)
    · replace h := ite_pos' h hc
      exact w_X7_steady_107 kb10 hk10 C hx hw (lv_sub hl [0, 3, 4] rfl) h
    · replace h := ite_neg' h hc
      refine lv_iload C.1.1 C.1.2.1 dX7_steady_68 (lv_at hl 4 rfl) ?_
      refine lv_iload_n C.1.1 C.1.2.1 dX7_steady_70 rfl (lv_at hl 2 rfl) ?_
      refine lv_icmp_ne (tgt := 107) C.1.1 C.1.2.1 dX7_steady_71 (by decide) (fun hc => ?_) (fun hc => ?_)
      · replace h := ite_neg' h hc
        exact w_X7_steady_107 kb10 hk10 C hx hw (lv_sub hl [0, 3, 4] rfl) h
      · replace h := ite_pos' h hc
        refine lv_iload_n C.1.1 C.1.2.1 dX7_steady_74 rfl (lv_at hl 3 rfl) ?_
        obtain ⟨r_3, hc, h⟩ := bnd_some h
        refine r_sI (dc := 1) (As := [.int x3]) (rest := []) C hw sX7_322 (fun sz => c_X7_bitsOf hx hc sz) (by decide) rfl rfl hl.1 (Nat.le_of_ble_eq_true rfl) dX7_steady_75 ⟨Nat.le_refl _, Nat.le_refl _⟩ (fun H locs hw => ?_)
        refine lv_iload_n C.1.1 C.1.2.1 dX7_steady_78 rfl (lv_at hl 1 rfl) ?_
        obtain ⟨r_4, hc, h⟩ := bnd_some h
        refine r_sI (dc := 1) (As := [.int x1]) (rest := [.int r_3]) C hw sX7_322 (fun sz => c_X7_bitsOf hx hc sz) (by decide) rfl rfl hl.1 (Nat.le_of_ble_eq_true rfl) dX7_steady_79 ⟨Nat.le_refl _, Nat.le_refl _⟩ (fun H locs hw => ?_)
        refine lv_icmp_gt (tgt := 112) C.1.1 C.1.2.1 dX7_steady_82 (by decide) (fun hc => ?_) (fun hc => ?_)
        · replace h := ite_pos' h hc
          exact w_X7_steady_112 kb10 hk10 C hx hw (lv_sub hl [0, 1, 2, 3] rfl) h
        · replace h := ite_neg' h hc
          refine lv_iload_n C.1.1 C.1.2.1 dX7_steady_85 rfl (lv_at hl 3 rfl) ?_
          obtain ⟨r_5, hc, h⟩ := bnd_some h
          refine r_sI (dc := 1) (As := [.int x3]) (rest := []) C hw sX7_322 (fun sz => c_X7_bitsOf hx hc sz) (by decide) rfl rfl hl.1 (Nat.le_of_ble_eq_true rfl) dX7_steady_86 ⟨Nat.le_refl _, Nat.le_refl _⟩ (fun H locs hw => ?_)
          refine lv_iload_n C.1.1 C.1.2.1 dX7_steady_89 rfl (lv_at hl 1 rfl) ?_
          obtain ⟨r_6, hc, h⟩ := bnd_some h
          refine r_sI (dc := 1) (As := [.int x1]) (rest := [.int r_5]) C hw sX7_322 (fun sz => c_X7_bitsOf hx hc sz) (by decide) rfl rfl hl.1 (Nat.le_of_ble_eq_true rfl) dX7_steady_90 ⟨Nat.le_refl _, Nat.le_refl _⟩ (fun H locs hw => ?_)
          refine lv_icmp_ne (tgt := 107) C.1.1 C.1.2.1 dX7_steady_93 (by decide) (fun hc => ?_) (fun hc => ?_)
          · replace h := ite_neg' h hc
            exact w_X7_steady_107 kb10 hk10 C hx hw (lv_sub hl [0, 3, 4] rfl) h
          · replace h := ite_pos' h hc
            refine lv_iload_n C.1.1 C.1.2.1 dX7_steady_96 rfl (lv_at hl 3 rfl) ?_
            refine lv_iload_n C.1.1 C.1.2.1 dX7_steady_97 rfl (lv_at hl 1 rfl) ?_
            obtain ⟨r_7, hc, h⟩ := bnd_some h
            refine r_sI (dc := 1) (As := [.int x3, .int x1]) (rest := []) C hw sX7_334 (fun sz => c_X7_isAhead hx hc sz) (by decide) rfl rfl hl.1 (Nat.le_of_ble_eq_true rfl) dX7_steady_98 ⟨Nat.le_refl _, Nat.le_refl _⟩ (fun H locs hw => ?_)
            refine lv_if_ne (tgt := 107) C.1.1 C.1.2.1 dX7_steady_101 (by decide) (fun hc => ?_) (fun hc => ?_)
            · replace h := ite_neg' h hc
              exact w_X7_steady_107 kb10 hk10 C hx hw (lv_sub hl [0, 3, 4] rfl) h
            · replace h := ite_pos' h hc
              refine lv_goto (tgt := 112) C.1.1 C.1.2.1 dX7_steady_104 (by decide) ?_
              exact w_X7_steady_112 kb10 hk10 C hx hw (lv_sub hl [0, 1, 2, 3] rfl) h
  · replace h := ite_pos' h hc
    refine lv_goto (tgt := 112) C.1.1 C.1.2.1 dX7_steady_61 (by decide) ?_
    exact w_X7_steady_112 kb10 hk10 C hx hw (lv_sub hl [0, 1, 2, 3] rfl) h
set_option maxHeartbeats 4000000 in
set_option maxRecDepth 100000 in
theorem w_X7_steady_10 {g : GM} {r : Int32} {gz : GM} (kb10 : Int32 × Int32 × Int32 → Option (Int32 × GM)) (hk10 : ∀ (x1 : Int32) (x2 : Int32) (x3 : Int32) (H : Heap) (locs : List Loc) (ls : Array Slot), WS D cA ev hr ad A KM s H locs g → lv_has ls 5 [(0, .ref (ad 0)), (1, .int x1), (2, .int x2), (3, .int x3)] → kb10 (x1, x2, x3) = some (r, gz) → W p l e (RM 7 0 0) s m args below meth c H locs 0 0 (MQ below (QI D cA ev hr ad A KM r gz) args s 0 0 A) (F0 m 10 ls [])) (C : CX p s m args meth c RX7 yX7_steady cX7_steady 5 (some .int) D cA) (hx : HM hr ad) {H : Heap} {locs : List Loc} {x1 : Int32} {x2 : Int32} {x3 : Int32} (hw : WS D cA ev hr ad A KM s H locs g) {ls : Array Slot} (hl : lv_has ls 5 [(0, .ref (ad 0)), (1, .int x1), (2, .int x2), (3, .int x3)]) (h : F_X7_steady_10B g kb10 (x1, x2, x3) = some (r, gz)) : W p l e (RM 7 0 0) s m args below meth c H locs 0 0 (MQ below (QI D cA ev hr ad A KM r gz) args s 0 0 A) (F0 m 10 ls []) := by
  refine lv_iload_n C.1.1 C.1.2.1 dX7_steady_10 rfl (lv_at hl 3 rfl) ?_
  refine lv_iconst (v := 1) C.1.1 C.1.2.1 dX7_steady_11 (by decide) ?_
  refine lv_aload_n C.1.1 C.1.2.1 dX7_steady_12 rfl (lv_at hl 0 rfl) ?_
  refine r_getR (v := .ref (ad 13)) C hw km0 fX7_122 rfl (hm22 hx) dX7_steady_13 ?_
  refine lv_aload_n C.1.1 C.1.2.1 dX7_steady_16 rfl (lv_at hl 0 rfl) ?_
  refine r_getI C hw km0 fX7_116 rfl dX7_steady_17 ?_
  obtain ⟨hz, h⟩ := ck_some h
  refine r_iald C hw km13 (inB_in hz) dX7_steady_20 ?_
  refine lv_ishl C.1.1 C.1.2.1 dX7_steady_21 ?_
  refine lv_icmp_ge (tgt := 118) C.1.1 C.1.2.1 dX7_steady_22 (by decide) (fun hc => ?_) (fun hc => ?_)
  · replace h := ite_pos' h hc
    refine lv_iload_n C.1.1 C.1.2.1 dX7_steady_118 rfl (lv_at hl 1 rfl) ?_
    cases h
    exact r_iret C hw (Or.inl rfl) dX7_steady_119
  · replace h := ite_neg' h hc
    refine lv_iload_n C.1.1 C.1.2.1 dX7_steady_25 rfl (lv_at hl 3 rfl) ?_
    refine lv_aload_n C.1.1 C.1.2.1 dX7_steady_26 rfl (lv_at hl 0 rfl) ?_
    refine r_getI C hw km0 fX7_144 rfl dX7_steady_27 ?_
    refine lv_ixor C.1.1 C.1.2.1 dX7_steady_30 ?_
    refine lv_aload_n C.1.1 C.1.2.1 dX7_steady_31 rfl (lv_at hl 0 rfl) ?_
    refine r_getI C hw km0 fX7_147 rfl dX7_steady_32 ?_
    refine lv_iconst (v := (-1)) C.1.1 C.1.2.1 dX7_steady_35 (by decide) ?_
    refine lv_ixor C.1.1 C.1.2.1 dX7_steady_36 ?_
    refine lv_iand C.1.1 C.1.2.1 dX7_steady_37 ?_
    obtain ⟨r_8, hc, h⟩ := bnd_some h
    refine r_sI (dc := 1) (As := [.int ((x3 ^^^ (gi g 0 50)) &&& ((gi g 0 49) ^^^ ((-1))))]) (rest := []) C hw sX7_322 (fun sz => c_X7_bitsOf hx hc sz) (by decide) rfl rfl hl.1 (Nat.le_of_ble_eq_true rfl) dX7_steady_38 ⟨Nat.le_refl _, Nat.le_refl _⟩ (fun H locs hw => ?_)
    refine lv_istore (lv' := [(4, .int r_8), (0, .ref (ad 0)), (1, .int x1), (2, .int x2), (3, .int x3)]) C.1.1 C.1.2.1 dX7_steady_41 hl (by decide) rfl (fun ls hl => ?_)
    refine lt_gen (P := fun x => lv_has ls 5 [(4, .int x), (0, .ref (ad 0)), (1, .int x1), (2, .int x2), (3, .int x3)]) h hl (fun x4_9 h hl => ?_)
    refine lv_iload_n C.1.1 C.1.2.1 dX7_steady_43 rfl (lv_at hl 2 rfl) ?_
    refine lv_if_lt (tgt := 53) C.1.1 C.1.2.1 dX7_steady_44 (by decide) (fun hc => ?_) (fun hc => ?_)
    · replace h := ite_pos' h hc
      exact w_X7_steady_53 kb10 hk10 C hx hw (lv_sub hl [1, 2, 3, 4, 0] rfl) h
    · replace h := ite_neg' h hc
      refine lv_iload C.1.1 C.1.2.1 dX7_steady_47 (lv_at hl 0 rfl) ?_
      refine lv_iload_n C.1.1 C.1.2.1 dX7_steady_49 rfl (lv_at hl 3 rfl) ?_
      refine lv_icmp_gt (tgt := 112) C.1.1 C.1.2.1 dX7_steady_50 (by decide) (fun hc => ?_) (fun hc => ?_)
      · replace h := ite_pos' h hc
        exact w_X7_steady_112 kb10 hk10 C hx hw (lv_sub hl [1, 2, 3, 4] rfl) h
      · replace h := ite_neg' h hc
        exact w_X7_steady_53 kb10 hk10 C hx hw (lv_sub hl [1, 2, 3, 4, 0] rfl) h
set_option maxHeartbeats 4000000 in
set_option maxRecDepth 100000 in
theorem w_X7_steady_10L {g : GM} {r : Int32} {gz : GM} (C : CX p s m args meth c RX7 yX7_steady cX7_steady 5 (some .int) D cA) (hx : HM hr ad) : ∀ (n : Nat) (x1 : Int32) (x2 : Int32) (x3 : Int32) (H : Heap) (locs : List Loc) (ls : Array Slot), WS D cA ev hr ad A KM s H locs g → lv_has ls 5 [(0, .ref (ad 0)), (1, .int x1), (2, .int x2), (3, .int x3)] → fixN (F_X7_steady_10B g) n (x1, x2, x3) = some (r, gz) → W p l e (RM 7 0 0) s m args below meth c H locs 0 0 (MQ below (QI D cA ev hr ad A KM r gz) args s 0 0 A) (F0 m 10 ls []) := by
  intro n
  induction n with
  | zero => intro x1 x2 x3 H locs ls hw hl h; exact (fix_zero h).elim
  | succ n ih => intro x1 x2 x3 H locs ls hw hl h; exact w_X7_steady_10 (fixN (F_X7_steady_10B g) n) ih C hx hw hl h
set_option maxHeartbeats 4000000 in
set_option maxRecDepth 100000 in
theorem w_X7_steady_0 (C : CX p s m args meth c RX7 yX7_steady cX7_steady 5 (some .int) D cA) (hx : HM hr ad) {H : Heap} {locs : List Loc} {g : GM} (hw : WS D cA ev hr ad A KM s H locs g) {ls : Array Slot} (hl : lv_has ls 5 [(0, .ref (ad 0))]) {r : Int32} {gz : GM} (h : F_X7_steady g = some (r, gz)) : W p l e (RM 7 0 0) s m args below meth c H locs 0 0 (MQ below (QI D cA ev hr ad A KM r gz) args s 0 0 A) (F0 m 0 ls []) := by
  refine lv_aload_n C.1.1 C.1.2.1 dX7_steady_0 rfl (lv_at hl 0 rfl) ?_
  obtain ⟨g_10, hc, h⟩ := bnd_some h
  refine r_vV (dc := 6) (As := []) (rest := []) C hw vX7_337 km0 (by decide) rfl (fun sz => c_X7_know hx hc sz) (by decide) rfl rfl hl.1 (Nat.le_of_ble_eq_true rfl) dX7_steady_1 ⟨Nat.le_refl _, Nat.le_refl _⟩ (fun H locs hw => ?_)
  refine lv_iconst (v := (-1)) C.1.1 C.1.2.1 dX7_steady_4 (by decide) ?_
  refine lv_istore_n (lv' := [(1, .int ((-1))), (0, .ref (ad 0))]) C.1.1 C.1.2.1 dX7_steady_5 rfl hl (by decide) rfl (fun ls hl => ?_)
  refine lv_iconst (v := 0) C.1.1 C.1.2.1 dX7_steady_6 (by decide) ?_
  refine lv_istore_n (lv' := [(2, .int 0), (1, .int ((-1))), (0, .ref (ad 0))]) C.1.1 C.1.2.1 dX7_steady_7 rfl hl (by decide) rfl (fun ls hl => ?_)
  refine lv_iconst (v := 0) C.1.1 C.1.2.1 dX7_steady_8 (by decide) ?_
  refine lv_istore_n (lv' := [(3, .int 0), (2, .int 0), (1, .int ((-1))), (0, .ref (ad 0))]) C.1.1 C.1.2.1 dX7_steady_9 rfl hl (by decide) rfl (fun ls hl => ?_)
  exact w_X7_steady_10L C hx FU _ _ _ _ _ _ hw (lv_sub hl [3, 2, 1, 0] rfl) h
set_option maxHeartbeats 4000000 in
set_option maxRecDepth 100000 in
theorem c_X7_steady (hx : HM hr ad) {g : GM} {r : Int32} {gz : GM} (h : F_X7_steady g = some (r, gz)) (sz : Nat) : Met l yX7_steady (WSX yX7_steady cX7_steady 5 (some .int)) (RM 7 0 0) (va_Pc [.ref (ad 0)] (PX D cA ev hr ad KM g sz)) (QI D cA ev hr ad (AX ad KM.length sz) KM r gz) 0 0 (AX ad KM.length sz) :=
  met_of (own := RX7) pnX7 rfl (Nat.le_of_ble_eq_true rfl) (fun p e s m below meth c ls C hw hsz hl => w_X7_steady_0 C hx hw hl h)
set_option maxHeartbeats 4000000 in
set_option maxRecDepth 100000 in
theorem w_X7_piece_0 (C : CX p s m args meth c RX7 yX7_piece cX7_piece 2 (some .int) D cA) (hx : HM hr ad) {H : Heap} {locs : List Loc} {g : GM} (hw : WS D cA ev hr ad A KM s H locs g) {a1 : Int32} {ls : Array Slot} (hl : lv_has ls 2 [(0, .ref (ad 0)), (1, .int a1)]) {r : Int32} {gz : GM} (h : F_X7_piece a1 g = some (r, gz)) : W p l e (RM 7 0 0) s m args below meth c H locs 0 0 (MQ below (QI D cA ev hr ad A KM r gz) args s 0 0 A) (F0 m 0 ls []) := by
  refine lv_iload_n C.1.1 C.1.2.1 dX7_piece_0 rfl (lv_at hl 1 rfl) ?_
  refine lv_if_lt (tgt := 19) C.1.1 C.1.2.1 dX7_piece_1 (by decide) (fun hc => ?_) (fun hc => ?_)
  · replace h := ite_pos' h hc
    refine lv_iconst (v := (-1)) C.1.1 C.1.2.1 dX7_piece_19 (by decide) ?_
    cases h
    exact r_iret C hw (Or.inl rfl) dX7_piece_20
  · replace h := ite_neg' h hc
    refine lv_iload_n C.1.1 C.1.2.1 dX7_piece_4 rfl (lv_at hl 1 rfl) ?_
    refine lv_iconst (v := 1) C.1.1 C.1.2.1 dX7_piece_5 (by decide) ?_
    refine lv_aload_n C.1.1 C.1.2.1 dX7_piece_6 rfl (lv_at hl 0 rfl) ?_
    refine r_getR (v := .ref (ad 13)) C hw km0 fX7_122 rfl (hm22 hx) dX7_piece_7 ?_
    refine lv_aload_n C.1.1 C.1.2.1 dX7_piece_10 rfl (lv_at hl 0 rfl) ?_
    refine r_getI C hw km0 fX7_116 rfl dX7_piece_11 ?_
    obtain ⟨hz, h⟩ := ck_some h
    refine r_iald C hw km13 (inB_in hz) dX7_piece_14 ?_
    refine lv_ishl C.1.1 C.1.2.1 dX7_piece_15 ?_
    refine lv_icmp_lt (tgt := 21) C.1.1 C.1.2.1 dX7_piece_16 (by decide) (fun hc => ?_) (fun hc => ?_)
    · replace h := ite_pos' h hc
      refine lv_aload_n C.1.1 C.1.2.1 dX7_piece_21 rfl (lv_at hl 0 rfl) ?_
      obtain ⟨g_1, hc, h⟩ := bnd_some h
      refine r_vV (dc := 6) (As := []) (rest := []) C hw vX7_337 km0 (by decide) rfl (fun sz => c_X7_know hx hc sz) (by decide) rfl rfl hl.1 (Nat.le_of_ble_eq_true rfl) dX7_piece_22 ⟨Nat.le_refl _, Nat.le_refl _⟩ (fun H locs hw => ?_)
      refine lv_aload_n C.1.1 C.1.2.1 dX7_piece_25 rfl (lv_at hl 0 rfl) ?_
      refine lv_iload_n C.1.1 C.1.2.1 dX7_piece_26 rfl (lv_at hl 1 rfl) ?_
      obtain ⟨r_2, hc, h⟩ := bnd_some h
      refine r_vI (dc := 2) (As := [.int a1]) (rest := []) C hw vX7_331 km0 (by decide) rfl (fun sz => c_X7_isPiece hx hc sz) (by decide) rfl rfl hl.1 (Nat.le_of_ble_eq_true rfl) dX7_piece_27 ⟨Nat.le_refl _, Nat.le_refl _⟩ (fun H locs hw => ?_)
      refine lv_if_eq (tgt := 37) C.1.1 C.1.2.1 dX7_piece_30 (by decide) (fun hc => ?_) (fun hc => ?_)
      · replace h := ite_pos' h hc
        refine lv_iconst (v := 0) C.1.1 C.1.2.1 dX7_piece_37 (by decide) ?_
        cases h
        exact r_iret C hw (Or.inl rfl) dX7_piece_38
      · replace h := ite_neg' h hc
        refine lv_iconst (v := 1) C.1.1 C.1.2.1 dX7_piece_33 (by decide) ?_
        refine lv_goto (tgt := 38) C.1.1 C.1.2.1 dX7_piece_34 (by decide) ?_
        cases h
        exact r_iret C hw (Or.inl rfl) dX7_piece_38
    · replace h := ite_neg' h hc
      refine lv_iconst (v := (-1)) C.1.1 C.1.2.1 dX7_piece_19 (by decide) ?_
      cases h
      exact r_iret C hw (Or.inl rfl) dX7_piece_20
set_option maxHeartbeats 4000000 in
set_option maxRecDepth 100000 in
theorem c_X7_piece (hx : HM hr ad) {a1 : Int32} {g : GM} {r : Int32} {gz : GM} (h : F_X7_piece a1 g = some (r, gz)) (sz : Nat) : Met l yX7_piece (WSX yX7_piece cX7_piece 2 (some .int)) (RM 7 0 0) (va_Pc [.ref (ad 0), .int a1] (PX D cA ev hr ad KM g sz)) (QI D cA ev hr ad (AX ad KM.length sz) KM r gz) 0 0 (AX ad KM.length sz) :=
  met_of (own := RX7) pnX7 rfl (Nat.le_of_ble_eq_true rfl) (fun p e s m below meth c ls C hw hsz hl => w_X7_piece_0 C hx hw hl h)
set_option maxHeartbeats 4000000 in
set_option maxRecDepth 100000 in
theorem w_X7_why_157 {x1 : Int32} {x2 : Int32} {g : GM} {r : Int32} {gz : GM} (kb111 : Int32 → Option (Int32 × GM)) (hk111 : ∀ (x2 : Int32) (H : Heap) (locs : List Loc) (ls : Array Slot), WS D cA ev hr ad A KM s H locs g → lv_has ls 4 [(0, .ref (ad 0)), (1, .int x1), (2, .int x2)] → kb111 x2 = some (r, gz) → W p l e (RM 8 0 0) s m args below meth c H locs 0 0 (MQ below (QI D cA ev hr ad A KM r gz) args s 0 0 A) (F0 m 111 ls [])) (C : CX p s m args meth c RX7 yX7_why cX7_why 4 (some .int) D cA) (hx : HM hr ad) {H : Heap} {locs : List Loc} (hw : WS D cA ev hr ad A KM s H locs g) {ls : Array Slot} (hl : lv_has ls 4 [(0, .ref (ad 0)), (1, .int x1), (2, .int x2)]) (h : F_X7_why_157 kb111 x1 x2 g = some (r, gz)) : W p l e (RM 8 0 0) s m args below meth c H locs 0 0 (MQ below (QI D cA ev hr ad A KM r gz) args s 0 0 A) (F0 m 157 ls []) := by
  refine lv_iinc (v := x2 + 1) (lv' := [(2, .int (x2 + 1)), (0, .ref (ad 0)), (1, .int x1)]) C.1.1 C.1.2.1 dX7_why_157 hl (k := 2) rfl rfl (by decide) rfl (fun ls hl => ?_)
  refine lt_gen (P := fun x => lv_has ls 4 [(2, .int x), (0, .ref (ad 0)), (1, .int x1)]) h hl (fun x2_1 h hl => ?_)
  refine lv_goto (tgt := 111) C.1.1 C.1.2.1 dX7_why_160 (by decide) ?_
  exact hk111 _ _ _ _ hw (lv_sub hl [1, 2, 0] rfl) h
set_option maxHeartbeats 4000000 in
set_option maxRecDepth 100000 in
theorem w_X7_why_111 {x1 : Int32} {g : GM} {r : Int32} {gz : GM} (kb111 : Int32 → Option (Int32 × GM)) (hk111 : ∀ (x2 : Int32) (H : Heap) (locs : List Loc) (ls : Array Slot), WS D cA ev hr ad A KM s H locs g → lv_has ls 4 [(0, .ref (ad 0)), (1, .int x1), (2, .int x2)] → kb111 x2 = some (r, gz) → W p l e (RM 8 0 0) s m args below meth c H locs 0 0 (MQ below (QI D cA ev hr ad A KM r gz) args s 0 0 A) (F0 m 111 ls [])) (C : CX p s m args meth c RX7 yX7_why cX7_why 4 (some .int) D cA) (hx : HM hr ad) {H : Heap} {locs : List Loc} {x2 : Int32} (hw : WS D cA ev hr ad A KM s H locs g) {ls : Array Slot} (hl : lv_has ls 4 [(0, .ref (ad 0)), (1, .int x1), (2, .int x2)]) (h : F_X7_why_111B x1 g kb111 x2 = some (r, gz)) : W p l e (RM 8 0 0) s m args below meth c H locs 0 0 (MQ below (QI D cA ev hr ad A KM r gz) args s 0 0 A) (F0 m 111 ls []) := by
  refine lv_iload_n C.1.1 C.1.2.1 dX7_why_111 rfl (lv_at hl 2 rfl) ?_
  refine lv_aload_n C.1.1 C.1.2.1 dX7_why_112 rfl (lv_at hl 0 rfl) ?_
  refine r_getR (v := .ref (ad 13)) C hw km0 fX7_122 rfl (hm22 hx) dX7_why_113 ?_
  refine lv_aload_n C.1.1 C.1.2.1 dX7_why_116 rfl (lv_at hl 0 rfl) ?_
  refine r_getI C hw km0 fX7_116 rfl dX7_why_117 ?_
  obtain ⟨hz, h⟩ := ck_some h
  refine r_iald C hw km13 (inB_in hz) dX7_why_120 ?_
  refine lv_icmp_ge (tgt := 163) C.1.1 C.1.2.1 dX7_why_121 (by decide) (fun hc => ?_) (fun hc => ?_)
  · replace h := ite_pos' h hc
    refine lv_iconst (v := 3) C.1.1 C.1.2.1 dX7_why_163 (by decide) ?_
    cases h
    exact r_iret C hw (Or.inl rfl) dX7_why_164
  · replace h := ite_neg' h hc
    refine lv_iload_n C.1.1 C.1.2.1 dX7_why_124 rfl (lv_at hl 2 rfl) ?_
    refine lv_iload_n C.1.1 C.1.2.1 dX7_why_125 rfl (lv_at hl 1 rfl) ?_
    refine lv_icmp_eq (tgt := 157) C.1.1 C.1.2.1 dX7_why_126 (by decide) (fun hc => ?_) (fun hc => ?_)
    · replace h := ite_pos' h hc
      exact w_X7_why_157 kb111 hk111 C hx hw hl h
    · replace h := ite_neg' h hc
      refine lv_aload_n C.1.1 C.1.2.1 dX7_why_129 rfl (lv_at hl 0 rfl) ?_
      refine r_getI C hw km0 fX7_328 rfl dX7_why_130 ?_
      refine lv_iload_n C.1.1 C.1.2.1 dX7_why_133 rfl (lv_at hl 2 rfl) ?_
      refine lv_ishr C.1.1 C.1.2.1 dX7_why_134 ?_
      refine lv_iconst (v := 1) C.1.1 C.1.2.1 dX7_why_135 (by decide) ?_
      refine lv_iand C.1.1 C.1.2.1 dX7_why_136 ?_
      refine lv_iconst (v := 1) C.1.1 C.1.2.1 dX7_why_137 (by decide) ?_
      refine lv_icmp_ne (tgt := 157) C.1.1 C.1.2.1 dX7_why_138 (by decide) (fun hc => ?_) (fun hc => ?_)
      · replace h := ite_neg' h hc
        exact w_X7_why_157 kb111 hk111 C hx hw hl h
      · replace h := ite_pos' h hc
        refine lv_aload_n C.1.1 C.1.2.1 dX7_why_141 rfl (lv_at hl 0 rfl) ?_
        refine r_getR (v := .ref (ad 28)) C hw km0 fX7_310 rfl (hm46 hx) dX7_why_142 ?_
        refine lv_iload_n C.1.1 C.1.2.1 dX7_why_145 rfl (lv_at hl 2 rfl) ?_
        obtain ⟨hz, h⟩ := ck_some h
        refine r_iald C hw km28 (inB_in hz) dX7_why_146 ?_
        refine lv_iload_n C.1.1 C.1.2.1 dX7_why_147 rfl (lv_at hl 1 rfl) ?_
        refine lv_ishr C.1.1 C.1.2.1 dX7_why_148 ?_
        refine lv_iconst (v := 1) C.1.1 C.1.2.1 dX7_why_149 (by decide) ?_
        refine lv_iand C.1.1 C.1.2.1 dX7_why_150 ?_
        refine lv_iconst (v := 1) C.1.1 C.1.2.1 dX7_why_151 (by decide) ?_
        refine lv_icmp_ne (tgt := 157) C.1.1 C.1.2.1 dX7_why_152 (by decide) (fun hc => ?_) (fun hc => ?_)
        · replace h := ite_neg' h hc
          exact w_X7_why_157 kb111 hk111 C hx hw hl h
        · replace h := ite_pos' h hc
          refine lv_iconst (v := 2) C.1.1 C.1.2.1 dX7_why_155 (by decide) ?_
          cases h
          exact r_iret C hw (Or.inl rfl) dX7_why_156
set_option maxHeartbeats 4000000 in
set_option maxRecDepth 100000 in
theorem w_X7_why_111L {x1 : Int32} {g : GM} {r : Int32} {gz : GM} (C : CX p s m args meth c RX7 yX7_why cX7_why 4 (some .int) D cA) (hx : HM hr ad) : ∀ (n : Nat) (x2 : Int32) (H : Heap) (locs : List Loc) (ls : Array Slot), WS D cA ev hr ad A KM s H locs g → lv_has ls 4 [(0, .ref (ad 0)), (1, .int x1), (2, .int x2)] → fixN (F_X7_why_111B x1 g) n x2 = some (r, gz) → W p l e (RM 8 0 0) s m args below meth c H locs 0 0 (MQ below (QI D cA ev hr ad A KM r gz) args s 0 0 A) (F0 m 111 ls []) := by
  intro n
  induction n with
  | zero => intro x2 H locs ls hw hl h; exact (fix_zero h).elim
  | succ n ih => intro x2 H locs ls hw hl h; exact w_X7_why_111 (fixN (F_X7_why_111B x1 g) n) ih C hx hw hl h
set_option maxHeartbeats 4000000 in
set_option maxRecDepth 100000 in
theorem w_X7_why_103 {x1 : Int32} {x2 : Int32} {g : GM} {r : Int32} {gz : GM} (kb32 : Int32 → Option (Int32 × GM)) (hk32 : ∀ (x2 : Int32) (H : Heap) (locs : List Loc) (ls : Array Slot), WS D cA ev hr ad A KM s H locs g → lv_has ls 4 [(0, .ref (ad 0)), (1, .int x1), (2, .int x2)] → kb32 x2 = some (r, gz) → W p l e (RM 8 0 0) s m args below meth c H locs 0 0 (MQ below (QI D cA ev hr ad A KM r gz) args s 0 0 A) (F0 m 32 ls [])) (C : CX p s m args meth c RX7 yX7_why cX7_why 4 (some .int) D cA) (hx : HM hr ad) {H : Heap} {locs : List Loc} (hw : WS D cA ev hr ad A KM s H locs g) {ls : Array Slot} (hl : lv_has ls 4 [(0, .ref (ad 0)), (1, .int x1), (2, .int x2)]) (h : F_X7_why_103 kb32 x1 x2 g = some (r, gz)) : W p l e (RM 8 0 0) s m args below meth c H locs 0 0 (MQ below (QI D cA ev hr ad A KM r gz) args s 0 0 A) (F0 m 103 ls []) := by
  refine lv_iinc (v := x2 + 1) (lv' := [(2, .int (x2 + 1)), (0, .ref (ad 0)), (1, .int x1)]) C.1.1 C.1.2.1 dX7_why_103 hl (k := 2) rfl rfl (by decide) rfl (fun ls hl => ?_)
  refine lt_gen (P := fun x => lv_has ls 4 [(2, .int x), (0, .ref (ad 0)), (1, .int x1)]) h hl (fun x2_2 h hl => ?_)
  refine lv_goto (tgt := 32) C.1.1 C.1.2.1 dX7_why_106 (by decide) ?_
  exact hk32 _ _ _ _ hw (lv_sub hl [1, 2, 0] rfl) h
set_option maxHeartbeats 4000000 in
set_option maxRecDepth 100000 in
theorem w_X7_why_32 {x1 : Int32} {g : GM} {r : Int32} {gz : GM} (kb32 : Int32 → Option (Int32 × GM)) (hk32 : ∀ (x2 : Int32) (H : Heap) (locs : List Loc) (ls : Array Slot), WS D cA ev hr ad A KM s H locs g → lv_has ls 4 [(0, .ref (ad 0)), (1, .int x1), (2, .int x2)] → kb32 x2 = some (r, gz) → W p l e (RM 8 0 0) s m args below meth c H locs 0 0 (MQ below (QI D cA ev hr ad A KM r gz) args s 0 0 A) (F0 m 32 ls [])) (C : CX p s m args meth c RX7 yX7_why cX7_why 4 (some .int) D cA) (hx : HM hr ad) {H : Heap} {locs : List Loc} {x2 : Int32} (hw : WS D cA ev hr ad A KM s H locs g) {ls : Array Slot} (hl : lv_has ls 4 [(0, .ref (ad 0)), (1, .int x1), (2, .int x2)]) (h : F_X7_why_32B x1 g kb32 x2 = some (r, gz)) : W p l e (RM 8 0 0) s m args below meth c H locs 0 0 (MQ below (QI D cA ev hr ad A KM r gz) args s 0 0 A) (F0 m 32 ls []) := by
  refine lv_iload_n C.1.1 C.1.2.1 dX7_why_32 rfl (lv_at hl 2 rfl) ?_
  refine lv_aload_n C.1.1 C.1.2.1 dX7_why_33 rfl (lv_at hl 0 rfl) ?_
  refine r_getR (v := .ref (ad 14)) C hw km0 fX7_138 rfl (hm25 hx) dX7_why_34 ?_
  refine lv_aload_n C.1.1 C.1.2.1 dX7_why_37 rfl (lv_at hl 0 rfl) ?_
  refine r_getI C hw km0 fX7_141 rfl dX7_why_38 ?_
  obtain ⟨hz, h⟩ := ck_some h
  refine r_iald C hw km14 (inB_in hz) dX7_why_41 ?_
  refine lv_icmp_ge (tgt := 109) C.1.1 C.1.2.1 dX7_why_42 (by decide) (fun hc => ?_) (fun hc => ?_)
  · replace h := ite_pos' h hc
    refine lv_iconst (v := 0) C.1.1 C.1.2.1 dX7_why_109 (by decide) ?_
    refine lv_istore_n (lv' := [(2, .int 0), (0, .ref (ad 0)), (1, .int x1)]) C.1.1 C.1.2.1 dX7_why_110 rfl hl (by decide) rfl (fun ls hl => ?_)
    exact w_X7_why_111L C hx FU _ _ _ _ hw (lv_sub hl [1, 2, 0] rfl) h
  · replace h := ite_neg' h hc
    refine lv_bipush (v := 10) C.1.1 C.1.2.1 dX7_why_45 (by decide) ?_
    refine lv_aload_n C.1.1 C.1.2.1 dX7_why_47 rfl (lv_at hl 0 rfl) ?_
    refine r_getI C hw km0 fX7_141 rfl dX7_why_48 ?_
    refine lv_imul C.1.1 C.1.2.1 dX7_why_51 ?_
    refine lv_iload_n C.1.1 C.1.2.1 dX7_why_52 rfl (lv_at hl 2 rfl) ?_
    refine lv_iadd C.1.1 C.1.2.1 dX7_why_53 ?_
    refine lv_istore_n (lv' := [(3, .int ((10 * (gi g 0 37)) + x2)), (0, .ref (ad 0)), (1, .int x1), (2, .int x2)]) C.1.1 C.1.2.1 dX7_why_54 rfl hl (by decide) rfl (fun ls hl => ?_)
    refine lt_gen (P := fun x => lv_has ls 4 [(3, .int x), (0, .ref (ad 0)), (1, .int x1), (2, .int x2)]) h hl (fun x3_3 h hl => ?_)
    refine lv_aload_n C.1.1 C.1.2.1 dX7_why_55 rfl (lv_at hl 1 rfl) ?_
    refine r_getR (v := .ref (ad 17)) C hw km0 fX7_226 rfl (hm28 hx) dX7_why_56 ?_
    refine lv_iload_n C.1.1 C.1.2.1 dX7_why_59 rfl (lv_at hl 0 rfl) ?_
    obtain ⟨hz, h⟩ := ck_some h
    refine r_iald C hw km17 (inB_in hz) dX7_why_60 ?_
    refine lv_if_ge (tgt := 103) C.1.1 C.1.2.1 dX7_why_61 (by decide) (fun hc => ?_) (fun hc => ?_)
    · replace h := ite_pos' h hc
      exact w_X7_why_103 kb32 hk32 C hx hw (lv_sub hl [1, 2, 3] rfl) h
    · replace h := ite_neg' h hc
      refine lv_aload_n C.1.1 C.1.2.1 dX7_why_64 rfl (lv_at hl 1 rfl) ?_
      refine r_getR (v := .ref (ad 29)) C hw km0 fX7_316 rfl (hm47 hx) dX7_why_65 ?_
      refine lv_iload_n C.1.1 C.1.2.1 dX7_why_68 rfl (lv_at hl 3 rfl) ?_
      obtain ⟨hz, h⟩ := ck_some h
      refine r_iald C hw km29 (inB_in hz) dX7_why_69 ?_
      refine lv_iload_n C.1.1 C.1.2.1 dX7_why_70 rfl (lv_at hl 2 rfl) ?_
      refine lv_ishr C.1.1 C.1.2.1 dX7_why_71 ?_
      refine lv_iconst (v := 1) C.1.1 C.1.2.1 dX7_why_72 (by decide) ?_
      refine lv_iand C.1.1 C.1.2.1 dX7_why_73 ?_
      refine lv_iconst (v := 1) C.1.1 C.1.2.1 dX7_why_74 (by decide) ?_
      refine lv_icmp_ne (tgt := 103) C.1.1 C.1.2.1 dX7_why_75 (by decide) (fun hc => ?_) (fun hc => ?_)
      · replace h := ite_neg' h hc
        exact w_X7_why_103 kb32 hk32 C hx hw (lv_sub hl [1, 2, 3] rfl) h
      · replace h := ite_pos' h hc
        refine lv_aload_n C.1.1 C.1.2.1 dX7_why_78 rfl (lv_at hl 1 rfl) ?_
        refine r_getR (v := .ref (ad 29)) C hw km0 fX7_316 rfl (hm47 hx) dX7_why_79 ?_
        refine lv_iload_n C.1.1 C.1.2.1 dX7_why_82 rfl (lv_at hl 3 rfl) ?_
        obtain ⟨hz, h⟩ := ck_some h
        refine r_iald C hw km29 (inB_in hz) dX7_why_83 ?_
        refine lv_aload_n C.1.1 C.1.2.1 dX7_why_84 rfl (lv_at hl 1 rfl) ?_
        refine r_getI C hw km0 fX7_328 rfl dX7_why_85 ?_
        refine lv_iand C.1.1 C.1.2.1 dX7_why_88 ?_
        obtain ⟨r_4, hc, h⟩ := bnd_some h
        refine r_sI (dc := 1) (As := [.int ((gi g 29 x2.toNatClampNeg) &&& (gi g 0 51))]) (rest := []) C hw sX7_322 (fun sz => c_X7_bitsOf hx hc sz) (by decide) rfl rfl hl.1 (Nat.le_of_ble_eq_true rfl) dX7_why_89 ⟨Nat.le_refl _, Nat.le_refl _⟩ (fun H locs hw => ?_)
        refine lv_aload_n C.1.1 C.1.2.1 dX7_why_92 rfl (lv_at hl 1 rfl) ?_
        refine r_getR (v := .ref (ad 16)) C hw km0 fX7_236 rfl (hm27 hx) dX7_why_93 ?_
        refine lv_iload_n C.1.1 C.1.2.1 dX7_why_96 rfl (lv_at hl 0 rfl) ?_
        obtain ⟨hz, h⟩ := ck_some h
        refine r_iald C hw km16 (inB_in hz) dX7_why_97 ?_
        refine lv_icmp_gt (tgt := 103) C.1.1 C.1.2.1 dX7_why_98 (by decide) (fun hc => ?_) (fun hc => ?_)
        · replace h := ite_pos' h hc
          exact w_X7_why_103 kb32 hk32 C hx hw (lv_sub hl [1, 2, 3] rfl) h
        · replace h := ite_neg' h hc
          refine lv_iconst (v := 1) C.1.1 C.1.2.1 dX7_why_101 (by decide) ?_
          cases h
          exact r_iret C hw (Or.inl rfl) dX7_why_102
set_option maxHeartbeats 4000000 in
set_option maxRecDepth 100000 in
theorem w_X7_why_32L {x1 : Int32} {g : GM} {r : Int32} {gz : GM} (C : CX p s m args meth c RX7 yX7_why cX7_why 4 (some .int) D cA) (hx : HM hr ad) : ∀ (n : Nat) (x2 : Int32) (H : Heap) (locs : List Loc) (ls : Array Slot), WS D cA ev hr ad A KM s H locs g → lv_has ls 4 [(0, .ref (ad 0)), (1, .int x1), (2, .int x2)] → fixN (F_X7_why_32B x1 g) n x2 = some (r, gz) → W p l e (RM 8 0 0) s m args below meth c H locs 0 0 (MQ below (QI D cA ev hr ad A KM r gz) args s 0 0 A) (F0 m 32 ls []) := by
  intro n
  induction n with
  | zero => intro x2 H locs ls hw hl h; exact (fix_zero h).elim
  | succ n ih => intro x2 H locs ls hw hl h; exact w_X7_why_32 (fixN (F_X7_why_32B x1 g) n) ih C hx hw hl h
set_option maxHeartbeats 4000000 in
set_option maxRecDepth 100000 in
theorem w_X7_why_0 (C : CX p s m args meth c RX7 yX7_why cX7_why 4 (some .int) D cA) (hx : HM hr ad) {H : Heap} {locs : List Loc} {g : GM} (hw : WS D cA ev hr ad A KM s H locs g) {a1 : Int32} {ls : Array Slot} (hl : lv_has ls 4 [(0, .ref (ad 0)), (1, .int a1)]) {r : Int32} {gz : GM} (h : F_X7_why a1 g = some (r, gz)) : W p l e (RM 8 0 0) s m args below meth c H locs 0 0 (MQ below (QI D cA ev hr ad A KM r gz) args s 0 0 A) (F0 m 0 ls []) := by
  refine lv_aload_n C.1.1 C.1.2.1 dX7_why_0 rfl (lv_at hl 0 rfl) ?_
  refine lv_iload_n C.1.1 C.1.2.1 dX7_why_1 rfl (lv_at hl 1 rfl) ?_
  obtain ⟨r_5, hc, h⟩ := bnd_some h
  refine r_vI (dc := 1) (As := [.int a1]) (rest := []) C hw vX7_200 km0 (by decide) rfl (fun sz => c_X7_isRow hx hc sz) (by decide) rfl rfl hl.1 (Nat.le_of_ble_eq_true rfl) dX7_why_2 ⟨Nat.le_refl _, Nat.le_refl _⟩ (fun H locs hw => ?_)
  refine lv_if_eq (tgt := 15) C.1.1 C.1.2.1 dX7_why_5 (by decide) (fun hc => ?_) (fun hc => ?_)
  · replace h := ite_pos' h hc
    refine lv_iconst (v := (-1)) C.1.1 C.1.2.1 dX7_why_15 (by decide) ?_
    cases h
    exact r_iret C hw (Or.inl rfl) dX7_why_16
  · replace h := ite_neg' h hc
    refine lv_aload_n C.1.1 C.1.2.1 dX7_why_8 rfl (lv_at hl 0 rfl) ?_
    obtain ⟨⟨r_6, g_7⟩, hc, h⟩ := bnd_some h
    refine r_vI (dc := 7) (As := []) (rest := []) C hw vX7_340 km0 (by decide) rfl (fun sz => c_X7_least hx hc sz) (by decide) rfl rfl hl.1 (Nat.le_of_ble_eq_true rfl) dX7_why_9 ⟨Nat.le_refl _, Nat.le_refl _⟩ (fun H locs hw => ?_)
    refine lv_if_ge (tgt := 17) C.1.1 C.1.2.1 dX7_why_12 (by decide) (fun hc => ?_) (fun hc => ?_)
    · replace h := ite_pos' h hc
      refine lv_aload_n C.1.1 C.1.2.1 dX7_why_17 rfl (lv_at hl 0 rfl) ?_
      refine r_getI C hw km0 fX7_328 rfl dX7_why_18 ?_
      refine lv_iload_n C.1.1 C.1.2.1 dX7_why_21 rfl (lv_at hl 1 rfl) ?_
      refine lv_ishr C.1.1 C.1.2.1 dX7_why_22 ?_
      refine lv_iconst (v := 1) C.1.1 C.1.2.1 dX7_why_23 (by decide) ?_
      refine lv_iand C.1.1 C.1.2.1 dX7_why_24 ?_
      refine lv_if_ne (tgt := 30) C.1.1 C.1.2.1 dX7_why_25 (by decide) (fun hc => ?_) (fun hc => ?_)
      · replace h := ite_neg' h hc
        refine lv_iconst (v := 0) C.1.1 C.1.2.1 dX7_why_30 (by decide) ?_
        refine lv_istore_n (lv' := [(2, .int 0), (0, .ref (ad 0)), (1, .int a1)]) C.1.1 C.1.2.1 dX7_why_31 rfl hl (by decide) rfl (fun ls hl => ?_)
        exact w_X7_why_32L C hx FU _ _ _ _ hw (lv_sub hl [1, 2, 0] rfl) h
      · replace h := ite_pos' h hc
        refine lv_iconst (v := 0) C.1.1 C.1.2.1 dX7_why_28 (by decide) ?_
        cases h
        exact r_iret C hw (Or.inl rfl) dX7_why_29
    · replace h := ite_neg' h hc
      refine lv_iconst (v := (-1)) C.1.1 C.1.2.1 dX7_why_15 (by decide) ?_
      cases h
      exact r_iret C hw (Or.inl rfl) dX7_why_16
set_option maxHeartbeats 4000000 in
set_option maxRecDepth 100000 in
theorem c_X7_why (hx : HM hr ad) {a1 : Int32} {g : GM} {r : Int32} {gz : GM} (h : F_X7_why a1 g = some (r, gz)) (sz : Nat) : Met l yX7_why (WSX yX7_why cX7_why 4 (some .int)) (RM 8 0 0) (va_Pc [.ref (ad 0), .int a1] (PX D cA ev hr ad KM g sz)) (QI D cA ev hr ad (AX ad KM.length sz) KM r gz) 0 0 (AX ad KM.length sz) :=
  met_of (own := RX7) pnX7 rfl (Nat.le_of_ble_eq_true rfl) (fun p e s m below meth c ls C hw hsz hl => w_X7_why_0 C hx hw hl h)
set_option maxHeartbeats 4000000 in
set_option maxRecDepth 100000 in
theorem w_X7_place_47 {x1 : Int32} {x2 : Int32} {x3 : Int32} {g : GM} {r : Int32} {gz : GM} (kb9 : Int32 × Int32 × Int32 × GM → Option (Int32 × GM)) (hk9 : ∀ (x1 : Int32) (x2 : Int32) (x3 : Int32) (g : GM) (H : Heap) (locs : List Loc) (ls : Array Slot), WS D cA ev hr ad A KM s H locs g → lv_has ls 4 [(0, .ref (ad 0)), (1, .int x1), (2, .int x2), (3, .int x3)] → kb9 (x1, x2, x3, g) = some (r, gz) → W p l e (RM 1 0 0) s m args below meth c H locs 0 0 (MQ below (QI D cA ev hr ad A KM r gz) args s 0 0 A) (F0 m 9 ls [])) (C : CX p s m args meth c RX7 yX7_place cX7_place 4 (some .int) D cA) (hx : HM hr ad) {H : Heap} {locs : List Loc} (hw : WS D cA ev hr ad A KM s H locs g) {ls : Array Slot} (hl : lv_has ls 4 [(0, .ref (ad 0)), (1, .int x1), (2, .int x2), (3, .int x3)]) (h : F_X7_place_47 kb9 x1 x2 x3 g = some (r, gz)) : W p l e (RM 1 0 0) s m args below meth c H locs 0 0 (MQ below (QI D cA ev hr ad A KM r gz) args s 0 0 A) (F0 m 47 ls []) := by
  refine lv_iinc (v := x3 + 1) (lv' := [(3, .int (x3 + 1)), (0, .ref (ad 0)), (1, .int x1), (2, .int x2)]) C.1.1 C.1.2.1 dX7_place_47 hl (k := 3) rfl rfl (by decide) rfl (fun ls hl => ?_)
  refine lt_gen (P := fun x => lv_has ls 4 [(3, .int x), (0, .ref (ad 0)), (1, .int x1), (2, .int x2)]) h hl (fun x3_1 h hl => ?_)
  refine lv_goto (tgt := 9) C.1.1 C.1.2.1 dX7_place_50 (by decide) ?_
  exact hk9 _ _ _ _ _ _ _ hw (lv_sub hl [1, 2, 3, 0] rfl) h
set_option maxHeartbeats 4000000 in
set_option maxRecDepth 100000 in
theorem w_X7_place_9 {r : Int32} {gz : GM} (kb9 : Int32 × Int32 × Int32 × GM → Option (Int32 × GM)) (hk9 : ∀ (x1 : Int32) (x2 : Int32) (x3 : Int32) (g : GM) (H : Heap) (locs : List Loc) (ls : Array Slot), WS D cA ev hr ad A KM s H locs g → lv_has ls 4 [(0, .ref (ad 0)), (1, .int x1), (2, .int x2), (3, .int x3)] → kb9 (x1, x2, x3, g) = some (r, gz) → W p l e (RM 1 0 0) s m args below meth c H locs 0 0 (MQ below (QI D cA ev hr ad A KM r gz) args s 0 0 A) (F0 m 9 ls [])) (C : CX p s m args meth c RX7 yX7_place cX7_place 4 (some .int) D cA) (hx : HM hr ad) {H : Heap} {locs : List Loc} {x1 : Int32} {x2 : Int32} {x3 : Int32} {g : GM} (hw : WS D cA ev hr ad A KM s H locs g) {ls : Array Slot} (hl : lv_has ls 4 [(0, .ref (ad 0)), (1, .int x1), (2, .int x2), (3, .int x3)]) (h : F_X7_place_9B kb9 (x1, x2, x3, g) = some (r, gz)) : W p l e (RM 1 0 0) s m args below meth c H locs 0 0 (MQ below (QI D cA ev hr ad A KM r gz) args s 0 0 A) (F0 m 9 ls []) := by
  refine lv_iload_n C.1.1 C.1.2.1 dX7_place_9 rfl (lv_at hl 3 rfl) ?_
  refine lv_aload_n C.1.1 C.1.2.1 dX7_place_10 rfl (lv_at hl 0 rfl) ?_
  refine r_getR (v := .ref (ad 13)) C hw km0 fX7_122 rfl (hm22 hx) dX7_place_11 ?_
  refine lv_aload_n C.1.1 C.1.2.1 dX7_place_14 rfl (lv_at hl 0 rfl) ?_
  refine r_getI C hw km0 fX7_116 rfl dX7_place_15 ?_
  obtain ⟨hz, h⟩ := ck_some h
  refine r_iald C hw km13 (inB_in hz) dX7_place_18 ?_
  refine lv_icmp_ge (tgt := 74) C.1.1 C.1.2.1 dX7_place_19 (by decide) (fun hc => ?_) (fun hc => ?_)
  · replace h := ite_pos' h hc
    refine lv_iload_n C.1.1 C.1.2.1 dX7_place_74 rfl (lv_at hl 2 rfl) ?_
    cases h
    exact r_iret C hw (Or.inl rfl) dX7_place_75
  · replace h := ite_neg' h hc
    refine lv_iload_n C.1.1 C.1.2.1 dX7_place_22 rfl (lv_at hl 1 rfl) ?_
    refine lv_iload_n C.1.1 C.1.2.1 dX7_place_23 rfl (lv_at hl 3 rfl) ?_
    refine lv_ishr C.1.1 C.1.2.1 dX7_place_24 ?_
    refine lv_iconst (v := 1) C.1.1 C.1.2.1 dX7_place_25 (by decide) ?_
    refine lv_iand C.1.1 C.1.2.1 dX7_place_26 ?_
    refine lv_if_eq (tgt := 47) C.1.1 C.1.2.1 dX7_place_27 (by decide) (fun hc => ?_) (fun hc => ?_)
    · replace h := ite_pos' h hc
      exact w_X7_place_47 kb9 hk9 C hx hw hl h
    · replace h := ite_neg' h hc
      refine lv_aload_n C.1.1 C.1.2.1 dX7_place_30 rfl (lv_at hl 0 rfl) ?_
      refine r_getR (v := .ref (ad 28)) C hw km0 fX7_310 rfl (hm46 hx) dX7_place_31 ?_
      refine lv_iload_n C.1.1 C.1.2.1 dX7_place_34 rfl (lv_at hl 3 rfl) ?_
      obtain ⟨hz, h⟩ := ck_some h
      refine r_iald C hw km28 (inB_in hz) dX7_place_35 ?_
      refine lv_iload_n C.1.1 C.1.2.1 dX7_place_36 rfl (lv_at hl 1 rfl) ?_
      refine lv_iand C.1.1 C.1.2.1 dX7_place_37 ?_
      refine lv_iconst (v := 1) C.1.1 C.1.2.1 dX7_place_38 (by decide) ?_
      refine lv_iload_n C.1.1 C.1.2.1 dX7_place_39 rfl (lv_at hl 3 rfl) ?_
      refine lv_ishl C.1.1 C.1.2.1 dX7_place_40 ?_
      refine lv_iconst (v := (-1)) C.1.1 C.1.2.1 dX7_place_41 (by decide) ?_
      refine lv_ixor C.1.1 C.1.2.1 dX7_place_42 ?_
      refine lv_iand C.1.1 C.1.2.1 dX7_place_43 ?_
      refine lv_if_eq (tgt := 53) C.1.1 C.1.2.1 dX7_place_44 (by decide) (fun hc => ?_) (fun hc => ?_)
      · replace h := ite_pos' h hc
        refine lv_aload_n C.1.1 C.1.2.1 dX7_place_53 rfl (lv_at hl 0 rfl) ?_
        refine r_getR (v := .ref (ad 31)) C hw km0 fX7_343 rfl (hm53 hx) dX7_place_54 ?_
        refine lv_iload_n C.1.1 C.1.2.1 dX7_place_57 rfl (lv_at hl 2 rfl) ?_
        refine lv_iload_n C.1.1 C.1.2.1 dX7_place_58 rfl (lv_at hl 3 rfl) ?_
        obtain ⟨hz, h⟩ := ck_some h
        refine r_iast C hw km31 (inB_in hz) dX7_place_59 (fun H locs hw => ?_)
        refine lt_gen (P := fun g => WS D cA ev hr ad A KM s H locs g) h hw (fun g_2 h hw => ?_)
        refine lv_iinc (v := x2 + 1) (lv' := [(2, .int (x2 + 1)), (0, .ref (ad 0)), (1, .int x1), (3, .int x3)]) C.1.1 C.1.2.1 dX7_place_60 hl (k := 2) rfl rfl (by decide) rfl (fun ls hl => ?_)
        refine lt_gen (P := fun x => lv_has ls 4 [(2, .int x), (0, .ref (ad 0)), (1, .int x1), (3, .int x3)]) h hl (fun x2_3 h hl => ?_)
        refine lv_iload_n C.1.1 C.1.2.1 dX7_place_63 rfl (lv_at hl 2 rfl) ?_
        refine lv_iconst (v := 1) C.1.1 C.1.2.1 dX7_place_64 (by decide) ?_
        refine lv_iload_n C.1.1 C.1.2.1 dX7_place_65 rfl (lv_at hl 3 rfl) ?_
        refine lv_ishl C.1.1 C.1.2.1 dX7_place_66 ?_
        refine lv_ixor C.1.1 C.1.2.1 dX7_place_67 ?_
        refine lv_istore_n (lv' := [(1, .int (x1 ^^^ (1 <<< (x3 &&& 31)))), (2, .int x2_3), (0, .ref (ad 0)), (3, .int x3)]) C.1.1 C.1.2.1 dX7_place_68 rfl hl (by decide) rfl (fun ls hl => ?_)
        refine lt_gen (P := fun x => lv_has ls 4 [(1, .int x), (2, .int x2_3), (0, .ref (ad 0)), (3, .int x3)]) h hl (fun x1_4 h hl => ?_)
        refine lv_iconst (v := 0) C.1.1 C.1.2.1 dX7_place_69 (by decide) ?_
        refine lv_istore_n (lv' := [(3, .int 0), (1, .int x1_4), (2, .int x2_3), (0, .ref (ad 0))]) C.1.1 C.1.2.1 dX7_place_70 rfl hl (by decide) rfl (fun ls hl => ?_)
        refine lv_goto (tgt := 9) C.1.1 C.1.2.1 dX7_place_71 (by decide) ?_
        exact hk9 _ _ _ _ _ _ _ hw (lv_sub hl [3, 1, 2, 0] rfl) h
      · replace h := ite_neg' h hc
        exact w_X7_place_47 kb9 hk9 C hx hw hl h
set_option maxHeartbeats 4000000 in
set_option maxRecDepth 100000 in
theorem w_X7_place_9L {r : Int32} {gz : GM} (C : CX p s m args meth c RX7 yX7_place cX7_place 4 (some .int) D cA) (hx : HM hr ad) : ∀ (n : Nat) (x1 : Int32) (x2 : Int32) (x3 : Int32) (g : GM) (H : Heap) (locs : List Loc) (ls : Array Slot), WS D cA ev hr ad A KM s H locs g → lv_has ls 4 [(0, .ref (ad 0)), (1, .int x1), (2, .int x2), (3, .int x3)] → fixN (F_X7_place_9B) n (x1, x2, x3, g) = some (r, gz) → W p l e (RM 1 0 0) s m args below meth c H locs 0 0 (MQ below (QI D cA ev hr ad A KM r gz) args s 0 0 A) (F0 m 9 ls []) := by
  intro n
  induction n with
  | zero => intro x1 x2 x3 g H locs ls hw hl h; exact (fix_zero h).elim
  | succ n ih => intro x1 x2 x3 g H locs ls hw hl h; exact w_X7_place_9 (fixN (F_X7_place_9B) n) ih C hx hw hl h
set_option maxHeartbeats 4000000 in
set_option maxRecDepth 100000 in
theorem w_X7_place_0 (C : CX p s m args meth c RX7 yX7_place cX7_place 4 (some .int) D cA) (hx : HM hr ad) {H : Heap} {locs : List Loc} {g : GM} (hw : WS D cA ev hr ad A KM s H locs g) {ls : Array Slot} (hl : lv_has ls 4 [(0, .ref (ad 0))]) {r : Int32} {gz : GM} (h : F_X7_place g = some (r, gz)) : W p l e (RM 1 0 0) s m args below meth c H locs 0 0 (MQ below (QI D cA ev hr ad A KM r gz) args s 0 0 A) (F0 m 0 ls []) := by
  refine lv_aload_n C.1.1 C.1.2.1 dX7_place_0 rfl (lv_at hl 0 rfl) ?_
  refine r_getI C hw km0 fX7_328 rfl dX7_place_1 ?_
  refine lv_istore_n (lv' := [(1, .int (gi g 0 51)), (0, .ref (ad 0))]) C.1.1 C.1.2.1 dX7_place_4 rfl hl (by decide) rfl (fun ls hl => ?_)
  refine lt_gen (P := fun x => lv_has ls 4 [(1, .int x), (0, .ref (ad 0))]) h hl (fun x1_5 h hl => ?_)
  refine lv_iconst (v := 0) C.1.1 C.1.2.1 dX7_place_5 (by decide) ?_
  refine lv_istore_n (lv' := [(2, .int 0), (1, .int x1_5), (0, .ref (ad 0))]) C.1.1 C.1.2.1 dX7_place_6 rfl hl (by decide) rfl (fun ls hl => ?_)
  refine lv_iconst (v := 0) C.1.1 C.1.2.1 dX7_place_7 (by decide) ?_
  refine lv_istore_n (lv' := [(3, .int 0), (2, .int 0), (1, .int x1_5), (0, .ref (ad 0))]) C.1.1 C.1.2.1 dX7_place_8 rfl hl (by decide) rfl (fun ls hl => ?_)
  exact w_X7_place_9L C hx FU _ _ _ _ _ _ _ hw (lv_sub hl [3, 2, 1, 0] rfl) h
set_option maxHeartbeats 4000000 in
set_option maxRecDepth 100000 in
theorem c_X7_place (hx : HM hr ad) {g : GM} {r : Int32} {gz : GM} (h : F_X7_place g = some (r, gz)) (sz : Nat) : Met l yX7_place (WSX yX7_place cX7_place 4 (some .int)) (RM 1 0 0) (va_Pc [.ref (ad 0)] (PX D cA ev hr ad KM g sz)) (QI D cA ev hr ad (AX ad KM.length sz) KM r gz) 0 0 (AX ad KM.length sz) :=
  met_of (own := RX7) pnX7 rfl (Nat.le_of_ble_eq_true rfl) (fun p e s m below meth c ls C hw hsz hl => w_X7_place_0 C hx hw hl h)
set_option maxHeartbeats 4000000 in
set_option maxRecDepth 100000 in
theorem w_X7_order_19 {g : GM} {r : Int32} {gz : GM} (C : CX p s m args meth c RX7 yX7_order cX7_order 2 (some .int) D cA) (hx : HM hr ad) {H : Heap} {locs : List Loc} (hw : WS D cA ev hr ad A KM s H locs g) {ls : Array Slot} (hl : lv_has ls 2 []) (h : F_X7_order_19 g = some (r, gz)) : W p l e (RM 8 0 0) s m args below meth c H locs 0 0 (MQ below (QI D cA ev hr ad A KM r gz) args s 0 0 A) (F0 m 19 ls []) := by
  refine lv_iconst (v := (-1)) C.1.1 C.1.2.1 dX7_order_19 (by decide) ?_
  refine lv_goto (tgt := 29) C.1.1 C.1.2.1 dX7_order_20 (by decide) ?_
  cases h
  exact r_iret C hw (Or.inl rfl) dX7_order_29
set_option maxHeartbeats 4000000 in
set_option maxRecDepth 100000 in
theorem w_X7_order_0 (C : CX p s m args meth c RX7 yX7_order cX7_order 2 (some .int) D cA) (hx : HM hr ad) {H : Heap} {locs : List Loc} {g : GM} (hw : WS D cA ev hr ad A KM s H locs g) {a1 : Int32} {ls : Array Slot} (hl : lv_has ls 2 [(0, .ref (ad 0)), (1, .int a1)]) {r : Int32} {gz : GM} (h : F_X7_order a1 g = some (r, gz)) : W p l e (RM 8 0 0) s m args below meth c H locs 0 0 (MQ below (QI D cA ev hr ad A KM r gz) args s 0 0 A) (F0 m 0 ls []) := by
  refine lv_aload_n C.1.1 C.1.2.1 dX7_order_0 rfl (lv_at hl 0 rfl) ?_
  obtain ⟨⟨r_1, g_2⟩, hc, h⟩ := bnd_some h
  refine r_vI (dc := 7) (As := []) (rest := []) C hw vX7_340 km0 (by decide) rfl (fun sz => c_X7_least hx hc sz) (by decide) rfl rfl hl.1 (Nat.le_of_ble_eq_true rfl) dX7_order_1 ⟨Nat.le_refl _, Nat.le_refl _⟩ (fun H locs hw => ?_)
  refine lv_if_lt (tgt := 19) C.1.1 C.1.2.1 dX7_order_4 (by decide) (fun hc => ?_) (fun hc => ?_)
  · replace h := ite_pos' h hc
    exact w_X7_order_19 C hx hw (lv_sub hl [] rfl) h
  · replace h := ite_neg' h hc
    refine lv_iload_n C.1.1 C.1.2.1 dX7_order_7 rfl (lv_at hl 1 rfl) ?_
    refine lv_if_lt (tgt := 19) C.1.1 C.1.2.1 dX7_order_8 (by decide) (fun hc => ?_) (fun hc => ?_)
    · replace h := ite_pos' h hc
      exact w_X7_order_19 C hx hw (lv_sub hl [] rfl) h
    · replace h := ite_neg' h hc
      refine lv_iload_n C.1.1 C.1.2.1 dX7_order_11 rfl (lv_at hl 1 rfl) ?_
      refine lv_aload_n C.1.1 C.1.2.1 dX7_order_12 rfl (lv_at hl 0 rfl) ?_
      obtain ⟨⟨r_3, g_4⟩, hc, h⟩ := bnd_some h
      refine r_vI (dc := 1) (As := []) (rest := [.int a1]) C hw vX7_346 km0 (by decide) rfl (fun sz => c_X7_place hx hc sz) (by decide) rfl rfl hl.1 (Nat.le_of_ble_eq_true rfl) dX7_order_13 ⟨Nat.le_refl _, Nat.le_refl _⟩ (fun H locs hw => ?_)
      refine lv_icmp_lt (tgt := 23) C.1.1 C.1.2.1 dX7_order_16 (by decide) (fun hc => ?_) (fun hc => ?_)
      · replace h := ite_pos' h hc
        refine lv_aload_n C.1.1 C.1.2.1 dX7_order_23 rfl (lv_at hl 0 rfl) ?_
        refine r_getR (v := .ref (ad 31)) C hw km0 fX7_343 rfl (hm53 hx) dX7_order_24 ?_
        refine lv_iload_n C.1.1 C.1.2.1 dX7_order_27 rfl (lv_at hl 1 rfl) ?_
        obtain ⟨hz, h⟩ := ck_some h
        refine r_iald C hw km31 (inB_in hz) dX7_order_28 ?_
        cases h
        exact r_iret C hw (Or.inl rfl) dX7_order_29
      · replace h := ite_neg' h hc
        exact w_X7_order_19 C hx hw (lv_sub hl [] rfl) h
set_option maxHeartbeats 4000000 in
set_option maxRecDepth 100000 in
theorem c_X7_order (hx : HM hr ad) {a1 : Int32} {g : GM} {r : Int32} {gz : GM} (h : F_X7_order a1 g = some (r, gz)) (sz : Nat) : Met l yX7_order (WSX yX7_order cX7_order 2 (some .int)) (RM 8 0 0) (va_Pc [.ref (ad 0), .int a1] (PX D cA ev hr ad KM g sz)) (QI D cA ev hr ad (AX ad KM.length sz) KM r gz) 0 0 (AX ad KM.length sz) :=
  met_of (own := RX7) pnX7 rfl (Nat.le_of_ble_eq_true rfl) (fun p e s m below meth c ls C hw hsz hl => w_X7_order_0 C hx hw hl h)
set_option maxHeartbeats 4000000 in
set_option maxRecDepth 100000 in
theorem w_X7_rings_0 (C : CX p s m args meth c RX7 yX7_rings cX7_rings 1 (some .int) D cA) (hx : HM hr ad) {H : Heap} {locs : List Loc} {g : GM} (hw : WS D cA ev hr ad A KM s H locs g) {ls : Array Slot} (hl : lv_has ls 1 [(0, .ref (ad 0))]) {r : Int32} {gz : GM} (h : F_X7_rings g = some (r, gz)) : W p l e (RM 8 0 0) s m args below meth c H locs 0 0 (MQ below (QI D cA ev hr ad A KM r gz) args s 0 0 A) (F0 m 0 ls []) := by
  refine lv_aload_n C.1.1 C.1.2.1 dX7_rings_0 rfl (lv_at hl 0 rfl) ?_
  obtain ⟨⟨r_1, g_2⟩, hc, h⟩ := bnd_some h
  refine r_vI (dc := 7) (As := []) (rest := []) C hw vX7_340 km0 (by decide) rfl (fun sz => c_X7_least hx hc sz) (by decide) rfl rfl hl.1 (Nat.le_of_ble_eq_true rfl) dX7_rings_1 ⟨Nat.le_refl _, Nat.le_refl _⟩ (fun H locs hw => ?_)
  refine lv_if_ge (tgt := 11) C.1.1 C.1.2.1 dX7_rings_4 (by decide) (fun hc => ?_) (fun hc => ?_)
  · replace h := ite_pos' h hc
    refine lv_aload_n C.1.1 C.1.2.1 dX7_rings_11 rfl (lv_at hl 0 rfl) ?_
    refine r_getI C hw km0 fX7_328 rfl dX7_rings_12 ?_
    obtain ⟨r_3, hc, h⟩ := bnd_some h
    refine r_sI (dc := 1) (As := [.int (gi g_2 0 51)]) (rest := []) C hw sX7_322 (fun sz => c_X7_bitsOf hx hc sz) (by decide) rfl rfl hl.1 (Nat.le_of_ble_eq_true rfl) dX7_rings_15 ⟨Nat.le_refl _, Nat.le_refl _⟩ (fun H locs hw => ?_)
    refine lv_aload_n C.1.1 C.1.2.1 dX7_rings_18 rfl (lv_at hl 0 rfl) ?_
    obtain ⟨⟨r_4, g_5⟩, hc, h⟩ := bnd_some h
    refine r_vI (dc := 1) (As := []) (rest := [.int r_3]) C hw vX7_346 km0 (by decide) rfl (fun sz => c_X7_place hx hc sz) (by decide) rfl rfl hl.1 (Nat.le_of_ble_eq_true rfl) dX7_rings_19 ⟨Nat.le_refl _, Nat.le_refl _⟩ (fun H locs hw => ?_)
    refine lv_isub C.1.1 C.1.2.1 dX7_rings_22 ?_
    cases h
    exact r_iret C hw (Or.inl rfl) dX7_rings_23
  · replace h := ite_neg' h hc
    refine lv_iconst (v := (-1)) C.1.1 C.1.2.1 dX7_rings_7 (by decide) ?_
    refine lv_goto (tgt := 23) C.1.1 C.1.2.1 dX7_rings_8 (by decide) ?_
    cases h
    exact r_iret C hw (Or.inl rfl) dX7_rings_23
set_option maxHeartbeats 4000000 in
set_option maxRecDepth 100000 in
theorem c_X7_rings (hx : HM hr ad) {g : GM} {r : Int32} {gz : GM} (h : F_X7_rings g = some (r, gz)) (sz : Nat) : Met l yX7_rings (WSX yX7_rings cX7_rings 1 (some .int)) (RM 8 0 0) (va_Pc [.ref (ad 0)] (PX D cA ev hr ad KM g sz)) (QI D cA ev hr ad (AX ad KM.length sz) KM r gz) 0 0 (AX ad KM.length sz) :=
  met_of (own := RX7) pnX7 rfl (Nat.le_of_ble_eq_true rfl) (fun p e s m below meth c ls C hw hsz hl => w_X7_rings_0 C hx hw hl h)
set_option maxHeartbeats 4000000 in
set_option maxRecDepth 100000 in
theorem w_X7_isPlain_62 {g : GM} {r : Int32} (C : CX p s m args meth c RX7 yX7_isPlain cX7_isPlain 3 (some .boolean) D cA) (hx : HM hr ad) {H : Heap} {locs : List Loc} (hw : WS D cA ev hr ad A KM s H locs g) {ls : Array Slot} (hl : lv_has ls 3 []) (h : F_X7_isPlain_62 g = some r) : W p l e (RM 1 0 0) s m args below meth c H locs 0 0 (MQ below (QI D cA ev hr ad A KM r g) args s 0 0 A) (F0 m 62 ls []) := by
  refine lv_iconst (v := 0) C.1.1 C.1.2.1 dX7_isPlain_62 (by decide) ?_
  cases h
  exact r_iret C hw (Or.inr ⟨rfl, Or.inl rfl⟩) dX7_isPlain_63
set_option maxHeartbeats 4000000 in
set_option maxRecDepth 100000 in
theorem w_X7_isPlain_0 (C : CX p s m args meth c RX7 yX7_isPlain cX7_isPlain 3 (some .boolean) D cA) (hx : HM hr ad) {H : Heap} {locs : List Loc} {g : GM} (hw : WS D cA ev hr ad A KM s H locs g) {a1 : Int32} {a2 : Int32} {ls : Array Slot} (hl : lv_has ls 3 [(0, .ref (ad 0)), (1, .int a1), (2, .int a2)]) {r : Int32} (h : F_X7_isPlain a1 a2 g = some r) : W p l e (RM 1 0 0) s m args below meth c H locs 0 0 (MQ below (QI D cA ev hr ad A KM r g) args s 0 0 A) (F0 m 0 ls []) := by
  refine lv_iload_n C.1.1 C.1.2.1 dX7_isPlain_0 rfl (lv_at hl 1 rfl) ?_
  refine lv_if_lt (tgt := 62) C.1.1 C.1.2.1 dX7_isPlain_1 (by decide) (fun hc => ?_) (fun hc => ?_)
  · replace h := ite_pos' h hc
    exact w_X7_isPlain_62 C hx hw (lv_sub hl [] rfl) h
  · replace h := ite_neg' h hc
    refine lv_iload_n C.1.1 C.1.2.1 dX7_isPlain_4 rfl (lv_at hl 1 rfl) ?_
    refine lv_aload_n C.1.1 C.1.2.1 dX7_isPlain_5 rfl (lv_at hl 0 rfl) ?_
    refine r_getR (v := .ref (ad 12)) C hw km0 fX7_98 rfl (hm21 hx) dX7_isPlain_6 ?_
    refine lv_aload_n C.1.1 C.1.2.1 dX7_isPlain_9 rfl (lv_at hl 0 rfl) ?_
    refine r_getI C hw km0 fX7_116 rfl dX7_isPlain_10 ?_
    obtain ⟨hz, h⟩ := ck_some h
    refine r_iald C hw km12 (inB_in hz) dX7_isPlain_13 ?_
    refine lv_icmp_ge (tgt := 62) C.1.1 C.1.2.1 dX7_isPlain_14 (by decide) (fun hc => ?_) (fun hc => ?_)
    · replace h := ite_pos' h hc
      exact w_X7_isPlain_62 C hx hw (lv_sub hl [] rfl) h
    · replace h := ite_neg' h hc
      refine lv_iload_n C.1.1 C.1.2.1 dX7_isPlain_17 rfl (lv_at hl 2 rfl) ?_
      refine lv_if_lt (tgt := 62) C.1.1 C.1.2.1 dX7_isPlain_18 (by decide) (fun hc => ?_) (fun hc => ?_)
      · replace h := ite_pos' h hc
        exact w_X7_isPlain_62 C hx hw (lv_sub hl [] rfl) h
      · replace h := ite_neg' h hc
        refine lv_iload_n C.1.1 C.1.2.1 dX7_isPlain_21 rfl (lv_at hl 2 rfl) ?_
        refine lv_aload_n C.1.1 C.1.2.1 dX7_isPlain_22 rfl (lv_at hl 0 rfl) ?_
        refine r_getR (v := .ref (ad 5)) C hw km0 fX7_106 rfl (hm14 hx) dX7_isPlain_23 ?_
        refine lv_iconst (v := 5) C.1.1 C.1.2.1 dX7_isPlain_26 (by decide) ?_
        refine lv_aload_n C.1.1 C.1.2.1 dX7_isPlain_27 rfl (lv_at hl 0 rfl) ?_
        refine r_getI C hw km0 fX7_116 rfl dX7_isPlain_28 ?_
        refine lv_imul C.1.1 C.1.2.1 dX7_isPlain_31 ?_
        refine lv_iload_n C.1.1 C.1.2.1 dX7_isPlain_32 rfl (lv_at hl 1 rfl) ?_
        refine lv_iadd C.1.1 C.1.2.1 dX7_isPlain_33 ?_
        obtain ⟨hz, h⟩ := ck_some h
        refine r_iald C hw km5 (inB_in hz) dX7_isPlain_34 ?_
        refine lv_icmp_ge (tgt := 62) C.1.1 C.1.2.1 dX7_isPlain_35 (by decide) (fun hc => ?_) (fun hc => ?_)
        · replace h := ite_pos' h hc
          exact w_X7_isPlain_62 C hx hw (lv_sub hl [] rfl) h
        · replace h := ite_neg' h hc
          refine lv_aload_n C.1.1 C.1.2.1 dX7_isPlain_38 rfl (lv_at hl 0 rfl) ?_
          refine r_getR (v := .ref (ad 7)) C hw km0 fX7_175 rfl (hm16 hx) dX7_isPlain_39 ?_
          refine lv_iconst (v := 5) C.1.1 C.1.2.1 dX7_isPlain_42 (by decide) ?_
          refine lv_iconst (v := 5) C.1.1 C.1.2.1 dX7_isPlain_43 (by decide) ?_
          refine lv_aload_n C.1.1 C.1.2.1 dX7_isPlain_44 rfl (lv_at hl 0 rfl) ?_
          refine r_getI C hw km0 fX7_116 rfl dX7_isPlain_45 ?_
          refine lv_imul C.1.1 C.1.2.1 dX7_isPlain_48 ?_
          refine lv_iload_n C.1.1 C.1.2.1 dX7_isPlain_49 rfl (lv_at hl 1 rfl) ?_
          refine lv_iadd C.1.1 C.1.2.1 dX7_isPlain_50 ?_
          refine lv_imul C.1.1 C.1.2.1 dX7_isPlain_51 ?_
          refine lv_iload_n C.1.1 C.1.2.1 dX7_isPlain_52 rfl (lv_at hl 2 rfl) ?_
          refine lv_iadd C.1.1 C.1.2.1 dX7_isPlain_53 ?_
          obtain ⟨hz, h⟩ := ck_some h
          refine r_iald C hw km7 (inB_in hz) dX7_isPlain_54 ?_
          refine lv_if_ge (tgt := 62) C.1.1 C.1.2.1 dX7_isPlain_55 (by decide) (fun hc => ?_) (fun hc => ?_)
          · replace h := ite_pos' h hc
            exact w_X7_isPlain_62 C hx hw (lv_sub hl [] rfl) h
          · replace h := ite_neg' h hc
            refine lv_iconst (v := 1) C.1.1 C.1.2.1 dX7_isPlain_58 (by decide) ?_
            refine lv_goto (tgt := 63) C.1.1 C.1.2.1 dX7_isPlain_59 (by decide) ?_
            cases h
            exact r_iret C hw (Or.inr ⟨rfl, Or.inr rfl⟩) dX7_isPlain_63
set_option maxHeartbeats 4000000 in
set_option maxRecDepth 100000 in
theorem c_X7_isPlain (hx : HM hr ad) {a1 : Int32} {a2 : Int32} {g : GM} {r : Int32} (h : F_X7_isPlain a1 a2 g = some r) (sz : Nat) : Met l yX7_isPlain (WSX yX7_isPlain cX7_isPlain 3 (some .boolean)) (RM 1 0 0) (va_Pc [.ref (ad 0), .int a1, .int a2] (PX D cA ev hr ad KM g sz)) (QI D cA ev hr ad (AX ad KM.length sz) KM r g) 0 0 (AX ad KM.length sz) :=
  met_of (own := RX7) pnX7 rfl (Nat.le_of_ble_eq_true rfl) (fun p e s m below meth c ls C hw hsz hl => w_X7_isPlain_0 C hx hw hl h)
set_option maxHeartbeats 4000000 in
set_option maxRecDepth 100000 in
theorem w_X7_hide_0 (C : CX p s m args meth c RX7 yX7_hide cX7_hide 4 (some .boolean) D cA) (hx : HM hr ad) {H : Heap} {locs : List Loc} {g : GM} (hw : WS D cA ev hr ad A KM s H locs g) {a1 : Int32} {a2 : Int32} {a3 : Int32} {ls : Array Slot} (hl : lv_has ls 4 [(0, .ref (ad 0)), (1, .int a1), (2, .int a2), (3, .int a3)]) {r : Int32} {gz : GM} (h : F_X7_hide a1 a2 a3 g = some (r, gz)) : W p l e (RM 2 0 0) s m args below meth c H locs 0 0 (MQ below (QI D cA ev hr ad A KM r gz) args s 0 0 A) (F0 m 0 ls []) := by
  refine lv_aload_n C.1.1 C.1.2.1 dX7_hide_0 rfl (lv_at hl 0 rfl) ?_
  refine lv_iload_n C.1.1 C.1.2.1 dX7_hide_1 rfl (lv_at hl 1 rfl) ?_
  refine lv_iload_n C.1.1 C.1.2.1 dX7_hide_2 rfl (lv_at hl 2 rfl) ?_
  obtain ⟨r_1, hc, h⟩ := bnd_some h
  refine r_vI (dc := 1) (As := [.int a1, .int a2]) (rest := []) C hw vX7_354 km0 (by decide) rfl (fun sz => c_X7_isPlain hx hc sz) (by decide) rfl rfl hl.1 (Nat.le_of_ble_eq_true rfl) dX7_hide_3 ⟨Nat.le_refl _, Nat.le_refl _⟩ (fun H locs hw => ?_)
  refine lv_if_eq (tgt := 21) C.1.1 C.1.2.1 dX7_hide_6 (by decide) (fun hc => ?_) (fun hc => ?_)
  · replace h := ite_pos' h hc
    refine lv_iconst (v := 0) C.1.1 C.1.2.1 dX7_hide_21 (by decide) ?_
    cases h
    exact r_iret C hw (Or.inr ⟨rfl, Or.inl rfl⟩) dX7_hide_22
  · replace h := ite_neg' h hc
    refine lv_iload_n C.1.1 C.1.2.1 dX7_hide_9 rfl (lv_at hl 3 rfl) ?_
    refine lv_iconst (v := (-1)) C.1.1 C.1.2.1 dX7_hide_10 (by decide) ?_
    refine lv_icmp_lt (tgt := 21) C.1.1 C.1.2.1 dX7_hide_11 (by decide) (fun hc => ?_) (fun hc => ?_)
    · replace h := ite_pos' h hc
      refine lv_iconst (v := 0) C.1.1 C.1.2.1 dX7_hide_21 (by decide) ?_
      cases h
      exact r_iret C hw (Or.inr ⟨rfl, Or.inl rfl⟩) dX7_hide_22
    · replace h := ite_neg' h hc
      refine lv_iload_n C.1.1 C.1.2.1 dX7_hide_14 rfl (lv_at hl 3 rfl) ?_
      refine lv_sipush (v := 9999) C.1.1 C.1.2.1 dX7_hide_15 (by decide) ?_
      refine lv_icmp_le (tgt := 23) C.1.1 C.1.2.1 dX7_hide_18 (by decide) (fun hc => ?_) (fun hc => ?_)
      · replace h := ite_pos' h hc
        refine lv_aload_n C.1.1 C.1.2.1 dX7_hide_23 rfl (lv_at hl 0 rfl) ?_
        refine r_getR (v := .ref (ad 32)) C hw km0 fX7_150 rfl (hm54 hx) dX7_hide_24 ?_
        refine lv_iconst (v := 5) C.1.1 C.1.2.1 dX7_hide_27 (by decide) ?_
        refine lv_iload_n C.1.1 C.1.2.1 dX7_hide_28 rfl (lv_at hl 1 rfl) ?_
        refine lv_imul C.1.1 C.1.2.1 dX7_hide_29 ?_
        refine lv_iload_n C.1.1 C.1.2.1 dX7_hide_30 rfl (lv_at hl 2 rfl) ?_
        refine lv_iadd C.1.1 C.1.2.1 dX7_hide_31 ?_
        refine lv_iload_n C.1.1 C.1.2.1 dX7_hide_32 rfl (lv_at hl 3 rfl) ?_
        obtain ⟨hz, h⟩ := ck_some h
        refine r_iast C hw km32 (inB_in hz) dX7_hide_33 (fun H locs hw => ?_)
        refine lt_gen (P := fun g => WS D cA ev hr ad A KM s H locs g) h hw (fun g_2 h hw => ?_)
        refine lv_iconst (v := 1) C.1.1 C.1.2.1 dX7_hide_34 (by decide) ?_
        cases h
        exact r_iret C hw (Or.inr ⟨rfl, Or.inr rfl⟩) dX7_hide_35
      · replace h := ite_neg' h hc
        refine lv_iconst (v := 0) C.1.1 C.1.2.1 dX7_hide_21 (by decide) ?_
        cases h
        exact r_iret C hw (Or.inr ⟨rfl, Or.inl rfl⟩) dX7_hide_22
set_option maxHeartbeats 4000000 in
set_option maxRecDepth 100000 in
theorem c_X7_hide (hx : HM hr ad) {a1 : Int32} {a2 : Int32} {a3 : Int32} {g : GM} {r : Int32} {gz : GM} (h : F_X7_hide a1 a2 a3 g = some (r, gz)) (sz : Nat) : Met l yX7_hide (WSX yX7_hide cX7_hide 4 (some .boolean)) (RM 2 0 0) (va_Pc [.ref (ad 0), .int a1, .int a2, .int a3] (PX D cA ev hr ad KM g sz)) (QI D cA ev hr ad (AX ad KM.length sz) KM r gz) 0 0 (AX ad KM.length sz) :=
  met_of (own := RX7) pnX7 rfl (Nat.le_of_ble_eq_true rfl) (fun p e s m below meth c ls C hw hsz hl => w_X7_hide_0 C hx hw hl h)
set_option maxHeartbeats 4000000 in
set_option maxRecDepth 100000 in
theorem w_X7_shown_52 {x3 : Int32} {g : GM} {r : Int32} (C : CX p s m args meth c RX7 yX7_shown cX7_shown 5 (some .int) D cA) (hx : HM hr ad) {H : Heap} {locs : List Loc} (hw : WS D cA ev hr ad A KM s H locs g) {ls : Array Slot} (hl : lv_has ls 5 [(3, .int x3)]) (h : F_X7_shown_52 x3 g = some r) : W p l e (RM 4 0 0) s m args below meth c H locs 0 0 (MQ below (QI D cA ev hr ad A KM r g) args s 0 0 A) (F0 m 52 ls []) := by
  refine lv_iload_n C.1.1 C.1.2.1 dX7_shown_52 rfl (lv_at hl 0 rfl) ?_
  refine lv_goto (tgt := 75) C.1.1 C.1.2.1 dX7_shown_53 (by decide) ?_
  cases h
  exact r_iret C hw (Or.inl rfl) dX7_shown_75
set_option maxHeartbeats 4000000 in
set_option maxRecDepth 100000 in
theorem w_X7_shown_41 {x3 : Int32} {s0 : Int32} {g : GM} {r : Int32} (C : CX p s m args meth c RX7 yX7_shown cX7_shown 5 (some .int) D cA) (hx : HM hr ad) {H : Heap} {locs : List Loc} (hw : WS D cA ev hr ad A KM s H locs g) {ls : Array Slot} (hl : lv_has ls 5 [(3, .int x3)]) (h : F_X7_shown_41 x3 s0 g = some r) : W p l e (RM 4 0 0) s m args below meth c H locs 0 0 (MQ below (QI D cA ev hr ad A KM r g) args s 0 0 A) (F0 m 41 ls [.int s0]) := by
  refine lv_istore (lv' := [(4, .int s0), (3, .int x3)]) C.1.1 C.1.2.1 dX7_shown_41 hl (by decide) rfl (fun ls hl => ?_)
  refine lv_iload_n C.1.1 C.1.2.1 dX7_shown_43 rfl (lv_at hl 1 rfl) ?_
  refine lv_if_lt (tgt := 52) C.1.1 C.1.2.1 dX7_shown_44 (by decide) (fun hc => ?_) (fun hc => ?_)
  · replace h := ite_pos' h hc
    exact w_X7_shown_52 C hx hw (lv_sub hl [1] rfl) h
  · replace h := ite_neg' h hc
    refine lv_iload C.1.1 C.1.2.1 dX7_shown_47 (lv_at hl 0 rfl) ?_
    refine lv_if_ge (tgt := 56) C.1.1 C.1.2.1 dX7_shown_49 (by decide) (fun hc => ?_) (fun hc => ?_)
    · replace h := ite_pos' h hc
      refine lv_iload_n C.1.1 C.1.2.1 dX7_shown_56 rfl (lv_at hl 1 rfl) ?_
      refine lv_i2l (v := x3.toInt64) C.1.1 C.1.2.1 dX7_shown_57 rfl ?_
      refine lv_iconst (v := 2) C.1.1 C.1.2.1 dX7_shown_58 (by decide) ?_
      refine lv_iload C.1.1 C.1.2.1 dX7_shown_59 (lv_at hl 0 rfl) ?_
      refine lv_imul C.1.1 C.1.2.1 dX7_shown_61 ?_
      refine lv_iconst (v := 1) C.1.1 C.1.2.1 dX7_shown_62 (by decide) ?_
      refine lv_iadd C.1.1 C.1.2.1 dX7_shown_63 ?_
      refine lv_i2l (v := ((2 * s0) + 1).toInt64) C.1.1 C.1.2.1 dX7_shown_64 rfl ?_
      refine lv_lmul C.1.1 C.1.2.1 dX7_shown_65 ?_
      refine lv_iload C.1.1 C.1.2.1 dX7_shown_66 (lv_at hl 0 rfl) ?_
      refine lv_i2l (v := s0.toInt64) C.1.1 C.1.2.1 dX7_shown_68 rfl ?_
      refine lv_ladd C.1.1 C.1.2.1 dX7_shown_69 ?_
      refine lv_ldc2 (v := 1048576) C.1.1 C.1.2.1 C.1.2.2.2.1 (C.w kc1214) dX7_shown_70 ?_
      refine lv_lrem C.1.1 C.1.2.1 dX7_shown_73 (by decide) ?_
      refine lv_l2i (v := (((x3.toInt64 * (((2 * s0) + 1).toInt64)) + s0.toInt64) - ((x3.toInt64 * (((2 * s0) + 1).toInt64)) + s0.toInt64) / 1048576 * 1048576).toInt32) C.1.1 C.1.2.1 dX7_shown_74 rfl ?_
      cases h
      exact r_iret C hw (Or.inl rfl) dX7_shown_75
    · replace h := ite_neg' h hc
      exact w_X7_shown_52 C hx hw (lv_sub hl [1] rfl) h
set_option maxHeartbeats 4000000 in
set_option maxRecDepth 100000 in
theorem w_X7_shown_0 (C : CX p s m args meth c RX7 yX7_shown cX7_shown 5 (some .int) D cA) (hx : HM hr ad) {H : Heap} {locs : List Loc} {g : GM} (hw : WS D cA ev hr ad A KM s H locs g) {a1 : Int32} {a2 : Int32} {ls : Array Slot} (hl : lv_has ls 5 [(0, .ref (ad 0)), (1, .int a1), (2, .int a2)]) {r : Int32} (h : F_X7_shown a1 a2 g = some r) : W p l e (RM 4 0 0) s m args below meth c H locs 0 0 (MQ below (QI D cA ev hr ad A KM r g) args s 0 0 A) (F0 m 0 ls []) := by
  refine lv_aload_n C.1.1 C.1.2.1 dX7_shown_0 rfl (lv_at hl 0 rfl) ?_
  refine lv_iload_n C.1.1 C.1.2.1 dX7_shown_1 rfl (lv_at hl 1 rfl) ?_
  refine lv_iload_n C.1.1 C.1.2.1 dX7_shown_2 rfl (lv_at hl 2 rfl) ?_
  obtain ⟨r_1, hc, h⟩ := bnd_some h
  refine r_vI (dc := 3) (As := [.int a1, .int a2]) (rest := []) C hw vX7_357 km0 (by decide) rfl (fun sz => c_X7_value hx hc sz) (by decide) rfl rfl hl.1 (Nat.le_of_ble_eq_true rfl) dX7_shown_3 ⟨Nat.le_refl _, Nat.le_refl _⟩ (fun H locs hw => ?_)
  refine lv_istore_n (lv' := [(3, .int r_1), (0, .ref (ad 0)), (1, .int a1), (2, .int a2)]) C.1.1 C.1.2.1 dX7_shown_6 rfl hl (by decide) rfl (fun ls hl => ?_)
  refine lt_gen (P := fun x => lv_has ls 5 [(3, .int x), (0, .ref (ad 0)), (1, .int a1), (2, .int a2)]) h hl (fun x3_2 h hl => ?_)
  refine lv_aload_n C.1.1 C.1.2.1 dX7_shown_7 rfl (lv_at hl 1 rfl) ?_
  refine lv_iload_n C.1.1 C.1.2.1 dX7_shown_8 rfl (lv_at hl 2 rfl) ?_
  refine lv_iload_n C.1.1 C.1.2.1 dX7_shown_9 rfl (lv_at hl 3 rfl) ?_
  obtain ⟨r_3, hc, h⟩ := bnd_some h
  refine r_vI (dc := 2) (As := [.int a1, .int a2]) (rest := []) C hw vX7_203 km0 (by decide) rfl (fun sz => c_X7_hasColumn hx hc sz) (by decide) rfl rfl hl.1 (Nat.le_of_ble_eq_true rfl) dX7_shown_10 ⟨Nat.le_refl _, Nat.le_refl _⟩ (fun H locs hw => ?_)
  refine lv_if_eq (tgt := 40) C.1.1 C.1.2.1 dX7_shown_13 (by decide) (fun hc => ?_) (fun hc => ?_)
  · replace h := ite_pos' h hc
    refine lv_iconst (v := (-1)) C.1.1 C.1.2.1 dX7_shown_40 (by decide) ?_
    exact w_X7_shown_41 C hx hw (lv_sub hl [0] rfl) h
  · replace h := ite_neg' h hc
    refine lv_aload_n C.1.1 C.1.2.1 dX7_shown_16 rfl (lv_at hl 1 rfl) ?_
    refine r_getR (v := .ref (ad 32)) C hw km0 fX7_150 rfl (hm54 hx) dX7_shown_17 ?_
    refine lv_iconst (v := 5) C.1.1 C.1.2.1 dX7_shown_20 (by decide) ?_
    refine lv_aload_n C.1.1 C.1.2.1 dX7_shown_21 rfl (lv_at hl 1 rfl) ?_
    refine lv_iload_n C.1.1 C.1.2.1 dX7_shown_22 rfl (lv_at hl 2 rfl) ?_
    obtain ⟨r_4, hc, h⟩ := bnd_some h
    refine r_vI (dc := 1) (As := [.int a1]) (rest := [.int 5, .ref (ad 32)]) C hw vX7_194 km0 (by decide) rfl (fun sz => c_X7_tableAt hx hc sz) (by decide) rfl rfl hl.1 (Nat.le_of_ble_eq_true rfl) dX7_shown_23 ⟨Nat.le_refl _, Nat.le_refl _⟩ (fun H locs hw => ?_)
    refine lv_iconst (v := 5) C.1.1 C.1.2.1 dX7_shown_26 (by decide) ?_
    refine lv_aload_n C.1.1 C.1.2.1 dX7_shown_27 rfl (lv_at hl 1 rfl) ?_
    refine r_getI C hw km0 fX7_116 rfl dX7_shown_28 ?_
    refine lv_imul C.1.1 C.1.2.1 dX7_shown_31 ?_
    refine lv_isub C.1.1 C.1.2.1 dX7_shown_32 ?_
    refine lv_imul C.1.1 C.1.2.1 dX7_shown_33 ?_
    refine lv_iload_n C.1.1 C.1.2.1 dX7_shown_34 rfl (lv_at hl 3 rfl) ?_
    refine lv_iadd C.1.1 C.1.2.1 dX7_shown_35 ?_
    obtain ⟨hz, h⟩ := ck_some h
    refine r_iald C hw km32 (inB_in hz) dX7_shown_36 ?_
    refine lv_goto (tgt := 41) C.1.1 C.1.2.1 dX7_shown_37 (by decide) ?_
    exact w_X7_shown_41 C hx hw (lv_sub hl [0] rfl) h
set_option maxHeartbeats 4000000 in
set_option maxRecDepth 100000 in
theorem c_X7_shown (hx : HM hr ad) {a1 : Int32} {a2 : Int32} {g : GM} {r : Int32} (h : F_X7_shown a1 a2 g = some r) (sz : Nat) : Met l yX7_shown (WSX yX7_shown cX7_shown 5 (some .int)) (RM 4 0 0) (va_Pc [.ref (ad 0), .int a1, .int a2] (PX D cA ev hr ad KM g sz)) (QI D cA ev hr ad (AX ad KM.length sz) KM r g) 0 0 (AX ad KM.length sz) :=
  met_of (own := RX7) pnX7 rfl (Nat.le_of_ble_eq_true rfl) (fun p e s m below meth c ls C hw hsz hl => w_X7_shown_0 C hx hw hl h)
set_option maxHeartbeats 4000000 in
set_option maxRecDepth 100000 in
theorem w_X7_total_71 {x1 : Int32} {x2 : Int32} {x3 : Int32} {x4 : Int32} {x5 : Int32} {g : GM} {r : Int32} (kb6 : Int32 × Int32 → Option (Int32)) (hk6 : ∀ (x4 : Int32) (x5 : Int32) (H : Heap) (locs : List Loc) (ls : Array Slot), WS D cA ev hr ad A KM s H locs g → lv_has ls 6 [(0, .ref (ad 0)), (1, .int x1), (2, .int x2), (3, .int x3), (4, .int x4), (5, .int x5)] → kb6 (x4, x5) = some r → W p l e (RM 3 0 0) s m args below meth c H locs 0 0 (MQ below (QI D cA ev hr ad A KM r g) args s 0 0 A) (F0 m 6 ls [])) (C : CX p s m args meth c RX7 yX7_total cX7_total 6 (some .int) D cA) (hx : HM hr ad) {H : Heap} {locs : List Loc} (hw : WS D cA ev hr ad A KM s H locs g) {ls : Array Slot} (hl : lv_has ls 6 [(0, .ref (ad 0)), (1, .int x1), (2, .int x2), (3, .int x3), (4, .int x4), (5, .int x5)]) (h : F_X7_total_71 kb6 x1 x2 x3 x4 x5 g = some r) : W p l e (RM 3 0 0) s m args below meth c H locs 0 0 (MQ below (QI D cA ev hr ad A KM r g) args s 0 0 A) (F0 m 71 ls []) := by
  refine lv_iinc (v := x5 + 1) (lv' := [(5, .int (x5 + 1)), (0, .ref (ad 0)), (1, .int x1), (2, .int x2), (3, .int x3), (4, .int x4)]) C.1.1 C.1.2.1 dX7_total_71 hl (k := 5) rfl rfl (by decide) rfl (fun ls hl => ?_)
  refine lt_gen (P := fun x => lv_has ls 6 [(5, .int x), (0, .ref (ad 0)), (1, .int x1), (2, .int x2), (3, .int x3), (4, .int x4)]) h hl (fun x5_1 h hl => ?_)
  refine lv_goto (tgt := 6) C.1.1 C.1.2.1 dX7_total_74 (by decide) ?_
  exact hk6 _ _ _ _ _ hw (lv_sub hl [1, 2, 3, 4, 5, 0] rfl) h
set_option maxHeartbeats 4000000 in
set_option maxRecDepth 100000 in
theorem w_X7_total_6 {x1 : Int32} {x2 : Int32} {x3 : Int32} {g : GM} {r : Int32} (kb6 : Int32 × Int32 → Option (Int32)) (hk6 : ∀ (x4 : Int32) (x5 : Int32) (H : Heap) (locs : List Loc) (ls : Array Slot), WS D cA ev hr ad A KM s H locs g → lv_has ls 6 [(0, .ref (ad 0)), (1, .int x1), (2, .int x2), (3, .int x3), (4, .int x4), (5, .int x5)] → kb6 (x4, x5) = some r → W p l e (RM 3 0 0) s m args below meth c H locs 0 0 (MQ below (QI D cA ev hr ad A KM r g) args s 0 0 A) (F0 m 6 ls [])) (C : CX p s m args meth c RX7 yX7_total cX7_total 6 (some .int) D cA) (hx : HM hr ad) {H : Heap} {locs : List Loc} {x4 : Int32} {x5 : Int32} (hw : WS D cA ev hr ad A KM s H locs g) {ls : Array Slot} (hl : lv_has ls 6 [(0, .ref (ad 0)), (1, .int x1), (2, .int x2), (3, .int x3), (4, .int x4), (5, .int x5)]) (h : F_X7_total_6B x1 x2 x3 g kb6 (x4, x5) = some r) : W p l e (RM 3 0 0) s m args below meth c H locs 0 0 (MQ below (QI D cA ev hr ad A KM r g) args s 0 0 A) (F0 m 6 ls []) := by
  refine lv_iload C.1.1 C.1.2.1 dX7_total_6 (lv_at hl 5 rfl) ?_
  refine lv_aload_n C.1.1 C.1.2.1 dX7_total_8 rfl (lv_at hl 0 rfl) ?_
  refine r_getR (v := .ref (ad 13)) C hw km0 fX7_122 rfl (hm22 hx) dX7_total_9 ?_
  refine lv_aload_n C.1.1 C.1.2.1 dX7_total_12 rfl (lv_at hl 0 rfl) ?_
  refine r_getI C hw km0 fX7_116 rfl dX7_total_13 ?_
  obtain ⟨hz, h⟩ := ck_some h
  refine r_iald C hw km13 (inB_in hz) dX7_total_16 ?_
  refine lv_icmp_ge (tgt := 77) C.1.1 C.1.2.1 dX7_total_17 (by decide) (fun hc => ?_) (fun hc => ?_)
  · replace h := ite_pos' h hc
    refine lv_iload C.1.1 C.1.2.1 dX7_total_77 (lv_at hl 4 rfl) ?_
    cases h
    exact r_iret C hw (Or.inl rfl) dX7_total_79
  · replace h := ite_neg' h hc
    refine lv_iload_n C.1.1 C.1.2.1 dX7_total_20 rfl (lv_at hl 3 rfl) ?_
    refine lv_iload C.1.1 C.1.2.1 dX7_total_21 (lv_at hl 5 rfl) ?_
    refine lv_ishr C.1.1 C.1.2.1 dX7_total_23 ?_
    refine lv_iconst (v := 1) C.1.1 C.1.2.1 dX7_total_24 (by decide) ?_
    refine lv_iand C.1.1 C.1.2.1 dX7_total_25 ?_
    refine lv_if_eq (tgt := 71) C.1.1 C.1.2.1 dX7_total_26 (by decide) (fun hc => ?_) (fun hc => ?_)
    · replace h := ite_pos' h hc
      exact w_X7_total_71 kb6 hk6 C hx hw hl h
    · replace h := ite_neg' h hc
      refine lv_aload_n C.1.1 C.1.2.1 dX7_total_29 rfl (lv_at hl 0 rfl) ?_
      refine lv_iload C.1.1 C.1.2.1 dX7_total_30 (lv_at hl 5 rfl) ?_
      obtain ⟨r_2, hc, h⟩ := bnd_some h
      refine r_vI (dc := 1) (As := [.int x5]) (rest := []) C hw vX7_194 km0 (by decide) rfl (fun sz => c_X7_tableAt hx hc sz) (by decide) rfl rfl hl.1 (Nat.le_of_ble_eq_true rfl) dX7_total_32 ⟨Nat.le_refl _, Nat.le_refl _⟩ (fun H locs hw => ?_)
      refine lv_iconst (v := 5) C.1.1 C.1.2.1 dX7_total_35 (by decide) ?_
      refine lv_aload_n C.1.1 C.1.2.1 dX7_total_36 rfl (lv_at hl 0 rfl) ?_
      refine r_getI C hw km0 fX7_116 rfl dX7_total_37 ?_
      refine lv_imul C.1.1 C.1.2.1 dX7_total_40 ?_
      refine lv_iload_n C.1.1 C.1.2.1 dX7_total_41 rfl (lv_at hl 1 rfl) ?_
      refine lv_iadd C.1.1 C.1.2.1 dX7_total_42 ?_
      refine lv_icmp_ne (tgt := 71) C.1.1 C.1.2.1 dX7_total_43 (by decide) (fun hc => ?_) (fun hc => ?_)
      · replace h := ite_neg' h hc
        exact w_X7_total_71 kb6 hk6 C hx hw hl h
      · replace h := ite_pos' h hc
        refine lv_aload_n C.1.1 C.1.2.1 dX7_total_46 rfl (lv_at hl 0 rfl) ?_
        refine lv_iload C.1.1 C.1.2.1 dX7_total_47 (lv_at hl 5 rfl) ?_
        refine lv_iload_n C.1.1 C.1.2.1 dX7_total_49 rfl (lv_at hl 2 rfl) ?_
        obtain ⟨r_3, hc, h⟩ := bnd_some h
        refine r_vI (dc := 2) (As := [.int x5, .int x2]) (rest := []) C hw vX7_207 km0 (by decide) rfl (fun sz => c_X7_valueAt hx hc sz) (by decide) rfl rfl hl.1 (Nat.le_of_ble_eq_true rfl) dX7_total_50 ⟨Nat.le_refl _, Nat.le_refl _⟩ (fun H locs hw => ?_)
        refine lv_if_ge (tgt := 59) C.1.1 C.1.2.1 dX7_total_53 (by decide) (fun hc => ?_) (fun hc => ?_)
        · replace h := ite_pos' h hc
          refine lv_iload C.1.1 C.1.2.1 dX7_total_59 (lv_at hl 4 rfl) ?_
          refine lv_aload_n C.1.1 C.1.2.1 dX7_total_61 rfl (lv_at hl 0 rfl) ?_
          refine lv_iload C.1.1 C.1.2.1 dX7_total_62 (lv_at hl 5 rfl) ?_
          refine lv_iload_n C.1.1 C.1.2.1 dX7_total_64 rfl (lv_at hl 2 rfl) ?_
          obtain ⟨r_4, hc, h⟩ := bnd_some h
          refine r_vI (dc := 2) (As := [.int x5, .int x2]) (rest := [.int x4]) C hw vX7_207 km0 (by decide) rfl (fun sz => c_X7_valueAt hx hc sz) (by decide) rfl rfl hl.1 (Nat.le_of_ble_eq_true rfl) dX7_total_65 ⟨Nat.le_refl _, Nat.le_refl _⟩ (fun H locs hw => ?_)
          refine lv_iadd C.1.1 C.1.2.1 dX7_total_68 ?_
          refine lv_istore (lv' := [(4, .int (x4 + r_4)), (0, .ref (ad 0)), (1, .int x1), (2, .int x2), (3, .int x3), (5, .int x5)]) C.1.1 C.1.2.1 dX7_total_69 hl (by decide) rfl (fun ls hl => ?_)
          refine lt_gen (P := fun x => lv_has ls 6 [(4, .int x), (0, .ref (ad 0)), (1, .int x1), (2, .int x2), (3, .int x3), (5, .int x5)]) h hl (fun x4_5 h hl => ?_)
          exact w_X7_total_71 kb6 hk6 C hx hw (lv_sub hl [1, 2, 3, 4, 0, 5] rfl) h
        · replace h := ite_neg' h hc
          refine lv_goto (tgt := 71) C.1.1 C.1.2.1 dX7_total_56 (by decide) ?_
          exact w_X7_total_71 kb6 hk6 C hx hw hl h
set_option maxHeartbeats 4000000 in
set_option maxRecDepth 100000 in
theorem w_X7_total_6L {x1 : Int32} {x2 : Int32} {x3 : Int32} {g : GM} {r : Int32} (C : CX p s m args meth c RX7 yX7_total cX7_total 6 (some .int) D cA) (hx : HM hr ad) : ∀ (n : Nat) (x4 : Int32) (x5 : Int32) (H : Heap) (locs : List Loc) (ls : Array Slot), WS D cA ev hr ad A KM s H locs g → lv_has ls 6 [(0, .ref (ad 0)), (1, .int x1), (2, .int x2), (3, .int x3), (4, .int x4), (5, .int x5)] → fixN (F_X7_total_6B x1 x2 x3 g) n (x4, x5) = some r → W p l e (RM 3 0 0) s m args below meth c H locs 0 0 (MQ below (QI D cA ev hr ad A KM r g) args s 0 0 A) (F0 m 6 ls []) := by
  intro n
  induction n with
  | zero => intro x4 x5 H locs ls hw hl h; exact (fix_zero h).elim
  | succ n ih => intro x4 x5 H locs ls hw hl h; exact w_X7_total_6 (fixN (F_X7_total_6B x1 x2 x3 g) n) ih C hx hw hl h
set_option maxHeartbeats 4000000 in
set_option maxRecDepth 100000 in
theorem w_X7_total_0 (C : CX p s m args meth c RX7 yX7_total cX7_total 6 (some .int) D cA) (hx : HM hr ad) {H : Heap} {locs : List Loc} {g : GM} (hw : WS D cA ev hr ad A KM s H locs g) {a1 : Int32} {a2 : Int32} {a3 : Int32} {ls : Array Slot} (hl : lv_has ls 6 [(0, .ref (ad 0)), (1, .int a1), (2, .int a2), (3, .int a3)]) {r : Int32} (h : F_X7_total a1 a2 a3 g = some r) : W p l e (RM 3 0 0) s m args below meth c H locs 0 0 (MQ below (QI D cA ev hr ad A KM r g) args s 0 0 A) (F0 m 0 ls []) := by
  refine lv_iconst (v := 0) C.1.1 C.1.2.1 dX7_total_0 (by decide) ?_
  refine lv_istore (lv' := [(4, .int 0), (0, .ref (ad 0)), (1, .int a1), (2, .int a2), (3, .int a3)]) C.1.1 C.1.2.1 dX7_total_1 hl (by decide) rfl (fun ls hl => ?_)
  refine lv_iconst (v := 0) C.1.1 C.1.2.1 dX7_total_3 (by decide) ?_
  refine lv_istore (lv' := [(5, .int 0), (4, .int 0), (0, .ref (ad 0)), (1, .int a1), (2, .int a2), (3, .int a3)]) C.1.1 C.1.2.1 dX7_total_4 hl (by decide) rfl (fun ls hl => ?_)
  exact w_X7_total_6L C hx FU _ _ _ _ _ hw (lv_sub hl [2, 3, 4, 5, 1, 0] rfl) h
set_option maxHeartbeats 4000000 in
set_option maxRecDepth 100000 in
theorem c_X7_total (hx : HM hr ad) {a1 : Int32} {a2 : Int32} {a3 : Int32} {g : GM} {r : Int32} (h : F_X7_total a1 a2 a3 g = some r) (sz : Nat) : Met l yX7_total (WSX yX7_total cX7_total 6 (some .int)) (RM 3 0 0) (va_Pc [.ref (ad 0), .int a1, .int a2, .int a3] (PX D cA ev hr ad KM g sz)) (QI D cA ev hr ad (AX ad KM.length sz) KM r g) 0 0 (AX ad KM.length sz) :=
  met_of (own := RX7) pnX7 rfl (Nat.le_of_ble_eq_true rfl) (fun p e s m below meth c ls C hw hsz hl => w_X7_total_0 C hx hw hl h)
set_option maxHeartbeats 4000000 in
set_option maxRecDepth 100000 in
theorem w_X7_weight_59 {x3 : Int32} {x4 : Int32} {x5 : Int32} {g : GM} {r : Int32} {gz : GM} (kb59 : Int32 × Int32 → Option (Int32 × GM)) (hk59 : ∀ (x6 : Int32) (x7 : Int32) (H : Heap) (locs : List Loc) (ls : Array Slot), WS D cA ev hr ad A KM s H locs g → lv_has ls 9 [(3, .int x3), (4, .int x4), (5, .int x5), (6, .int x6), (7, .int x7)] → kb59 (x6, x7) = some (r, gz) → W p l e (RM 8 0 0) s m args below meth c H locs 0 0 (MQ below (QI D cA ev hr ad A KM r gz) args s 0 0 A) (F0 m 59 ls [])) (C : CX p s m args meth c RX7 yX7_weight cX7_weight 9 (some .int) D cA) (hx : HM hr ad) {H : Heap} {locs : List Loc} {x6 : Int32} {x7 : Int32} (hw : WS D cA ev hr ad A KM s H locs g) {ls : Array Slot} (hl : lv_has ls 9 [(3, .int x3), (4, .int x4), (5, .int x5), (6, .int x6), (7, .int x7)]) (h : F_X7_weight_59B x3 x4 x5 g kb59 (x6, x7) = some (r, gz)) : W p l e (RM 8 0 0) s m args below meth c H locs 0 0 (MQ below (QI D cA ev hr ad A KM r gz) args s 0 0 A) (F0 m 59 ls []) := by
  refine lv_iload C.1.1 C.1.2.1 dX7_weight_59 (lv_at hl 4 rfl) ?_
  refine lv_if_le (tgt := 82) C.1.1 C.1.2.1 dX7_weight_61 (by decide) (fun hc => ?_) (fun hc => ?_)
  · replace h := ite_pos' h hc
    refine lv_iload_n C.1.1 C.1.2.1 dX7_weight_82 rfl (lv_at hl 0 rfl) ?_
    refine lv_if_eq (tgt := 91) C.1.1 C.1.2.1 dX7_weight_83 (by decide) (fun hc => ?_) (fun hc => ?_)
    · replace h := ite_pos' h hc
      refine lv_iload C.1.1 C.1.2.1 dX7_weight_91 (lv_at hl 1 rfl) ?_
      refine lv_iload C.1.1 C.1.2.1 dX7_weight_93 (lv_at hl 3 rfl) ?_
      obtain ⟨hz, h⟩ := ck_some h
      refine lv_idiv C.1.1 C.1.2.1 dX7_weight_95 (nz_of hz) ?_
      cases h
      exact r_iret C hw (Or.inl rfl) dX7_weight_96
    · replace h := ite_neg' h hc
      refine lv_iload C.1.1 C.1.2.1 dX7_weight_86 (lv_at hl 2 rfl) ?_
      refine lv_goto (tgt := 93) C.1.1 C.1.2.1 dX7_weight_88 (by decide) ?_
      refine lv_iload C.1.1 C.1.2.1 dX7_weight_93 (lv_at hl 3 rfl) ?_
      obtain ⟨hz, h⟩ := ck_some h
      refine lv_idiv C.1.1 C.1.2.1 dX7_weight_95 (nz_of hz) ?_
      cases h
      exact r_iret C hw (Or.inl rfl) dX7_weight_96
  · replace h := ite_neg' h hc
    refine lv_iload C.1.1 C.1.2.1 dX7_weight_64 (lv_at hl 3 rfl) ?_
    refine lv_iload C.1.1 C.1.2.1 dX7_weight_66 (lv_at hl 4 rfl) ?_
    obtain ⟨hz, h⟩ := ck_some h
    refine lv_irem C.1.1 C.1.2.1 dX7_weight_68 (nz_of hz) ?_
    refine lv_istore (lv' := [(8, .int (x6 - x6 / x7 * x7)), (3, .int x3), (4, .int x4), (5, .int x5), (6, .int x6), (7, .int x7)]) C.1.1 C.1.2.1 dX7_weight_69 hl (by decide) rfl (fun ls hl => ?_)
    refine lt_gen (P := fun x => lv_has ls 9 [(8, .int x), (3, .int x3), (4, .int x4), (5, .int x5), (6, .int x6), (7, .int x7)]) h hl (fun x8_1 h hl => ?_)
    refine lv_iload C.1.1 C.1.2.1 dX7_weight_71 (lv_at hl 5 rfl) ?_
    refine lv_istore (lv' := [(6, .int x7), (8, .int x8_1), (3, .int x3), (4, .int x4), (5, .int x5), (7, .int x7)]) C.1.1 C.1.2.1 dX7_weight_73 hl (by decide) rfl (fun ls hl => ?_)
    refine lv_iload C.1.1 C.1.2.1 dX7_weight_75 (lv_at hl 1 rfl) ?_
    refine lv_istore (lv' := [(7, .int x8_1), (6, .int x7), (8, .int x8_1), (3, .int x3), (4, .int x4), (5, .int x5)]) C.1.1 C.1.2.1 dX7_weight_77 hl (by decide) rfl (fun ls hl => ?_)
    refine lv_goto (tgt := 59) C.1.1 C.1.2.1 dX7_weight_79 (by decide) ?_
    exact hk59 _ _ _ _ _ hw (lv_sub hl [3, 4, 5, 1, 0] rfl) h
set_option maxHeartbeats 4000000 in
set_option maxRecDepth 100000 in
theorem w_X7_weight_59L {x3 : Int32} {x4 : Int32} {x5 : Int32} {g : GM} {r : Int32} {gz : GM} (C : CX p s m args meth c RX7 yX7_weight cX7_weight 9 (some .int) D cA) (hx : HM hr ad) : ∀ (n : Nat) (x6 : Int32) (x7 : Int32) (H : Heap) (locs : List Loc) (ls : Array Slot), WS D cA ev hr ad A KM s H locs g → lv_has ls 9 [(3, .int x3), (4, .int x4), (5, .int x5), (6, .int x6), (7, .int x7)] → fixN (F_X7_weight_59B x3 x4 x5 g) n (x6, x7) = some (r, gz) → W p l e (RM 8 0 0) s m args below meth c H locs 0 0 (MQ below (QI D cA ev hr ad A KM r gz) args s 0 0 A) (F0 m 59 ls []) := by
  intro n
  induction n with
  | zero => intro x6 x7 H locs ls hw hl h; exact (fix_zero h).elim
  | succ n ih => intro x6 x7 H locs ls hw hl h; exact w_X7_weight_59 (fixN (F_X7_weight_59B x3 x4 x5 g) n) ih C hx hw hl h
set_option maxHeartbeats 4000000 in
set_option maxRecDepth 100000 in
theorem w_X7_weight_0 (C : CX p s m args meth c RX7 yX7_weight cX7_weight 9 (some .int) D cA) (hx : HM hr ad) {H : Heap} {locs : List Loc} {g : GM} (hw : WS D cA ev hr ad A KM s H locs g) {a1 : Int32} {a2 : Int32} {a3 : Int32} {ls : Array Slot} (hl : lv_has ls 9 [(0, .ref (ad 0)), (1, .int a1), (2, .int a2), (3, .int a3)]) {r : Int32} {gz : GM} (h : F_X7_weight a1 a2 a3 g = some (r, gz)) : W p l e (RM 8 0 0) s m args below meth c H locs 0 0 (MQ below (QI D cA ev hr ad A KM r gz) args s 0 0 A) (F0 m 0 ls []) := by
  refine lv_aload_n C.1.1 C.1.2.1 dX7_weight_0 rfl (lv_at hl 0 rfl) ?_
  refine lv_iload_n C.1.1 C.1.2.1 dX7_weight_1 rfl (lv_at hl 1 rfl) ?_
  refine lv_iload_n C.1.1 C.1.2.1 dX7_weight_2 rfl (lv_at hl 2 rfl) ?_
  obtain ⟨r_2, hc, h⟩ := bnd_some h
  refine r_vI (dc := 1) (As := [.int a1, .int a2]) (rest := []) C hw vX7_354 km0 (by decide) rfl (fun sz => c_X7_isPlain hx hc sz) (by decide) rfl rfl hl.1 (Nat.le_of_ble_eq_true rfl) dX7_weight_3 ⟨Nat.le_refl _, Nat.le_refl _⟩ (fun H locs hw => ?_)
  refine lv_if_eq (tgt := 16) C.1.1 C.1.2.1 dX7_weight_6 (by decide) (fun hc => ?_) (fun hc => ?_)
  · replace h := ite_pos' h hc
    refine lv_iconst (v := (-1)) C.1.1 C.1.2.1 dX7_weight_16 (by decide) ?_
    cases h
    exact r_iret C hw (Or.inl rfl) dX7_weight_17
  · replace h := ite_neg' h hc
    refine lv_aload_n C.1.1 C.1.2.1 dX7_weight_9 rfl (lv_at hl 0 rfl) ?_
    obtain ⟨⟨r_3, g_4⟩, hc, h⟩ := bnd_some h
    refine r_vI (dc := 7) (As := []) (rest := []) C hw vX7_340 km0 (by decide) rfl (fun sz => c_X7_least hx hc sz) (by decide) rfl rfl hl.1 (Nat.le_of_ble_eq_true rfl) dX7_weight_10 ⟨Nat.le_refl _, Nat.le_refl _⟩ (fun H locs hw => ?_)
    refine lv_if_ge (tgt := 18) C.1.1 C.1.2.1 dX7_weight_13 (by decide) (fun hc => ?_) (fun hc => ?_)
    · replace h := ite_pos' h hc
      refine lv_aload_n C.1.1 C.1.2.1 dX7_weight_18 rfl (lv_at hl 0 rfl) ?_
      refine lv_iload_n C.1.1 C.1.2.1 dX7_weight_19 rfl (lv_at hl 1 rfl) ?_
      refine lv_iload_n C.1.1 C.1.2.1 dX7_weight_20 rfl (lv_at hl 2 rfl) ?_
      refine lv_aload_n C.1.1 C.1.2.1 dX7_weight_21 rfl (lv_at hl 0 rfl) ?_
      refine r_getI C hw km0 fX7_147 rfl dX7_weight_22 ?_
      refine lv_iconst (v := (-1)) C.1.1 C.1.2.1 dX7_weight_25 (by decide) ?_
      refine lv_ixor C.1.1 C.1.2.1 dX7_weight_26 ?_
      obtain ⟨r_5, hc, h⟩ := bnd_some h
      refine r_vI (dc := 3) (As := [.int a1, .int a2, .int ((gi g_4 0 49) ^^^ ((-1)))]) (rest := []) C hw vX7_362 km0 (by decide) rfl (fun sz => c_X7_total hx hc sz) (by decide) rfl rfl hl.1 (Nat.le_of_ble_eq_true rfl) dX7_weight_27 ⟨Nat.le_refl _, Nat.le_refl _⟩ (fun H locs hw => ?_)
      refine lv_istore (lv' := [(4, .int r_5), (0, .ref (ad 0)), (1, .int a1), (2, .int a2), (3, .int a3)]) C.1.1 C.1.2.1 dX7_weight_30 hl (by decide) rfl (fun ls hl => ?_)
      refine lt_gen (P := fun x => lv_has ls 9 [(4, .int x), (0, .ref (ad 0)), (1, .int a1), (2, .int a2), (3, .int a3)]) h hl (fun x4_6 h hl => ?_)
      refine lv_aload_n C.1.1 C.1.2.1 dX7_weight_32 rfl (lv_at hl 1 rfl) ?_
      refine lv_iload_n C.1.1 C.1.2.1 dX7_weight_33 rfl (lv_at hl 2 rfl) ?_
      refine lv_iload_n C.1.1 C.1.2.1 dX7_weight_34 rfl (lv_at hl 3 rfl) ?_
      refine lv_aload_n C.1.1 C.1.2.1 dX7_weight_35 rfl (lv_at hl 1 rfl) ?_
      refine r_getI C hw km0 fX7_328 rfl dX7_weight_36 ?_
      obtain ⟨r_7, hc, h⟩ := bnd_some h
      refine r_vI (dc := 3) (As := [.int a1, .int a2, .int (gi g_4 0 51)]) (rest := []) C hw vX7_362 km0 (by decide) rfl (fun sz => c_X7_total hx hc sz) (by decide) rfl rfl hl.1 (Nat.le_of_ble_eq_true rfl) dX7_weight_39 ⟨Nat.le_refl _, Nat.le_refl _⟩ (fun H locs hw => ?_)
      refine lv_istore (lv' := [(5, .int r_7), (4, .int x4_6), (0, .ref (ad 0)), (1, .int a1), (2, .int a2), (3, .int a3)]) C.1.1 C.1.2.1 dX7_weight_42 hl (by decide) rfl (fun ls hl => ?_)
      refine lt_gen (P := fun x => lv_has ls 9 [(5, .int x), (4, .int x4_6), (0, .ref (ad 0)), (1, .int a1), (2, .int a2), (3, .int a3)]) h hl (fun x5_8 h hl => ?_)
      refine lv_iload C.1.1 C.1.2.1 dX7_weight_44 (lv_at hl 0 rfl) ?_
      refine lv_if_ne (tgt := 51) C.1.1 C.1.2.1 dX7_weight_46 (by decide) (fun hc => ?_) (fun hc => ?_)
      · replace h := ite_neg' h hc
        refine lv_iload C.1.1 C.1.2.1 dX7_weight_51 (lv_at hl 1 rfl) ?_
        refine lv_istore (lv' := [(6, .int x4_6), (5, .int x5_8), (4, .int x4_6), (0, .ref (ad 0)), (1, .int a1), (2, .int a2), (3, .int a3)]) C.1.1 C.1.2.1 dX7_weight_53 hl (by decide) rfl (fun ls hl => ?_)
        refine lv_iload C.1.1 C.1.2.1 dX7_weight_55 (lv_at hl 1 rfl) ?_
        refine lv_istore (lv' := [(7, .int x5_8), (6, .int x4_6), (5, .int x5_8), (4, .int x4_6), (0, .ref (ad 0)), (1, .int a1), (2, .int a2), (3, .int a3)]) C.1.1 C.1.2.1 dX7_weight_57 hl (by decide) rfl (fun ls hl => ?_)
        exact w_X7_weight_59L C hx FU _ _ _ _ _ hw (lv_sub hl [7, 3, 2, 1, 0] rfl) h
      · replace h := ite_pos' h hc
        refine lv_iconst (v := (-1)) C.1.1 C.1.2.1 dX7_weight_49 (by decide) ?_
        cases h
        exact r_iret C hw (Or.inl rfl) dX7_weight_50
    · replace h := ite_neg' h hc
      refine lv_iconst (v := (-1)) C.1.1 C.1.2.1 dX7_weight_16 (by decide) ?_
      cases h
      exact r_iret C hw (Or.inl rfl) dX7_weight_17
set_option maxHeartbeats 4000000 in
set_option maxRecDepth 100000 in
theorem c_X7_weight (hx : HM hr ad) {a1 : Int32} {a2 : Int32} {a3 : Int32} {g : GM} {r : Int32} {gz : GM} (h : F_X7_weight a1 a2 a3 g = some (r, gz)) (sz : Nat) : Met l yX7_weight (WSX yX7_weight cX7_weight 9 (some .int)) (RM 8 0 0) (va_Pc [.ref (ad 0), .int a1, .int a2, .int a3] (PX D cA ev hr ad KM g sz)) (QI D cA ev hr ad (AX ad KM.length sz) KM r gz) 0 0 (AX ad KM.length sz) :=
  met_of (own := RX7) pnX7 rfl (Nat.le_of_ble_eq_true rfl) (fun p e s m below meth c ls C hw hsz hl => w_X7_weight_0 C hx hw hl h)
set_option maxHeartbeats 4000000 in
set_option maxRecDepth 100000 in
theorem w_X7_about_168 {g : GM} {r : Int32} (C : CX p s m args meth c RX7 yX7_about cX7_about 2 (some .int) D cA) (hx : HM hr ad) {H : Heap} {locs : List Loc} (hw : WS D cA ev hr ad A KM s H locs g) {ls : Array Slot} (hl : lv_has ls 2 []) (h : F_X7_about_168 g = some r) : W p l e (RM 2 0 0) s m args below meth c H locs 0 0 (MQ below (QI D cA ev hr ad A KM r g) args s 0 0 A) (F0 m 168 ls []) := by
  refine lv_iconst (v := (-1)) C.1.1 C.1.2.1 dX7_about_168 (by decide) ?_
  cases h
  exact r_iret C hw (Or.inl rfl) dX7_about_169
set_option maxHeartbeats 4000000 in
set_option maxRecDepth 100000 in
theorem w_X7_about_127 {x1 : Int32} {g : GM} {r : Int32} (C : CX p s m args meth c RX7 yX7_about cX7_about 2 (some .int) D cA) (hx : HM hr ad) {H : Heap} {locs : List Loc} (hw : WS D cA ev hr ad A KM s H locs g) {ls : Array Slot} (hl : lv_has ls 2 [(0, .ref (ad 0)), (1, .int x1)]) (h : F_X7_about_127 x1 g = some r) : W p l e (RM 2 0 0) s m args below meth c H locs 0 0 (MQ below (QI D cA ev hr ad A KM r g) args s 0 0 A) (F0 m 127 ls []) := by
  refine lv_iload_n C.1.1 C.1.2.1 dX7_about_127 rfl (lv_at hl 1 rfl) ?_
  refine lv_bipush (v := 20) C.1.1 C.1.2.1 dX7_about_128 (by decide) ?_
  refine lv_icmp_lt (tgt := 168) C.1.1 C.1.2.1 dX7_about_130 (by decide) (fun hc => ?_) (fun hc => ?_)
  · replace h := ite_pos' h hc
    exact w_X7_about_168 C hx hw (lv_sub hl [] rfl) h
  · replace h := ite_neg' h hc
    refine lv_iload_n C.1.1 C.1.2.1 dX7_about_133 rfl (lv_at hl 1 rfl) ?_
    refine lv_bipush (v := 20) C.1.1 C.1.2.1 dX7_about_134 (by decide) ?_
    refine lv_aload_n C.1.1 C.1.2.1 dX7_about_136 rfl (lv_at hl 0 rfl) ?_
    refine r_getR (v := .ref (ad 12)) C hw km0 fX7_98 rfl (hm21 hx) dX7_about_137 ?_
    refine lv_aload_n C.1.1 C.1.2.1 dX7_about_140 rfl (lv_at hl 0 rfl) ?_
    refine r_getI C hw km0 fX7_116 rfl dX7_about_141 ?_
    obtain ⟨hz, h⟩ := ck_some h
    refine r_iald C hw km12 (inB_in hz) dX7_about_144 ?_
    refine lv_iadd C.1.1 C.1.2.1 dX7_about_145 ?_
    refine lv_icmp_ge (tgt := 168) C.1.1 C.1.2.1 dX7_about_146 (by decide) (fun hc => ?_) (fun hc => ?_)
    · replace h := ite_pos' h hc
      exact w_X7_about_168 C hx hw (lv_sub hl [] rfl) h
    · replace h := ite_neg' h hc
      refine lv_aload_n C.1.1 C.1.2.1 dX7_about_149 rfl (lv_at hl 0 rfl) ?_
      refine r_getR (v := .ref (ad 6)) C hw km0 fX7_160 rfl (hm15 hx) dX7_about_150 ?_
      refine lv_iconst (v := 5) C.1.1 C.1.2.1 dX7_about_153 (by decide) ?_
      refine lv_aload_n C.1.1 C.1.2.1 dX7_about_154 rfl (lv_at hl 0 rfl) ?_
      refine r_getI C hw km0 fX7_116 rfl dX7_about_155 ?_
      refine lv_imul C.1.1 C.1.2.1 dX7_about_158 ?_
      refine lv_iload_n C.1.1 C.1.2.1 dX7_about_159 rfl (lv_at hl 1 rfl) ?_
      refine lv_iadd C.1.1 C.1.2.1 dX7_about_160 ?_
      refine lv_bipush (v := 20) C.1.1 C.1.2.1 dX7_about_161 (by decide) ?_
      refine lv_isub C.1.1 C.1.2.1 dX7_about_163 ?_
      obtain ⟨hz, h⟩ := ck_some h
      refine r_iald C hw km6 (inB_in hz) dX7_about_164 ?_
      refine lv_goto (tgt := 169) C.1.1 C.1.2.1 dX7_about_165 (by decide) ?_
      cases h
      exact r_iret C hw (Or.inl rfl) dX7_about_169
set_option maxHeartbeats 4000000 in
set_option maxRecDepth 100000 in
theorem w_X7_about_0 (C : CX p s m args meth c RX7 yX7_about cX7_about 2 (some .int) D cA) (hx : HM hr ad) {H : Heap} {locs : List Loc} {g : GM} (hw : WS D cA ev hr ad A KM s H locs g) {a1 : Int32} {ls : Array Slot} (hl : lv_has ls 2 [(0, .ref (ad 0)), (1, .int a1)]) {r : Int32} (h : F_X7_about a1 g = some r) : W p l e (RM 2 0 0) s m args below meth c H locs 0 0 (MQ below (QI D cA ev hr ad A KM r g) args s 0 0 A) (F0 m 0 ls []) := by
  refine lv_iload_n C.1.1 C.1.2.1 dX7_about_0 rfl (lv_at hl 1 rfl) ?_
  by_cases hc0 : a1 = 0
  · replace h := ite_pos' h hc0
    refine lv_tableIn (off := 39) (tgt := 40) C.1.1 C.1.2.1 dX7_about_1 (by rw [hc0]; decide) (by rw [hc0]; decide) (by rw [hc0]; rfl) (by decide) ?_
    refine lv_aload_n C.1.1 C.1.2.1 dX7_about_40 rfl (lv_at hl 0 rfl) ?_
    refine r_getR (v := .ref (ad 12)) C hw km0 fX7_98 rfl (hm21 hx) dX7_about_41 ?_
    refine lv_aload_n C.1.1 C.1.2.1 dX7_about_44 rfl (lv_at hl 0 rfl) ?_
    refine r_getI C hw km0 fX7_116 rfl dX7_about_45 ?_
    obtain ⟨hz, h⟩ := ck_some h
    refine r_iald C hw km12 (inB_in hz) dX7_about_48 ?_
    cases h
    exact r_iret C hw (Or.inl rfl) dX7_about_49
  · replace h := ite_neg' h hc0
    by_cases hc1 : a1 = 1
    · replace h := ite_pos' h hc1
      refine lv_tableIn (off := 49) (tgt := 50) C.1.1 C.1.2.1 dX7_about_1 (by rw [hc1]; decide) (by rw [hc1]; decide) (by rw [hc1]; rfl) (by decide) ?_
      refine lv_aload_n C.1.1 C.1.2.1 dX7_about_50 rfl (lv_at hl 0 rfl) ?_
      refine r_getR (v := .ref (ad 13)) C hw km0 fX7_122 rfl (hm22 hx) dX7_about_51 ?_
      refine lv_aload_n C.1.1 C.1.2.1 dX7_about_54 rfl (lv_at hl 0 rfl) ?_
      refine r_getI C hw km0 fX7_116 rfl dX7_about_55 ?_
      obtain ⟨hz, h⟩ := ck_some h
      refine r_iald C hw km13 (inB_in hz) dX7_about_58 ?_
      cases h
      exact r_iret C hw (Or.inl rfl) dX7_about_59
    · replace h := ite_neg' h hc1
      by_cases hc2 : a1 = 2
      · replace h := ite_pos' h hc2
        refine lv_tableIn (off := 59) (tgt := 60) C.1.1 C.1.2.1 dX7_about_1 (by rw [hc2]; decide) (by rw [hc2]; decide) (by rw [hc2]; rfl) (by decide) ?_
        refine lv_aload_n C.1.1 C.1.2.1 dX7_about_60 rfl (lv_at hl 0 rfl) ?_
        refine r_getR (v := .ref (ad 14)) C hw km0 fX7_138 rfl (hm25 hx) dX7_about_61 ?_
        refine lv_aload_n C.1.1 C.1.2.1 dX7_about_64 rfl (lv_at hl 0 rfl) ?_
        refine r_getI C hw km0 fX7_141 rfl dX7_about_65 ?_
        obtain ⟨hz, h⟩ := ck_some h
        refine r_iald C hw km14 (inB_in hz) dX7_about_68 ?_
        cases h
        exact r_iret C hw (Or.inl rfl) dX7_about_69
      · replace h := ite_neg' h hc2
        by_cases hc3 : a1 = 3
        · replace h := ite_pos' h hc3
          refine lv_tableIn (off := 69) (tgt := 70) C.1.1 C.1.2.1 dX7_about_1 (by rw [hc3]; decide) (by rw [hc3]; decide) (by rw [hc3]; rfl) (by decide) ?_
          refine lv_aload_n C.1.1 C.1.2.1 dX7_about_70 rfl (lv_at hl 0 rfl) ?_
          refine r_getI C hw km0 fX7_147 rfl dX7_about_71 ?_
          obtain ⟨r_1, hc, h⟩ := bnd_some h
          refine r_sI (dc := 1) (As := [.int (gi g 0 49)]) (rest := []) C hw sX7_322 (fun sz => c_X7_bitsOf hx hc sz) (by decide) rfl rfl hl.1 (Nat.le_of_ble_eq_true rfl) dX7_about_74 ⟨Nat.le_refl _, Nat.le_refl _⟩ (fun H locs hw => ?_)
          cases h
          exact r_iret C hw (Or.inl rfl) dX7_about_77
        · replace h := ite_neg' h hc3
          by_cases hc4 : a1 = 4
          · replace h := ite_pos' h hc4
            refine lv_tableIn (off := 77) (tgt := 78) C.1.1 C.1.2.1 dX7_about_1 (by rw [hc4]; decide) (by rw [hc4]; decide) (by rw [hc4]; rfl) (by decide) ?_
            refine lv_aload_n C.1.1 C.1.2.1 dX7_about_78 rfl (lv_at hl 0 rfl) ?_
            refine r_getI C hw km0 fX7_144 rfl dX7_about_79 ?_
            cases h
            exact r_iret C hw (Or.inl rfl) dX7_about_82
          · replace h := ite_neg' h hc4
            by_cases hc5 : a1 = 5
            · replace h := ite_pos' h hc5
              refine lv_tableIn (off := 82) (tgt := 83) C.1.1 C.1.2.1 dX7_about_1 (by rw [hc5]; decide) (by rw [hc5]; decide) (by rw [hc5]; rfl) (by decide) ?_
              refine lv_aload_n C.1.1 C.1.2.1 dX7_about_83 rfl (lv_at hl 0 rfl) ?_
              refine r_getI C hw km0 fX7_92 rfl dX7_about_84 ?_
              cases h
              exact r_iret C hw (Or.inl rfl) dX7_about_87
            · replace h := ite_neg' h hc5
              refine lv_tableOut (tgt := 88) C.1.1 C.1.2.1 dX7_about_1 (by have q0 := lv_neT (k := 0) (a := 0) hc0 (by decide); have q1 := lv_neT (k := 1) (a := 1) hc1 (by decide); have q2 := lv_neT (k := 2) (a := 2) hc2 (by decide); have q3 := lv_neT (k := 3) (a := 3) hc3 (by decide); have q4 := lv_neT (k := 4) (a := 4) hc4 (by decide); have q5 := lv_neT (k := 5) (a := 5) hc5 (by decide); omega) (by decide) ?_
              refine lv_iload_n C.1.1 C.1.2.1 dX7_about_88 rfl (lv_at hl 1 rfl) ?_
              refine lv_bipush (v := 10) C.1.1 C.1.2.1 dX7_about_89 (by decide) ?_
              refine lv_icmp_lt (tgt := 127) C.1.1 C.1.2.1 dX7_about_91 (by decide) (fun hc => ?_) (fun hc => ?_)
              · replace h := ite_pos' h hc
                exact w_X7_about_127 C hx hw hl h
              · replace h := ite_neg' h hc
                refine lv_iload_n C.1.1 C.1.2.1 dX7_about_94 rfl (lv_at hl 1 rfl) ?_
                refine lv_bipush (v := 10) C.1.1 C.1.2.1 dX7_about_95 (by decide) ?_
                refine lv_aload_n C.1.1 C.1.2.1 dX7_about_97 rfl (lv_at hl 0 rfl) ?_
                refine r_getR (v := .ref (ad 12)) C hw km0 fX7_98 rfl (hm21 hx) dX7_about_98 ?_
                refine lv_aload_n C.1.1 C.1.2.1 dX7_about_101 rfl (lv_at hl 0 rfl) ?_
                refine r_getI C hw km0 fX7_116 rfl dX7_about_102 ?_
                obtain ⟨hz, h⟩ := ck_some h
                refine r_iald C hw km12 (inB_in hz) dX7_about_105 ?_
                refine lv_iadd C.1.1 C.1.2.1 dX7_about_106 ?_
                refine lv_icmp_ge (tgt := 127) C.1.1 C.1.2.1 dX7_about_107 (by decide) (fun hc => ?_) (fun hc => ?_)
                · replace h := ite_pos' h hc
                  exact w_X7_about_127 C hx hw hl h
                · replace h := ite_neg' h hc
                  refine lv_aload_n C.1.1 C.1.2.1 dX7_about_110 rfl (lv_at hl 0 rfl) ?_
                  refine r_getR (v := .ref (ad 5)) C hw km0 fX7_106 rfl (hm14 hx) dX7_about_111 ?_
                  refine lv_iconst (v := 5) C.1.1 C.1.2.1 dX7_about_114 (by decide) ?_
                  refine lv_aload_n C.1.1 C.1.2.1 dX7_about_115 rfl (lv_at hl 0 rfl) ?_
                  refine r_getI C hw km0 fX7_116 rfl dX7_about_116 ?_
                  refine lv_imul C.1.1 C.1.2.1 dX7_about_119 ?_
                  refine lv_iload_n C.1.1 C.1.2.1 dX7_about_120 rfl (lv_at hl 1 rfl) ?_
                  refine lv_iadd C.1.1 C.1.2.1 dX7_about_121 ?_
                  refine lv_bipush (v := 10) C.1.1 C.1.2.1 dX7_about_122 (by decide) ?_
                  refine lv_isub C.1.1 C.1.2.1 dX7_about_124 ?_
                  obtain ⟨hz, h⟩ := ck_some h
                  refine r_iald C hw km5 (inB_in hz) dX7_about_125 ?_
                  cases h
                  exact r_iret C hw (Or.inl rfl) dX7_about_126
set_option maxHeartbeats 4000000 in
set_option maxRecDepth 100000 in
theorem c_X7_about (hx : HM hr ad) {a1 : Int32} {g : GM} {r : Int32} (h : F_X7_about a1 g = some r) (sz : Nat) : Met l yX7_about (WSX yX7_about cX7_about 2 (some .int)) (RM 2 0 0) (va_Pc [.ref (ad 0), .int a1] (PX D cA ev hr ad KM g sz)) (QI D cA ev hr ad (AX ad KM.length sz) KM r g) 0 0 (AX ad KM.length sz) :=
  met_of (own := RX7) pnX7 rfl (Nat.le_of_ble_eq_true rfl) (fun p e s m below meth c ls C hw hsz hl => w_X7_about_0 C hx hw hl h)
set_option maxHeartbeats 4000000 in
set_option maxRecDepth 100000 in
theorem w_X7_feed_71 {x1 : Int32} {x2 : Int32} {x3 : Int32} {x4 : Int32} {x5 : Int32} {x6 : Int32} {s0 : Int32} {g : GM} {r : Int32} {gz : GM} (kb18 : Int32 × GM → Option (Int32 × GM)) (hk18 : ∀ (x6 : Int32) (g : GM) (H : Heap) (locs : List Loc) (ls : Array Slot), WS D cA ev hr ad A KM s H locs g → lv_has ls 8 [(0, .ref (ad 0)), (1, .int x1), (2, .int x2), (3, .int x3), (4, .int x4), (5, .int x5), (6, .int x6)] → kb18 (x6, g) = some (r, gz) → W p l e (RM 1 0 0) s m args below meth c H locs 0 0 (MQ below (QI D cA ev hr ad A KM r gz) args s 0 0 A) (F0 m 18 ls [])) (C : CX p s m args meth c RX7 yX7_feed cX7_feed 8 (some .int) D cA) (hx : HM hr ad) {H : Heap} {locs : List Loc} (hw : WS D cA ev hr ad A KM s H locs g) {ls : Array Slot} (hl : lv_has ls 8 [(0, .ref (ad 0)), (1, .int x1), (2, .int x2), (3, .int x3), (4, .int x4), (5, .int x5), (6, .int x6)]) (h : F_X7_feed_71 kb18 x1 x2 x3 x4 x5 x6 s0 g = some (r, gz)) : W p l e (RM 1 0 0) s m args below meth c H locs 0 0 (MQ below (QI D cA ev hr ad A KM r gz) args s 0 0 A) (F0 m 71 ls [.int s0]) := by
  refine lv_istore (lv' := [(7, .int s0), (0, .ref (ad 0)), (1, .int x1), (2, .int x2), (3, .int x3), (4, .int x4), (5, .int x5), (6, .int x6)]) C.1.1 C.1.2.1 dX7_feed_71 hl (by decide) rfl (fun ls hl => ?_)
  refine lv_aload_n C.1.1 C.1.2.1 dX7_feed_73 rfl (lv_at hl 1 rfl) ?_
  refine r_getR (v := .ref (ad 1)) C hw km0 fX7_95 rfl (hm0 hx) dX7_feed_74 ?_
  refine lv_aload_n C.1.1 C.1.2.1 dX7_feed_77 rfl (lv_at hl 1 rfl) ?_
  refine r_getI C hw km0 fX7_92 rfl dX7_feed_78 ?_
  refine lv_iload C.1.1 C.1.2.1 dX7_feed_81 (lv_at hl 7 rfl) ?_
  refine lv_iadd C.1.1 C.1.2.1 dX7_feed_83 ?_
  refine lv_iload C.1.1 C.1.2.1 dX7_feed_84 (lv_at hl 0 rfl) ?_
  refine lv_bipush (v := 24) C.1.1 C.1.2.1 dX7_feed_86 (by decide) ?_
  refine lv_bipush (v := 8) C.1.1 C.1.2.1 dX7_feed_88 (by decide) ?_
  refine lv_iload C.1.1 C.1.2.1 dX7_feed_90 (lv_at hl 7 rfl) ?_
  refine lv_iconst (v := 3) C.1.1 C.1.2.1 dX7_feed_92 (by decide) ?_
  refine lv_iand C.1.1 C.1.2.1 dX7_feed_93 ?_
  refine lv_imul C.1.1 C.1.2.1 dX7_feed_94 ?_
  refine lv_isub C.1.1 C.1.2.1 dX7_feed_95 ?_
  refine lv_ishr C.1.1 C.1.2.1 dX7_feed_96 ?_
  refine lv_i2b (v := (s0 >>> ((24 - (8 * (x6 &&& 3))) &&& 31)).toInt8.toInt32) C.1.1 C.1.2.1 dX7_feed_97 rfl ?_
  obtain ⟨hz, h⟩ := ck_some h
  refine r_bast C hw km1 (inB_in hz) dX7_feed_98 (fun H locs hw => ?_)
  refine lt_gen (P := fun g => WS D cA ev hr ad A KM s H locs g) h hw (fun g_1 h hw => ?_)
  refine lv_iinc (v := x6 + 1) (lv' := [(6, .int (x6 + 1)), (7, .int s0), (0, .ref (ad 0)), (1, .int x1), (2, .int x2), (3, .int x3), (4, .int x4), (5, .int x5)]) C.1.1 C.1.2.1 dX7_feed_99 hl (k := 7) rfl rfl (by decide) rfl (fun ls hl => ?_)
  refine lt_gen (P := fun x => lv_has ls 8 [(6, .int x), (7, .int s0), (0, .ref (ad 0)), (1, .int x1), (2, .int x2), (3, .int x3), (4, .int x4), (5, .int x5)]) h hl (fun x6_2 h hl => ?_)
  refine lv_goto (tgt := 18) C.1.1 C.1.2.1 dX7_feed_102 (by decide) ?_
  exact hk18 _ _ _ _ _ hw (lv_sub hl [2, 3, 4, 5, 6, 7, 0] rfl) h
set_option maxHeartbeats 4000000 in
set_option maxRecDepth 100000 in
theorem w_X7_feed_18 {x1 : Int32} {x2 : Int32} {x3 : Int32} {x4 : Int32} {x5 : Int32} {r : Int32} {gz : GM} (kb18 : Int32 × GM → Option (Int32 × GM)) (hk18 : ∀ (x6 : Int32) (g : GM) (H : Heap) (locs : List Loc) (ls : Array Slot), WS D cA ev hr ad A KM s H locs g → lv_has ls 8 [(0, .ref (ad 0)), (1, .int x1), (2, .int x2), (3, .int x3), (4, .int x4), (5, .int x5), (6, .int x6)] → kb18 (x6, g) = some (r, gz) → W p l e (RM 1 0 0) s m args below meth c H locs 0 0 (MQ below (QI D cA ev hr ad A KM r gz) args s 0 0 A) (F0 m 18 ls [])) (C : CX p s m args meth c RX7 yX7_feed cX7_feed 8 (some .int) D cA) (hx : HM hr ad) {H : Heap} {locs : List Loc} {x6 : Int32} {g : GM} (hw : WS D cA ev hr ad A KM s H locs g) {ls : Array Slot} (hl : lv_has ls 8 [(0, .ref (ad 0)), (1, .int x1), (2, .int x2), (3, .int x3), (4, .int x4), (5, .int x5), (6, .int x6)]) (h : F_X7_feed_18B x1 x2 x3 x4 x5 kb18 (x6, g) = some (r, gz)) : W p l e (RM 1 0 0) s m args below meth c H locs 0 0 (MQ below (QI D cA ev hr ad A KM r gz) args s 0 0 A) (F0 m 18 ls []) := by
  refine lv_iload C.1.1 C.1.2.1 dX7_feed_18 (lv_at hl 6 rfl) ?_
  refine lv_bipush (v := 20) C.1.1 C.1.2.1 dX7_feed_20 (by decide) ?_
  refine lv_icmp_ge (tgt := 105) C.1.1 C.1.2.1 dX7_feed_22 (by decide) (fun hc => ?_) (fun hc => ?_)
  · replace h := ite_pos' h hc
    refine lv_aload_n C.1.1 C.1.2.1 dX7_feed_105 rfl (lv_at hl 0 rfl) ?_
    refine lv_dup C.1.1 C.1.2.1 dX7_feed_106 rfl ?_
    refine r_getI C hw km0 fX7_92 rfl dX7_feed_107 ?_
    refine lv_bipush (v := 20) C.1.1 C.1.2.1 dX7_feed_110 (by decide) ?_
    refine lv_iadd C.1.1 C.1.2.1 dX7_feed_112 ?_
    refine r_putI C hw km0 fX7_92 rfl rfl (Or.inl rfl) dX7_feed_113 (fun H locs hw => ?_)
    refine lt_gen (P := fun g => WS D cA ev hr ad A KM s H locs g) h hw (fun g_3 h hw => ?_)
    refine lv_aload_n C.1.1 C.1.2.1 dX7_feed_116 rfl (lv_at hl 0 rfl) ?_
    refine r_getI C hw km0 fX7_92 rfl dX7_feed_117 ?_
    cases h
    exact r_iret C hw (Or.inl rfl) dX7_feed_120
  · replace h := ite_neg' h hc
    refine lv_iload C.1.1 C.1.2.1 dX7_feed_25 (lv_at hl 6 rfl) ?_
    refine lv_iconst (v := 4) C.1.1 C.1.2.1 dX7_feed_27 (by decide) ?_
    refine lv_icmp_ge (tgt := 35) C.1.1 C.1.2.1 dX7_feed_28 (by decide) (fun hc => ?_) (fun hc => ?_)
    · replace h := ite_pos' h hc
      refine lv_iload C.1.1 C.1.2.1 dX7_feed_35 (lv_at hl 6 rfl) ?_
      refine lv_bipush (v := 8) C.1.1 C.1.2.1 dX7_feed_37 (by decide) ?_
      refine lv_icmp_ge (tgt := 46) C.1.1 C.1.2.1 dX7_feed_39 (by decide) (fun hc => ?_) (fun hc => ?_)
      · replace h := ite_pos' h hc
        refine lv_iload C.1.1 C.1.2.1 dX7_feed_46 (lv_at hl 6 rfl) ?_
        refine lv_bipush (v := 12) C.1.1 C.1.2.1 dX7_feed_48 (by decide) ?_
        refine lv_icmp_ge (tgt := 57) C.1.1 C.1.2.1 dX7_feed_50 (by decide) (fun hc => ?_) (fun hc => ?_)
        · replace h := ite_pos' h hc
          refine lv_iload C.1.1 C.1.2.1 dX7_feed_57 (lv_at hl 6 rfl) ?_
          refine lv_bipush (v := 16) C.1.1 C.1.2.1 dX7_feed_59 (by decide) ?_
          refine lv_icmp_ge (tgt := 69) C.1.1 C.1.2.1 dX7_feed_61 (by decide) (fun hc => ?_) (fun hc => ?_)
          · replace h := ite_pos' h hc
            refine lv_iload C.1.1 C.1.2.1 dX7_feed_69 (lv_at hl 5 rfl) ?_
            exact w_X7_feed_71 kb18 hk18 C hx hw hl h
          · replace h := ite_neg' h hc
            refine lv_iload C.1.1 C.1.2.1 dX7_feed_64 (lv_at hl 4 rfl) ?_
            refine lv_goto (tgt := 71) C.1.1 C.1.2.1 dX7_feed_66 (by decide) ?_
            exact w_X7_feed_71 kb18 hk18 C hx hw hl h
        · replace h := ite_neg' h hc
          refine lv_iload_n C.1.1 C.1.2.1 dX7_feed_53 rfl (lv_at hl 3 rfl) ?_
          refine lv_goto (tgt := 71) C.1.1 C.1.2.1 dX7_feed_54 (by decide) ?_
          exact w_X7_feed_71 kb18 hk18 C hx hw hl h
      · replace h := ite_neg' h hc
        refine lv_iload_n C.1.1 C.1.2.1 dX7_feed_42 rfl (lv_at hl 2 rfl) ?_
        refine lv_goto (tgt := 71) C.1.1 C.1.2.1 dX7_feed_43 (by decide) ?_
        exact w_X7_feed_71 kb18 hk18 C hx hw hl h
    · replace h := ite_neg' h hc
      refine lv_iload_n C.1.1 C.1.2.1 dX7_feed_31 rfl (lv_at hl 1 rfl) ?_
      refine lv_goto (tgt := 71) C.1.1 C.1.2.1 dX7_feed_32 (by decide) ?_
      exact w_X7_feed_71 kb18 hk18 C hx hw hl h
set_option maxHeartbeats 4000000 in
set_option maxRecDepth 100000 in
theorem w_X7_feed_18L {x1 : Int32} {x2 : Int32} {x3 : Int32} {x4 : Int32} {x5 : Int32} {r : Int32} {gz : GM} (C : CX p s m args meth c RX7 yX7_feed cX7_feed 8 (some .int) D cA) (hx : HM hr ad) : ∀ (n : Nat) (x6 : Int32) (g : GM) (H : Heap) (locs : List Loc) (ls : Array Slot), WS D cA ev hr ad A KM s H locs g → lv_has ls 8 [(0, .ref (ad 0)), (1, .int x1), (2, .int x2), (3, .int x3), (4, .int x4), (5, .int x5), (6, .int x6)] → fixN (F_X7_feed_18B x1 x2 x3 x4 x5) n (x6, g) = some (r, gz) → W p l e (RM 1 0 0) s m args below meth c H locs 0 0 (MQ below (QI D cA ev hr ad A KM r gz) args s 0 0 A) (F0 m 18 ls []) := by
  intro n
  induction n with
  | zero => intro x6 g H locs ls hw hl h; exact (fix_zero h).elim
  | succ n ih => intro x6 g H locs ls hw hl h; exact w_X7_feed_18 (fixN (F_X7_feed_18B x1 x2 x3 x4 x5) n) ih C hx hw hl h
set_option maxHeartbeats 4000000 in
set_option maxRecDepth 100000 in
theorem w_X7_feed_0 (C : CX p s m args meth c RX7 yX7_feed cX7_feed 8 (some .int) D cA) (hx : HM hr ad) {H : Heap} {locs : List Loc} {g : GM} (hw : WS D cA ev hr ad A KM s H locs g) {a1 : Int32} {a2 : Int32} {a3 : Int32} {a4 : Int32} {a5 : Int32} {ls : Array Slot} (hl : lv_has ls 8 [(0, .ref (ad 0)), (1, .int a1), (2, .int a2), (3, .int a3), (4, .int a4), (5, .int a5)]) {r : Int32} {gz : GM} (h : F_X7_feed a1 a2 a3 a4 a5 g = some (r, gz)) : W p l e (RM 1 0 0) s m args below meth c H locs 0 0 (MQ below (QI D cA ev hr ad A KM r gz) args s 0 0 A) (F0 m 0 ls []) := by
  refine lv_aload_n C.1.1 C.1.2.1 dX7_feed_0 rfl (lv_at hl 0 rfl) ?_
  refine r_getI C hw km0 fX7_92 rfl dX7_feed_1 ?_
  refine lv_bipush (v := 20) C.1.1 C.1.2.1 dX7_feed_4 (by decide) ?_
  refine lv_iadd C.1.1 C.1.2.1 dX7_feed_6 ?_
  refine lv_sipush (v := 1200) C.1.1 C.1.2.1 dX7_feed_7 (by decide) ?_
  refine lv_icmp_le (tgt := 15) C.1.1 C.1.2.1 dX7_feed_10 (by decide) (fun hc => ?_) (fun hc => ?_)
  · replace h := ite_pos' h hc
    refine lv_iconst (v := 0) C.1.1 C.1.2.1 dX7_feed_15 (by decide) ?_
    refine lv_istore (lv' := [(6, .int 0), (0, .ref (ad 0)), (1, .int a1), (2, .int a2), (3, .int a3), (4, .int a4), (5, .int a5)]) C.1.1 C.1.2.1 dX7_feed_16 hl (by decide) rfl (fun ls hl => ?_)
    exact w_X7_feed_18L C hx FU _ _ _ _ _ hw (lv_sub hl [1, 2, 3, 4, 5, 6, 0] rfl) h
  · replace h := ite_neg' h hc
    refine lv_iconst (v := (-1)) C.1.1 C.1.2.1 dX7_feed_13 (by decide) ?_
    cases h
    exact r_iret C hw (Or.inl rfl) dX7_feed_14
set_option maxHeartbeats 4000000 in
set_option maxRecDepth 100000 in
theorem c_X7_feed (hx : HM hr ad) {a1 : Int32} {a2 : Int32} {a3 : Int32} {a4 : Int32} {a5 : Int32} {g : GM} {r : Int32} {gz : GM} (h : F_X7_feed a1 a2 a3 a4 a5 g = some (r, gz)) (sz : Nat) : Met l yX7_feed (WSX yX7_feed cX7_feed 8 (some .int)) (RM 1 0 0) (va_Pc [.ref (ad 0), .int a1, .int a2, .int a3, .int a4, .int a5] (PX D cA ev hr ad KM g sz)) (QI D cA ev hr ad (AX ad KM.length sz) KM r gz) 0 0 (AX ad KM.length sz) :=
  met_of (own := RX7) pnX7 rfl (Nat.le_of_ble_eq_true rfl) (fun p e s m below meth c ls C hw hsz hl => w_X7_feed_0 C hx hw hl h)
set_option maxHeartbeats 4000000 in
set_option maxRecDepth 100000 in
theorem w_X7_end_0 (C : CX p s m args meth c RX7 yX7_end cX7_end 2 (some .int) D cA) (hx : HM hr ad) {H : Heap} {locs : List Loc} {g : GM} (hw : WS D cA ev hr ad A KM s H locs g) {a1 : Int32} {ls : Array Slot} (hl : lv_has ls 2 [(0, .ref (ad 0)), (1, .int a1)]) {r : Int32} {gz : GM} (h : F_X7_end a1 g = some (r, gz)) : W p l e (RM 1 0 0) s m args below meth c H locs 0 0 (MQ below (QI D cA ev hr ad A KM r gz) args s 0 0 A) (F0 m 0 ls []) := by
  refine lv_iload_n C.1.1 C.1.2.1 dX7_end_0 rfl (lv_at hl 1 rfl) ?_
  refine lv_if_lt (tgt := 12) C.1.1 C.1.2.1 dX7_end_1 (by decide) (fun hc => ?_) (fun hc => ?_)
  · replace h := ite_pos' h hc
    refine lv_iconst (v := (-1)) C.1.1 C.1.2.1 dX7_end_12 (by decide) ?_
    cases h
    exact r_iret C hw (Or.inl rfl) dX7_end_13
  · replace h := ite_neg' h hc
    refine lv_iload_n C.1.1 C.1.2.1 dX7_end_4 rfl (lv_at hl 1 rfl) ?_
    refine lv_aload_n C.1.1 C.1.2.1 dX7_end_5 rfl (lv_at hl 0 rfl) ?_
    refine r_getI C hw km0 fX7_92 rfl dX7_end_6 ?_
    refine lv_icmp_le (tgt := 14) C.1.1 C.1.2.1 dX7_end_9 (by decide) (fun hc => ?_) (fun hc => ?_)
    · replace h := ite_pos' h hc
      refine lv_aload_n C.1.1 C.1.2.1 dX7_end_14 rfl (lv_at hl 0 rfl) ?_
      refine lv_iload_n C.1.1 C.1.2.1 dX7_end_15 rfl (lv_at hl 1 rfl) ?_
      refine r_putI C hw km0 fX7_92 rfl rfl (Or.inl rfl) dX7_end_16 (fun H locs hw => ?_)
      refine lt_gen (P := fun g => WS D cA ev hr ad A KM s H locs g) h hw (fun g_1 h hw => ?_)
      refine lv_iload_n C.1.1 C.1.2.1 dX7_end_19 rfl (lv_at hl 1 rfl) ?_
      cases h
      exact r_iret C hw (Or.inl rfl) dX7_end_20
    · replace h := ite_neg' h hc
      refine lv_iconst (v := (-1)) C.1.1 C.1.2.1 dX7_end_12 (by decide) ?_
      cases h
      exact r_iret C hw (Or.inl rfl) dX7_end_13
set_option maxHeartbeats 4000000 in
set_option maxRecDepth 100000 in
theorem c_X7_end (hx : HM hr ad) {a1 : Int32} {g : GM} {r : Int32} {gz : GM} (h : F_X7_end a1 g = some (r, gz)) (sz : Nat) : Met l yX7_end (WSX yX7_end cX7_end 2 (some .int)) (RM 1 0 0) (va_Pc [.ref (ad 0), .int a1] (PX D cA ev hr ad KM g sz)) (QI D cA ev hr ad (AX ad KM.length sz) KM r gz) 0 0 (AX ad KM.length sz) :=
  met_of (own := RX7) pnX7 rfl (Nat.le_of_ble_eq_true rfl) (fun p e s m below meth c ls C hw hsz hl => w_X7_end_0 C hx hw hl h)
end WM2

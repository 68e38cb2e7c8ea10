section WX2
variable {p : Program} {l : Launch} {e : Env} {s : State} {m : MethodId} {args : Array Value} {below : List Frame} {meth : Method} {c : Code} {D : va_G} {cA : Nat → ClassId} {ev : EVa} {hr : Nat → Nat → Value} {ad : Nat → Nat} {A : Nat → Prop} {tl : List (Nat × Nat)}
set_option maxHeartbeats 4000000 in
set_option maxRecDepth 100000 in
theorem w_X1_addLaw_es_49 {x2 : Int32} {x3 : Int32} {x4 : Int32} {x5 : Int32} {x6 : Int32} {g : GM} {gz : GM} (kb10 : Int32 × GM → Option (GM)) (hk10 : ∀ (x6 : Int32) (g : GM) (H : Heap) (locs : List Loc) (ls : Array Slot), WS D cA ev hr ad A (KX ++ tl) s H locs g → lv_has ls 7 [(0, .ref (ad 35)), (1, .ref (ad 6)), (2, .int x2), (3, .int x3), (4, .int x4), (5, .int x5), (6, .int x6)] → kb10 (x6, g) = some gz → W p l e (RM 3 0 0) s m args below meth c H locs 0 0 (MQ below (QV D cA ev hr ad A (KX ++ tl) gz) args s 0 0 A) (F0 m 10 ls [])) (C : CX p s m args meth c RX1 yX1_addLaw cX1_addLaw 7 none D cA) (hx : HX hr ad) {H : Heap} {locs : List Loc} (hw : WS D cA ev hr ad A (KX ++ tl) s H locs g) {ls : Array Slot} (hl : lv_has ls 7 [(0, .ref (ad 35)), (1, .ref (ad 6)), (2, .int x2), (3, .int x3), (4, .int x4), (5, .int x5), (6, .int x6)]) (h : F_X1_addLaw_es_49 kb10 x2 x3 x4 x5 x6 g = some gz) : W p l e (RM 3 0 0) s m args below meth c H locs 0 0 (MQ below (QV D cA ev hr ad A (KX ++ tl) gz) args s 0 0 A) (F0 m 49 ls []) := by
  refine lv_iinc (v := x6 + 1) (lv' := [(6, .int (x6 + 1)), (0, .ref (ad 35)), (1, .ref (ad 6)), (2, .int x2), (3, .int x3), (4, .int x4), (5, .int x5)]) C.1.1 C.1.2.1 dX1_addLaw_49 hl (k := 6) rfl rfl (by decide) rfl (fun ls hl => ?_)
  refine lt_gen (P := fun x => lv_has ls 7 [(6, .int x), (0, .ref (ad 35)), (1, .ref (ad 6)), (2, .int x2), (3, .int x3), (4, .int x4), (5, .int x5)]) h hl (fun x6_1 h hl => ?_)
  refine lv_goto (tgt := 10) C.1.1 C.1.2.1 dX1_addLaw_52 (by decide) ?_
  exact hk10 _ _ _ _ _ hw (lv_sub hl [1, 2, 3, 4, 5, 6, 0] rfl) h
set_option maxHeartbeats 4000000 in
set_option maxRecDepth 100000 in
theorem w_X1_addLaw_es_10 {x2 : Int32} {x3 : Int32} {x4 : Int32} {x5 : Int32} {gz : GM} (kb10 : Int32 × GM → Option (GM)) (hk10 : ∀ (x6 : Int32) (g : GM) (H : Heap) (locs : List Loc) (ls : Array Slot), WS D cA ev hr ad A (KX ++ tl) s H locs g → lv_has ls 7 [(0, .ref (ad 35)), (1, .ref (ad 6)), (2, .int x2), (3, .int x3), (4, .int x4), (5, .int x5), (6, .int x6)] → kb10 (x6, g) = some gz → W p l e (RM 3 0 0) s m args below meth c H locs 0 0 (MQ below (QV D cA ev hr ad A (KX ++ tl) gz) args s 0 0 A) (F0 m 10 ls [])) (C : CX p s m args meth c RX1 yX1_addLaw cX1_addLaw 7 none D cA) (hx : HX hr ad) {H : Heap} {locs : List Loc} {x6 : Int32} {g : GM} (hw : WS D cA ev hr ad A (KX ++ tl) s H locs g) {ls : Array Slot} (hl : lv_has ls 7 [(0, .ref (ad 35)), (1, .ref (ad 6)), (2, .int x2), (3, .int x3), (4, .int x4), (5, .int x5), (6, .int x6)]) (h : F_X1_addLaw_es_10B x2 x3 x4 x5 kb10 (x6, g) = some gz) : W p l e (RM 3 0 0) s m args below meth c H locs 0 0 (MQ below (QV D cA ev hr ad A (KX ++ tl) gz) args s 0 0 A) (F0 m 10 ls []) := by
  refine lv_iload C.1.1 C.1.2.1 dX1_addLaw_10 (lv_at hl 6 rfl) ?_
  refine lv_aload_n C.1.1 C.1.2.1 dX1_addLaw_12 rfl (lv_at hl 1 rfl) ?_
  refine r_getI C hw (kx6 _) fX1_46 rfl dX1_addLaw_13 ?_
  refine lv_icmp_ge (tgt := 55) C.1.1 C.1.2.1 dX1_addLaw_16 (by decide) (fun hc => ?_) (fun hc => ?_)
  · replace h := ite_pos' h hc
    cases h
    exact r_vret C hw rfl dX1_addLaw_55
  · replace h := ite_neg' h hc
    refine lv_aload_n C.1.1 C.1.2.1 dX1_addLaw_19 rfl (lv_at hl 1 rfl) ?_
    refine r_getR (v := .ref (ad 12)) C hw (kx6 _) fX1_51 rfl (hx6_7 hx) dX1_addLaw_20 ?_
    refine lv_iload C.1.1 C.1.2.1 dX1_addLaw_23 (lv_at hl 6 rfl) ?_
    obtain ⟨hz, h⟩ := ck_some h
    refine r_iald C hw (kx12 _) (inB_in hz) dX1_addLaw_25 ?_
    refine lv_iload_n C.1.1 C.1.2.1 dX1_addLaw_26 rfl (lv_at hl 2 rfl) ?_
    refine lv_icmp_ne (tgt := 49) C.1.1 C.1.2.1 dX1_addLaw_27 (by decide) (fun hc => ?_) (fun hc => ?_)
    · replace h := ite_neg' h hc
      exact w_X1_addLaw_es_49 kb10 hk10 C hx hw hl h
    · replace h := ite_pos' h hc
      refine lv_aload_n C.1.1 C.1.2.1 dX1_addLaw_30 rfl (lv_at hl 0 rfl) ?_
      refine lv_iconst (v := 1) C.1.1 C.1.2.1 dX1_addLaw_31 (by decide) ?_
      refine lv_iload C.1.1 C.1.2.1 dX1_addLaw_32 (lv_at hl 6 rfl) ?_
      refine lv_ishl C.1.1 C.1.2.1 dX1_addLaw_34 ?_
      refine lv_iload_n C.1.1 C.1.2.1 dX1_addLaw_35 rfl (lv_at hl 3 rfl) ?_
      refine lv_aload_n C.1.1 C.1.2.1 dX1_addLaw_36 rfl (lv_at hl 1 rfl) ?_
      refine lv_iload C.1.1 C.1.2.1 dX1_addLaw_37 (lv_at hl 6 rfl) ?_
      refine lv_iload C.1.1 C.1.2.1 dX1_addLaw_39 (lv_at hl 4 rfl) ?_
      refine lv_iload C.1.1 C.1.2.1 dX1_addLaw_41 (lv_at hl 5 rfl) ?_
      obtain ⟨r_2, hc, h⟩ := bnd_some h
      refine r_vI (dc := 2) (As := [.int x6, .int x4, .int x5]) (rest := [.int x3, .int (1 <<< (x6 &&& 31)), .ref (ad 35)]) C hw vX1_54 (kx6 _) (by decide) rfl (fun sz => c_X2_linkersOf_s hx hc sz) (by decide) rfl rfl hl.1 (Nat.le_of_ble_eq_true rfl) dX1_addLaw_43 ⟨Nat.le_refl _, Nat.le_refl _⟩ (fun H locs hw => ?_)
      obtain ⟨g_3, hc, h⟩ := bnd_some h
      refine r_vV (dc := 1) (As := [.int (1 <<< (x6 &&& 31)), .int x3, .int r_2]) (rest := []) C hw vX1_42 (kx35 _) (by decide) rfl (fun sz => c_X1_addBond_e hx hc sz) (by decide) rfl rfl hl.1 (Nat.le_of_ble_eq_true rfl) dX1_addLaw_46 ⟨Nat.le_refl _, Nat.le_refl _⟩ (fun H locs hw => ?_)
      exact w_X1_addLaw_es_49 kb10 hk10 C hx hw hl h
set_option maxHeartbeats 4000000 in
set_option maxRecDepth 100000 in
theorem w_X1_addLaw_es_10L {x2 : Int32} {x3 : Int32} {x4 : Int32} {x5 : Int32} {gz : GM} (C : CX p s m args meth c RX1 yX1_addLaw cX1_addLaw 7 none D cA) (hx : HX hr ad) : ∀ (n : Nat) (x6 : Int32) (g : GM) (H : Heap) (locs : List Loc) (ls : Array Slot), WS D cA ev hr ad A (KX ++ tl) s H locs g → lv_has ls 7 [(0, .ref (ad 35)), (1, .ref (ad 6)), (2, .int x2), (3, .int x3), (4, .int x4), (5, .int x5), (6, .int x6)] → fixN (F_X1_addLaw_es_10B x2 x3 x4 x5) n (x6, g) = some gz → W p l e (RM 3 0 0) s m args below meth c H locs 0 0 (MQ below (QV D cA ev hr ad A (KX ++ tl) gz) args s 0 0 A) (F0 m 10 ls []) := by
  intro n
  induction n with
  | zero => intro x6 g H locs ls hw hl h; exact (fix_zero h).elim
  | succ n ih => intro x6 g H locs ls hw hl h; exact w_X1_addLaw_es_10 (fixN (F_X1_addLaw_es_10B x2 x3 x4 x5) n) ih C hx hw hl h
set_option maxHeartbeats 4000000 in
set_option maxRecDepth 100000 in
theorem w_X1_addLaw_es_0 (C : CX p s m args meth c RX1 yX1_addLaw cX1_addLaw 7 none D cA) (hx : HX hr ad) {H : Heap} {locs : List Loc} {g : GM} (hw : WS D cA ev hr ad A (KX ++ tl) s H locs g) {a2 : Int32} {a3 : Int32} {a4 : Int32} {a5 : Int32} {ls : Array Slot} (hl : lv_has ls 7 [(0, .ref (ad 35)), (1, .ref (ad 6)), (2, .int a2), (3, .int a3), (4, .int a4), (5, .int a5)]) {gz : GM} (h : F_X1_addLaw_es a2 a3 a4 a5 g = some gz) : W p l e (RM 3 0 0) s m args below meth c H locs 0 0 (MQ below (QV D cA ev hr ad A (KX ++ tl) gz) args s 0 0 A) (F0 m 0 ls []) := by
  refine lv_aload_n C.1.1 C.1.2.1 dX1_addLaw_0 rfl (lv_at hl 0 rfl) ?_
  refine lv_iconst (v := 1) C.1.1 C.1.2.1 dX1_addLaw_1 (by decide) ?_
  refine lv_iload_n C.1.1 C.1.2.1 dX1_addLaw_2 rfl (lv_at hl 2 rfl) ?_
  refine lv_iconst (v := 0) C.1.1 C.1.2.1 dX1_addLaw_3 (by decide) ?_
  obtain ⟨g_4, hc, h⟩ := bnd_some h
  refine r_vV (dc := 1) (As := [.int 1, .int a2, .int 0]) (rest := []) C hw vX1_38 (kx35 _) (by decide) rfl (fun sz => c_X1_addDemand_e hx hc sz) (by decide) rfl rfl hl.1 (Nat.le_of_ble_eq_true rfl) dX1_addLaw_4 ⟨Nat.le_refl _, Nat.le_refl _⟩ (fun H locs hw => ?_)
  refine lv_iconst (v := 0) C.1.1 C.1.2.1 dX1_addLaw_7 (by decide) ?_
  refine lv_istore (lv' := [(6, .int 0), (0, .ref (ad 35)), (1, .ref (ad 6)), (2, .int a2), (3, .int a3), (4, .int a4), (5, .int a5)]) C.1.1 C.1.2.1 dX1_addLaw_8 hl (by decide) rfl (fun ls hl => ?_)
  exact w_X1_addLaw_es_10L C hx FU _ _ _ _ _ hw (lv_sub hl [1, 2, 3, 4, 5, 6, 0] rfl) h
set_option maxHeartbeats 4000000 in
set_option maxRecDepth 100000 in
theorem c_X1_addLaw_es (hx : HX hr ad) {a2 : Int32} {a3 : Int32} {a4 : Int32} {a5 : Int32} {g : GM} {gz : GM} (h : F_X1_addLaw_es a2 a3 a4 a5 g = some gz) (sz : Nat) : Met l yX1_addLaw (WSX yX1_addLaw cX1_addLaw 7 none) (RM 3 0 0) (va_Pc [.ref (ad 35), .ref (ad 6), .int a2, .int a3, .int a4, .int a5] (PX D cA ev hr ad (KX ++ tl) g sz)) (QV D cA ev hr ad (AX ad (KX ++ tl).length sz) (KX ++ tl) gz) 0 0 (AX ad (KX ++ tl).length sz) :=
  met_of (own := RX1) pnX1 rfl (Nat.le_of_ble_eq_true rfl) (fun p e s m below meth c ls C hw hsz hl => w_X1_addLaw_es_0 C hx hw hl h)
set_option maxHeartbeats 4000000 in
set_option maxRecDepth 100000 in
theorem w_X5_readLaw_119 {x1 : Int32} {x2 : Int32} {x3 : Int32} {x4 : Int32} {g : GM} {gz : GM} (C : CX p s m args meth c RX5 yX5_readLaw cX5_readLaw 5 none D cA) (hx : HW hr ad) {H : Heap} {locs : List Loc} (hw : WS D cA ev hr ad A (KX ++ [(5, 7), (8, 4)]) s H locs g) {ls : Array Slot} (hl : lv_has ls 5 [(0, .ref (ad 42)), (1, .int x1), (2, .int x2), (3, .int x3), (4, .int x4)]) (h : F_X5_readLaw_119 x1 x2 x3 x4 g = some gz) : W p l e (RM 11 0 0) s m args below meth c H locs 0 0 (MQ below (QV D cA ev hr ad A (KX ++ [(5, 7), (8, 4)]) gz) args s 0 0 A) (F0 m 119 ls []) := by
  refine lv_aload_n C.1.1 C.1.2.1 dX5_readLaw_119 rfl (lv_at hl 0 rfl) ?_
  refine r_getR (v := .ref (ad 1)) C hw kLW42 fX5_9 rfl hx.2.1 dX5_readLaw_120 ?_
  refine lv_iconst (v := 2) C.1.1 C.1.2.1 dX5_readLaw_123 (by decide) ?_
  obtain ⟨⟨r_1, g_2⟩, hc, h⟩ := bnd_some h
  refine r_vI (dc := 9) (As := [.int 2]) (rest := []) C hw vX5_77 (kx1 _) (by decide) rfl (fun sz => c_X4_take hx.1 hc sz) (by decide) rfl rfl hl.1 (Nat.le_of_ble_eq_true rfl) dX5_readLaw_124 ⟨Nat.le_refl _, Nat.le_refl _⟩ (fun H locs hw => ?_)
  refine lv_if_eq (tgt := 158) C.1.1 C.1.2.1 dX5_readLaw_127 (by decide) (fun hc => ?_) (fun hc => ?_)
  · replace h := ite_pos' h hc
    cases h
    exact r_vret C hw rfl dX5_readLaw_158
  · replace h := ite_neg' h hc
    refine lv_aload_n C.1.1 C.1.2.1 dX5_readLaw_130 rfl (lv_at hl 0 rfl) ?_
    refine r_getR (v := .ref (ad 1)) C hw kLW42 fX5_9 rfl hx.2.1 dX5_readLaw_131 ?_
    refine lv_bipush (v := 59) C.1.1 C.1.2.1 dX5_readLaw_134 (by decide) ?_
    obtain ⟨⟨r_3, g_4⟩, hc, h⟩ := bnd_some h
    refine r_vI (dc := 9) (As := [.int 59]) (rest := []) C hw vX5_77 (kx1 _) (by decide) rfl (fun sz => c_X4_take hx.1 hc sz) (by decide) rfl rfl hl.1 (Nat.le_of_ble_eq_true rfl) dX5_readLaw_136 ⟨Nat.le_refl _, Nat.le_refl _⟩ (fun H locs hw => ?_)
    refine lv_if_eq (tgt := 158) C.1.1 C.1.2.1 dX5_readLaw_139 (by decide) (fun hc => ?_) (fun hc => ?_)
    · replace h := ite_pos' h hc
      cases h
      exact r_vret C hw rfl dX5_readLaw_158
    · replace h := ite_neg' h hc
      refine lv_aload_n C.1.1 C.1.2.1 dX5_readLaw_142 rfl (lv_at hl 0 rfl) ?_
      refine r_getR (v := .ref (ad 35)) C hw kLW42 fX5_19 rfl hx.2.2.2.1 dX5_readLaw_143 ?_
      refine lv_aload_n C.1.1 C.1.2.1 dX5_readLaw_146 rfl (lv_at hl 0 rfl) ?_
      refine r_getR (v := .ref (ad 6)) C hw kLW42 fX5_15 rfl hx.2.2.1 dX5_readLaw_147 ?_
      refine lv_iload_n C.1.1 C.1.2.1 dX5_readLaw_150 rfl (lv_at hl 1 rfl) ?_
      refine lv_iload_n C.1.1 C.1.2.1 dX5_readLaw_151 rfl (lv_at hl 2 rfl) ?_
      refine lv_iload_n C.1.1 C.1.2.1 dX5_readLaw_152 rfl (lv_at hl 3 rfl) ?_
      refine lv_iload C.1.1 C.1.2.1 dX5_readLaw_153 (lv_at hl 4 rfl) ?_
      obtain ⟨g_5, hc, h⟩ := bnd_some h
      refine r_vV (dc := 3) (As := [.ref (ad 6), .int x1, .int x2, .int x3, .int x4]) (rest := []) C hw vX5_104 (kx35 _) (by decide) rfl (fun sz => c_X1_addLaw_es hx.1 hc sz) (by decide) rfl rfl hl.1 (Nat.le_of_ble_eq_true rfl) dX5_readLaw_155 ⟨Nat.le_refl _, Nat.le_refl _⟩ (fun H locs hw => ?_)
      cases h
      exact r_vret C hw rfl dX5_readLaw_158
set_option maxHeartbeats 4000000 in
set_option maxRecDepth 100000 in
theorem w_X5_readLaw_104 {x1 : Int32} {x2 : Int32} {x3 : Int32} {x4 : Int32} {g : GM} {gz : GM} (C : CX p s m args meth c RX5 yX5_readLaw cX5_readLaw 5 none D cA) (hx : HW hr ad) {H : Heap} {locs : List Loc} (hw : WS D cA ev hr ad A (KX ++ [(5, 7), (8, 4)]) s H locs g) {ls : Array Slot} (hl : lv_has ls 5 [(0, .ref (ad 42)), (1, .int x1), (2, .int x2), (3, .int x3), (4, .int x4)]) (h : F_X5_readLaw_104 x1 x2 x3 x4 g = some gz) : W p l e (RM 11 0 0) s m args below meth c H locs 0 0 (MQ below (QV D cA ev hr ad A (KX ++ [(5, 7), (8, 4)]) gz) args s 0 0 A) (F0 m 104 ls []) := by
  refine lv_aload_n C.1.1 C.1.2.1 dX5_readLaw_104 rfl (lv_at hl 0 rfl) ?_
  refine r_getR (v := .ref (ad 1)) C hw kLW42 fX5_9 rfl hx.2.1 dX5_readLaw_105 ?_
  refine lv_iconst (v := 4) C.1.1 C.1.2.1 dX5_readLaw_108 (by decide) ?_
  refine lv_aload_n C.1.1 C.1.2.1 dX5_readLaw_109 rfl (lv_at hl 0 rfl) ?_
  refine r_getR (v := .ref (ad 1)) C hw kLW42 fX5_9 rfl hx.2.1 dX5_readLaw_110 ?_
  refine r_getI C hw (kx1 _) fX5_97 rfl dX5_readLaw_113 ?_
  obtain ⟨g_6, hc, h⟩ := bnd_some h
  refine r_vV (dc := 1) (As := [.int 4, .int (gi g 1 6)]) (rest := []) C hw vX5_100 (kx1 _) (by decide) rfl (fun sz => c_X4_refuse hx.1 hc sz) (by decide) rfl rfl hl.1 (Nat.le_of_ble_eq_true rfl) dX5_readLaw_116 ⟨Nat.le_refl _, Nat.le_refl _⟩ (fun H locs hw => ?_)
  exact w_X5_readLaw_119 C hx hw hl h
set_option maxHeartbeats 4000000 in
set_option maxRecDepth 100000 in
theorem w_X5_readLaw_0 (C : CX p s m args meth c RX5 yX5_readLaw cX5_readLaw 5 none D cA) (hx : HW hr ad) {H : Heap} {locs : List Loc} {g : GM} (hw : WS D cA ev hr ad A (KX ++ [(5, 7), (8, 4)]) s H locs g) {ls : Array Slot} (hl : lv_has ls 5 [(0, .ref (ad 42))]) {gz : GM} (h : F_X5_readLaw g = some gz) : W p l e (RM 11 0 0) s m args below meth c H locs 0 0 (MQ below (QV D cA ev hr ad A (KX ++ [(5, 7), (8, 4)]) gz) args s 0 0 A) (F0 m 0 ls []) := by
  refine lv_aload_n C.1.1 C.1.2.1 dX5_readLaw_0 rfl (lv_at hl 0 rfl) ?_
  refine r_getR (v := .ref (ad 1)) C hw kLW42 fX5_9 rfl hx.2.1 dX5_readLaw_1 ?_
  obtain ⟨g_7, hc, h⟩ := bnd_some h
  refine r_vV (dc := 8) (As := []) (rest := []) C hw vX5_54 (kx1 _) (by decide) rfl (fun sz => c_X4_advance hx.1 hc sz) (by decide) rfl rfl hl.1 (Nat.le_of_ble_eq_true rfl) dX5_readLaw_4 ⟨Nat.le_refl _, Nat.le_refl _⟩ (fun H locs hw => ?_)
  refine lv_aload_n C.1.1 C.1.2.1 dX5_readLaw_7 rfl (lv_at hl 0 rfl) ?_
  refine r_getR (v := .ref (ad 1)) C hw kLW42 fX5_9 rfl hx.2.1 dX5_readLaw_8 ?_
  refine lv_aload_n C.1.1 C.1.2.1 dX5_readLaw_11 rfl (lv_at hl 0 rfl) ?_
  refine r_getR (v := .ref (ad 6)) C hw kLW42 fX5_15 rfl hx.2.2.1 dX5_readLaw_12 ?_
  obtain ⟨⟨r_8, g_9⟩, hc, h⟩ := bnd_some h
  refine r_vI (dc := 9) (As := [.ref (ad 6)]) (rest := []) C hw vX5_61 (kx1 _) (by decide) rfl (fun sz => c_X4_takeTable_s hx.1 hc sz) (by decide) rfl rfl hl.1 (Nat.le_of_ble_eq_true rfl) dX5_readLaw_15 ⟨Nat.le_refl _, Nat.le_refl _⟩ (fun H locs hw => ?_)
  refine lv_istore_n (lv' := [(1, .int r_8), (0, .ref (ad 42))]) C.1.1 C.1.2.1 dX5_readLaw_18 rfl hl (by decide) rfl (fun ls hl => ?_)
  refine lt_gen (P := fun x => lv_has ls 5 [(1, .int x), (0, .ref (ad 42))]) h hl (fun x1_10 h hl => ?_)
  refine lv_aload_n C.1.1 C.1.2.1 dX5_readLaw_19 rfl (lv_at hl 1 rfl) ?_
  refine r_getR (v := .ref (ad 1)) C hw kLW42 fX5_9 rfl hx.2.1 dX5_readLaw_20 ?_
  refine lv_bipush (v := 10) C.1.1 C.1.2.1 dX5_readLaw_23 (by decide) ?_
  obtain ⟨⟨r_11, g_12⟩, hc, h⟩ := bnd_some h
  refine r_vI (dc := 9) (As := [.int 10]) (rest := []) C hw vX5_77 (kx1 _) (by decide) rfl (fun sz => c_X4_take hx.1 hc sz) (by decide) rfl rfl hl.1 (Nat.le_of_ble_eq_true rfl) dX5_readLaw_25 ⟨Nat.le_refl _, Nat.le_refl _⟩ (fun H locs hw => ?_)
  refine lv_pop C.1.1 C.1.2.1 dX5_readLaw_28 rfl ?_
  refine lv_aload_n C.1.1 C.1.2.1 dX5_readLaw_29 rfl (lv_at hl 1 rfl) ?_
  obtain ⟨⟨r_13, g_14⟩, hc, h⟩ := bnd_some h
  refine r_vI (dc := 10) (As := []) (rest := []) C hw vX5_57 kLW42 (by decide) rfl (fun sz => c_X5_readNeed hx hc sz) (by decide) rfl rfl hl.1 (Nat.le_of_ble_eq_true rfl) dX5_readLaw_30 ⟨Nat.le_refl _, Nat.le_refl _⟩ (fun H locs hw => ?_)
  refine lv_istore_n (lv' := [(2, .int r_13), (1, .int x1_10), (0, .ref (ad 42))]) C.1.1 C.1.2.1 dX5_readLaw_33 rfl hl (by decide) rfl (fun ls hl => ?_)
  refine lt_gen (P := fun x => lv_has ls 5 [(2, .int x), (1, .int x1_10), (0, .ref (ad 42))]) h hl (fun x2_15 h hl => ?_)
  refine lv_aload_n C.1.1 C.1.2.1 dX5_readLaw_34 rfl (lv_at hl 2 rfl) ?_
  refine r_getR (v := .ref (ad 1)) C hw kLW42 fX5_9 rfl hx.2.1 dX5_readLaw_35 ?_
  refine lv_aload_n C.1.1 C.1.2.1 dX5_readLaw_38 rfl (lv_at hl 2 rfl) ?_
  refine r_getR (v := .ref (ad 6)) C hw kLW42 fX5_15 rfl hx.2.2.1 dX5_readLaw_39 ?_
  obtain ⟨⟨r_16, g_17⟩, hc, h⟩ := bnd_some h
  refine r_vI (dc := 9) (As := [.ref (ad 6)]) (rest := []) C hw vX5_61 (kx1 _) (by decide) rfl (fun sz => c_X4_takeTable_s hx.1 hc sz) (by decide) rfl rfl hl.1 (Nat.le_of_ble_eq_true rfl) dX5_readLaw_42 ⟨Nat.le_refl _, Nat.le_refl _⟩ (fun H locs hw => ?_)
  refine lv_istore_n (lv' := [(3, .int r_16), (2, .int x2_15), (1, .int x1_10), (0, .ref (ad 42))]) C.1.1 C.1.2.1 dX5_readLaw_45 rfl hl (by decide) rfl (fun ls hl => ?_)
  refine lt_gen (P := fun x => lv_has ls 5 [(3, .int x), (2, .int x2_15), (1, .int x1_10), (0, .ref (ad 42))]) h hl (fun x3_18 h hl => ?_)
  refine lv_aload_n C.1.1 C.1.2.1 dX5_readLaw_46 rfl (lv_at hl 3 rfl) ?_
  refine r_getR (v := .ref (ad 1)) C hw kLW42 fX5_9 rfl hx.2.1 dX5_readLaw_47 ?_
  refine lv_bipush (v := 11) C.1.1 C.1.2.1 dX5_readLaw_50 (by decide) ?_
  obtain ⟨⟨r_19, g_20⟩, hc, h⟩ := bnd_some h
  refine r_vI (dc := 9) (As := [.int 11]) (rest := []) C hw vX5_77 (kx1 _) (by decide) rfl (fun sz => c_X4_take hx.1 hc sz) (by decide) rfl rfl hl.1 (Nat.le_of_ble_eq_true rfl) dX5_readLaw_52 ⟨Nat.le_refl _, Nat.le_refl _⟩ (fun H locs hw => ?_)
  refine lv_pop C.1.1 C.1.2.1 dX5_readLaw_55 rfl ?_
  refine lv_aload_n C.1.1 C.1.2.1 dX5_readLaw_56 rfl (lv_at hl 3 rfl) ?_
  refine r_getR (v := .ref (ad 6)) C hw kLW42 fX5_15 rfl hx.2.2.1 dX5_readLaw_57 ?_
  refine lv_iload_n C.1.1 C.1.2.1 dX5_readLaw_60 rfl (lv_at hl 0 rfl) ?_
  refine lv_aload_n C.1.1 C.1.2.1 dX5_readLaw_61 rfl (lv_at hl 3 rfl) ?_
  refine r_getR (v := .ref (ad 1)) C hw kLW42 fX5_9 rfl hx.2.1 dX5_readLaw_62 ?_
  refine r_getL C hw (kx1 _) fX5_85 rfl dX5_readLaw_65 ?_
  obtain ⟨r_21, hc, h⟩ := bnd_some h
  refine r_vI (dc := 2) (As := [.int x3_18, .long (gl g_20 1 8)]) (rest := []) C hw vX5_89 (kx6 _) (by decide) rfl (fun sz => c_X2_columnNamed_s hx.1 hc sz) (by decide) rfl rfl hl.1 (Nat.le_of_ble_eq_true rfl) dX5_readLaw_68 ⟨Nat.le_refl _, Nat.le_refl _⟩ (fun H locs hw => ?_)
  refine lv_istore (lv' := [(4, .int r_21), (3, .int x3_18), (2, .int x2_15), (1, .int x1_10), (0, .ref (ad 42))]) C.1.1 C.1.2.1 dX5_readLaw_71 hl (by decide) rfl (fun ls hl => ?_)
  refine lt_gen (P := fun x => lv_has ls 5 [(4, .int x), (3, .int x3_18), (2, .int x2_15), (1, .int x1_10), (0, .ref (ad 42))]) h hl (fun x4_22 h hl => ?_)
  refine lv_aload_n C.1.1 C.1.2.1 dX5_readLaw_73 rfl (lv_at hl 4 rfl) ?_
  refine r_getR (v := .ref (ad 1)) C hw kLW42 fX5_9 rfl hx.2.1 dX5_readLaw_74 ?_
  refine r_getI C hw (kx1 _) fX5_42 rfl dX5_readLaw_77 ?_
  refine lv_iconst (v := 2) C.1.1 C.1.2.1 dX5_readLaw_80 (by decide) ?_
  refine lv_icmp_ne (tgt := 119) C.1.1 C.1.2.1 dX5_readLaw_81 (by decide) (fun hc => ?_) (fun hc => ?_)
  · replace h := ite_neg' h hc
    exact w_X5_readLaw_119 C hx hw (lv_sub hl [4, 3, 2, 1, 0] rfl) h
  · replace h := ite_pos' h hc
    refine lv_iload C.1.1 C.1.2.1 dX5_readLaw_84 (lv_at hl 0 rfl) ?_
    refine lv_iconst (v := (-1)) C.1.1 C.1.2.1 dX5_readLaw_86 (by decide) ?_
    refine lv_icmp_eq (tgt := 104) C.1.1 C.1.2.1 dX5_readLaw_87 (by decide) (fun hc => ?_) (fun hc => ?_)
    · replace h := ite_pos' h hc
      exact w_X5_readLaw_104 C hx hw (lv_sub hl [4, 3, 2, 1, 0] rfl) h
    · replace h := ite_neg' h hc
      refine lv_aload_n C.1.1 C.1.2.1 dX5_readLaw_90 rfl (lv_at hl 4 rfl) ?_
      refine r_getR (v := .ref (ad 6)) C hw kLW42 fX5_15 rfl hx.2.2.1 dX5_readLaw_91 ?_
      refine lv_iload_n C.1.1 C.1.2.1 dX5_readLaw_94 rfl (lv_at hl 1 rfl) ?_
      refine lv_iload C.1.1 C.1.2.1 dX5_readLaw_95 (lv_at hl 0 rfl) ?_
      obtain ⟨r_23, hc, h⟩ := bnd_some h
      refine r_vI (dc := 2) (As := [.int x3_18, .int x4_22]) (rest := []) C hw vX5_93 (kx6 _) (by decide) rfl (fun sz => c_X2_target_s hx.1 hc sz) (by decide) rfl rfl hl.1 (Nat.le_of_ble_eq_true rfl) dX5_readLaw_97 ⟨Nat.le_refl _, Nat.le_refl _⟩ (fun H locs hw => ?_)
      refine lv_iload_n C.1.1 C.1.2.1 dX5_readLaw_100 rfl (lv_at hl 3 rfl) ?_
      refine lv_icmp_eq (tgt := 119) C.1.1 C.1.2.1 dX5_readLaw_101 (by decide) (fun hc => ?_) (fun hc => ?_)
      · replace h := ite_pos' h hc
        exact w_X5_readLaw_119 C hx hw (lv_sub hl [4, 3, 2, 1, 0] rfl) h
      · replace h := ite_neg' h hc
        exact w_X5_readLaw_104 C hx hw (lv_sub hl [4, 3, 2, 1, 0] rfl) h
set_option maxHeartbeats 4000000 in
set_option maxRecDepth 100000 in
theorem c_X5_readLaw (hx : HW hr ad) {g : GM} {gz : GM} (h : F_X5_readLaw g = some gz) (sz : Nat) : Met l yX5_readLaw (WSX yX5_readLaw cX5_readLaw 5 none) (RM 11 0 0) (va_Pc [.ref (ad 42)] (PX D cA ev hr ad (KX ++ [(5, 7), (8, 4)]) g sz)) (QV D cA ev hr ad (AX ad (KX ++ [(5, 7), (8, 4)]).length sz) (KX ++ [(5, 7), (8, 4)]) gz) 0 0 (AX ad (KX ++ [(5, 7), (8, 4)]).length sz) :=
  met_of (own := RX5) pnX5 rfl (Nat.le_of_ble_eq_true rfl) (fun p e s m below meth c ls C hw hsz hl => w_X5_readLaw_0 C hx hw hl h)
set_option maxHeartbeats 4000000 in
set_option maxRecDepth 100000 in
theorem w_X2_firstFree_s_37 {x1 : Int32} {x2 : Int32} {g : GM} {r : Int32} (kb2 : Int32 → Option (Int32)) (hk2 : ∀ (x2 : Int32) (H : Heap) (locs : List Loc) (ls : Array Slot), WS D cA ev hr ad A (KX ++ tl) s H locs g → lv_has ls 3 [(0, .ref (ad 6)), (1, .int x1), (2, .int x2)] → kb2 x2 = some r → W p l e (RM 2 0 0) s m args below meth c H locs 0 0 (MQ below (QI D cA ev hr ad A (KX ++ tl) r g) args s 0 0 A) (F0 m 2 ls [])) (C : CX p s m args meth c RX2 yX2_firstFree cX2_firstFree 3 (some .int) D cA) (hx : HX hr ad) {H : Heap} {locs : List Loc} (hw : WS D cA ev hr ad A (KX ++ tl) s H locs g) {ls : Array Slot} (hl : lv_has ls 3 [(0, .ref (ad 6)), (1, .int x1), (2, .int x2)]) (h : F_X2_firstFree_s_37 kb2 x1 x2 g = some r) : W p l e (RM 2 0 0) s m args below meth c H locs 0 0 (MQ below (QI D cA ev hr ad A (KX ++ tl) r g) args s 0 0 A) (F0 m 37 ls []) := by
  refine lv_iinc (v := x2 + 1) (lv' := [(2, .int (x2 + 1)), (0, .ref (ad 6)), (1, .int x1)]) C.1.1 C.1.2.1 dX2_firstFree_37 hl (k := 2) rfl rfl (by decide) rfl (fun ls hl => ?_)
  refine lt_gen (P := fun x => lv_has ls 3 [(2, .int x), (0, .ref (ad 6)), (1, .int x1)]) h hl (fun x2_1 h hl => ?_)
  refine lv_goto (tgt := 2) C.1.1 C.1.2.1 dX2_firstFree_40 (by decide) ?_
  exact hk2 _ _ _ _ hw (lv_sub hl [1, 2, 0] rfl) h
set_option maxHeartbeats 4000000 in
set_option maxRecDepth 100000 in
theorem w_X2_firstFree_s_2 {x1 : Int32} {g : GM} {r : Int32} (kb2 : Int32 → Option (Int32)) (hk2 : ∀ (x2 : Int32) (H : Heap) (locs : List Loc) (ls : Array Slot), WS D cA ev hr ad A (KX ++ tl) s H locs g → lv_has ls 3 [(0, .ref (ad 6)), (1, .int x1), (2, .int x2)] → kb2 x2 = some r → W p l e (RM 2 0 0) s m args below meth c H locs 0 0 (MQ below (QI D cA ev hr ad A (KX ++ tl) r g) args s 0 0 A) (F0 m 2 ls [])) (C : CX p s m args meth c RX2 yX2_firstFree cX2_firstFree 3 (some .int) D cA) (hx : HX hr ad) {H : Heap} {locs : List Loc} {x2 : Int32} (hw : WS D cA ev hr ad A (KX ++ tl) s H locs g) {ls : Array Slot} (hl : lv_has ls 3 [(0, .ref (ad 6)), (1, .int x1), (2, .int x2)]) (h : F_X2_firstFree_s_2B x1 g kb2 x2 = some r) : W p l e (RM 2 0 0) s m args below meth c H locs 0 0 (MQ below (QI D cA ev hr ad A (KX ++ tl) r g) args s 0 0 A) (F0 m 2 ls []) := by
  refine lv_iload_n C.1.1 C.1.2.1 dX2_firstFree_2 rfl (lv_at hl 2 rfl) ?_
  refine lv_aload_n C.1.1 C.1.2.1 dX2_firstFree_3 rfl (lv_at hl 0 rfl) ?_
  refine r_getI C hw (kx6 _) fX2_47 rfl dX2_firstFree_4 ?_
  refine lv_icmp_ge (tgt := 43) C.1.1 C.1.2.1 dX2_firstFree_7 (by decide) (fun hc => ?_) (fun hc => ?_)
  · replace h := ite_pos' h hc
    refine lv_iconst (v := (-1)) C.1.1 C.1.2.1 dX2_firstFree_43 (by decide) ?_
    cases h
    exact r_iret C hw (Or.inl rfl) dX2_firstFree_44
  · replace h := ite_neg' h hc
    refine lv_iload_n C.1.1 C.1.2.1 dX2_firstFree_10 rfl (lv_at hl 1 rfl) ?_
    refine lv_iload_n C.1.1 C.1.2.1 dX2_firstFree_11 rfl (lv_at hl 2 rfl) ?_
    obtain ⟨r_2, hc, h⟩ := bnd_some h
    refine r_nI (dc := 1) (As := [.int x1, .int x2]) (rest := []) C hw nX2_67 (fun sz => c_X6_has hx hc sz) (by decide) rfl rfl hl.1 (Nat.le_of_ble_eq_true rfl) dX2_firstFree_12 ⟨Nat.le_refl _, Nat.le_refl _⟩ (fun H locs hw => ?_)
    refine lv_if_eq (tgt := 37) C.1.1 C.1.2.1 dX2_firstFree_15 (by decide) (fun hc => ?_) (fun hc => ?_)
    · replace h := ite_pos' h hc
      exact w_X2_firstFree_s_37 kb2 hk2 C hx hw hl h
    · replace h := ite_neg' h hc
      refine lv_aload_n C.1.1 C.1.2.1 dX2_firstFree_18 rfl (lv_at hl 0 rfl) ?_
      refine r_getR (v := .ref (ad 16)) C hw (kx6 _) fX2_40 rfl (hx6_11 hx) dX2_firstFree_19 ?_
      refine lv_iload_n C.1.1 C.1.2.1 dX2_firstFree_22 rfl (lv_at hl 2 rfl) ?_
      obtain ⟨hz, h⟩ := ck_some h
      refine r_iald C hw (kx16 _) (inB_in hz) dX2_firstFree_23 ?_
      refine lv_iload_n C.1.1 C.1.2.1 dX2_firstFree_24 rfl (lv_at hl 1 rfl) ?_
      refine lv_iand C.1.1 C.1.2.1 dX2_firstFree_25 ?_
      refine lv_iconst (v := 1) C.1.1 C.1.2.1 dX2_firstFree_26 (by decide) ?_
      refine lv_iload_n C.1.1 C.1.2.1 dX2_firstFree_27 rfl (lv_at hl 2 rfl) ?_
      refine lv_ishl C.1.1 C.1.2.1 dX2_firstFree_28 ?_
      refine lv_iconst (v := (-1)) C.1.1 C.1.2.1 dX2_firstFree_29 (by decide) ?_
      refine lv_ixor C.1.1 C.1.2.1 dX2_firstFree_30 ?_
      refine lv_iand C.1.1 C.1.2.1 dX2_firstFree_31 ?_
      refine lv_if_ne (tgt := 37) C.1.1 C.1.2.1 dX2_firstFree_32 (by decide) (fun hc => ?_) (fun hc => ?_)
      · replace h := ite_neg' h hc
        exact w_X2_firstFree_s_37 kb2 hk2 C hx hw hl h
      · replace h := ite_pos' h hc
        refine lv_iload_n C.1.1 C.1.2.1 dX2_firstFree_35 rfl (lv_at hl 2 rfl) ?_
        cases h
        exact r_iret C hw (Or.inl rfl) dX2_firstFree_36
set_option maxHeartbeats 4000000 in
set_option maxRecDepth 100000 in
theorem w_X2_firstFree_s_2L {x1 : Int32} {g : GM} {r : Int32} (C : CX p s m args meth c RX2 yX2_firstFree cX2_firstFree 3 (some .int) D cA) (hx : HX hr ad) : ∀ (n : Nat) (x2 : Int32) (H : Heap) (locs : List Loc) (ls : Array Slot), WS D cA ev hr ad A (KX ++ tl) s H locs g → lv_has ls 3 [(0, .ref (ad 6)), (1, .int x1), (2, .int x2)] → fixN (F_X2_firstFree_s_2B x1 g) n x2 = some r → W p l e (RM 2 0 0) s m args below meth c H locs 0 0 (MQ below (QI D cA ev hr ad A (KX ++ tl) r g) args s 0 0 A) (F0 m 2 ls []) := by
  intro n
  induction n with
  | zero => intro x2 H locs ls hw hl h; exact (fix_zero h).elim
  | succ n ih => intro x2 H locs ls hw hl h; exact w_X2_firstFree_s_2 (fixN (F_X2_firstFree_s_2B x1 g) n) ih C hx hw hl h
set_option maxHeartbeats 4000000 in
set_option maxRecDepth 100000 in
theorem w_X2_firstFree_s_0 (C : CX p s m args meth c RX2 yX2_firstFree cX2_firstFree 3 (some .int) D cA) (hx : HX hr ad) {H : Heap} {locs : List Loc} {g : GM} (hw : WS D cA ev hr ad A (KX ++ tl) s H locs g) {a1 : Int32} {ls : Array Slot} (hl : lv_has ls 3 [(0, .ref (ad 6)), (1, .int a1)]) {r : Int32} (h : F_X2_firstFree_s a1 g = some r) : W p l e (RM 2 0 0) s m args below meth c H locs 0 0 (MQ below (QI D cA ev hr ad A (KX ++ tl) r g) args s 0 0 A) (F0 m 0 ls []) := by
  refine lv_iconst (v := 0) C.1.1 C.1.2.1 dX2_firstFree_0 (by decide) ?_
  refine lv_istore_n (lv' := [(2, .int 0), (0, .ref (ad 6)), (1, .int a1)]) C.1.1 C.1.2.1 dX2_firstFree_1 rfl hl (by decide) rfl (fun ls hl => ?_)
  exact w_X2_firstFree_s_2L C hx FU _ _ _ _ hw (lv_sub hl [1, 2, 0] rfl) h
set_option maxHeartbeats 4000000 in
set_option maxRecDepth 100000 in
theorem c_X2_firstFree_s (hx : HX hr ad) {a1 : Int32} {g : GM} {r : Int32} (h : F_X2_firstFree_s a1 g = some r) (sz : Nat) : Met l yX2_firstFree (WSX yX2_firstFree cX2_firstFree 3 (some .int)) (RM 2 0 0) (va_Pc [.ref (ad 6), .int a1] (PX D cA ev hr ad (KX ++ tl) g sz)) (QI D cA ev hr ad (AX ad (KX ++ tl).length sz) (KX ++ tl) r g) 0 0 (AX ad (KX ++ tl).length sz) :=
  met_of (own := RX2) pnX2 rfl (Nat.le_of_ble_eq_true rfl) (fun p e s m below meth c ls C hw hsz hl => w_X2_firstFree_s_0 C hx hw hl h)
set_option maxHeartbeats 4000000 in
set_option maxRecDepth 100000 in
theorem w_X2_lineUp_s5_5 {r : Int32} {gz : GM} (kb5 : Int32 × Int32 × GM → Option (Int32 × GM)) (hk5 : ∀ (x3 : Int32) (x4 : Int32) (g : GM) (H : Heap) (locs : List Loc) (ls : Array Slot), WS D cA ev hr ad A (KX ++ tl) s H locs g → lv_has ls 6 [(0, .ref (ad 6)), (2, .ref (ad 5)), (3, .int x3), (4, .int x4)] → kb5 (x3, x4, g) = some (r, gz) → W p l e (RM 3 0 0) s m args below meth c H locs 0 0 (MQ below (QI D cA ev hr ad A (KX ++ tl) r gz) args s 0 0 A) (F0 m 5 ls [])) (C : CX p s m args meth c RX2 yX2_lineUp cX2_lineUp 6 (some .int) D cA) (hx : HX hr ad) {H : Heap} {locs : List Loc} {x3 : Int32} {x4 : Int32} {g : GM} (hw : WS D cA ev hr ad A (KX ++ tl) s H locs g) {ls : Array Slot} (hl : lv_has ls 6 [(0, .ref (ad 6)), (2, .ref (ad 5)), (3, .int x3), (4, .int x4)]) (h : F_X2_lineUp_s5_5B kb5 (x3, x4, g) = some (r, gz)) : W p l e (RM 3 0 0) s m args below meth c H locs 0 0 (MQ below (QI D cA ev hr ad A (KX ++ tl) r gz) args s 0 0 A) (F0 m 5 ls []) := by
  refine lv_iload C.1.1 C.1.2.1 dX2_lineUp_5 (lv_at hl 3 rfl) ?_
  refine lv_aload_n C.1.1 C.1.2.1 dX2_lineUp_7 rfl (lv_at hl 1 rfl) ?_
  refine r_alen (ty := .int) (v := 16) C hw (kx5 _) (by decide) (by decide) dX2_lineUp_8 ?_
  refine lv_icmp_ge (tgt := 49) C.1.1 C.1.2.1 dX2_lineUp_9 (by decide) (fun hc => ?_) (fun hc => ?_)
  · replace h := ite_pos' h hc
    refine lv_aload_n C.1.1 C.1.2.1 dX2_lineUp_49 rfl (lv_at hl 1 rfl) ?_
    refine r_alen (ty := .int) (v := 16) C hw (kx5 _) (by decide) (by decide) dX2_lineUp_50 ?_
    cases h
    exact r_iret C hw (Or.inl rfl) dX2_lineUp_51
  · replace h := ite_neg' h hc
    refine lv_aload_n C.1.1 C.1.2.1 dX2_lineUp_12 rfl (lv_at hl 0 rfl) ?_
    refine lv_iload_n C.1.1 C.1.2.1 dX2_lineUp_13 rfl (lv_at hl 2 rfl) ?_
    obtain ⟨r_1, hc, h⟩ := bnd_some h
    refine r_vI (dc := 2) (As := [.int x3]) (rest := []) C hw vX2_75 (kx6 _) (by decide) rfl (fun sz => c_X2_firstFree_s hx hc sz) (by decide) rfl rfl hl.1 (Nat.le_of_ble_eq_true rfl) dX2_lineUp_14 ⟨Nat.le_refl _, Nat.le_refl _⟩ (fun H locs hw => ?_)
    refine lv_istore (lv' := [(5, .int r_1), (0, .ref (ad 6)), (2, .ref (ad 5)), (3, .int x3), (4, .int x4)]) C.1.1 C.1.2.1 dX2_lineUp_17 hl (by decide) rfl (fun ls hl => ?_)
    refine lt_gen (P := fun x => lv_has ls 6 [(5, .int x), (0, .ref (ad 6)), (2, .ref (ad 5)), (3, .int x3), (4, .int x4)]) h hl (fun x5_2 h hl => ?_)
    refine lv_iload C.1.1 C.1.2.1 dX2_lineUp_19 (lv_at hl 0 rfl) ?_
    refine lv_iconst (v := (-1)) C.1.1 C.1.2.1 dX2_lineUp_21 (by decide) ?_
    refine lv_icmp_ne (tgt := 28) C.1.1 C.1.2.1 dX2_lineUp_22 (by decide) (fun hc => ?_) (fun hc => ?_)
    · replace h := ite_neg' h hc
      refine lv_aload_n C.1.1 C.1.2.1 dX2_lineUp_28 rfl (lv_at hl 2 rfl) ?_
      refine lv_iload C.1.1 C.1.2.1 dX2_lineUp_29 (lv_at hl 4 rfl) ?_
      refine lv_iload C.1.1 C.1.2.1 dX2_lineUp_31 (lv_at hl 0 rfl) ?_
      obtain ⟨hz, h⟩ := ck_some h
      refine r_iast C hw (kx5 _) (inB_in hz) dX2_lineUp_33 (fun H locs hw => ?_)
      refine lt_gen (P := fun g => WS D cA ev hr ad A (KX ++ tl) s H locs g) h hw (fun g_3 h hw => ?_)
      refine lv_iload_n C.1.1 C.1.2.1 dX2_lineUp_34 rfl (lv_at hl 3 rfl) ?_
      refine lv_iconst (v := 1) C.1.1 C.1.2.1 dX2_lineUp_35 (by decide) ?_
      refine lv_iload C.1.1 C.1.2.1 dX2_lineUp_36 (lv_at hl 0 rfl) ?_
      refine lv_ishl C.1.1 C.1.2.1 dX2_lineUp_38 ?_
      refine lv_iconst (v := (-1)) C.1.1 C.1.2.1 dX2_lineUp_39 (by decide) ?_
      refine lv_ixor C.1.1 C.1.2.1 dX2_lineUp_40 ?_
      refine lv_iand C.1.1 C.1.2.1 dX2_lineUp_41 ?_
      refine lv_istore_n (lv' := [(3, .int (x3 &&& ((1 <<< (x5_2 &&& 31)) ^^^ ((-1))))), (5, .int x5_2), (0, .ref (ad 6)), (2, .ref (ad 5)), (4, .int x4)]) C.1.1 C.1.2.1 dX2_lineUp_42 rfl hl (by decide) rfl (fun ls hl => ?_)
      refine lt_gen (P := fun x => lv_has ls 6 [(3, .int x), (5, .int x5_2), (0, .ref (ad 6)), (2, .ref (ad 5)), (4, .int x4)]) h hl (fun x3_4 h hl => ?_)
      refine lv_iinc (v := x4 + 1) (lv' := [(4, .int (x4 + 1)), (3, .int x3_4), (5, .int x5_2), (0, .ref (ad 6)), (2, .ref (ad 5))]) C.1.1 C.1.2.1 dX2_lineUp_43 hl (k := 4) rfl rfl (by decide) rfl (fun ls hl => ?_)
      refine lt_gen (P := fun x => lv_has ls 6 [(4, .int x), (3, .int x3_4), (5, .int x5_2), (0, .ref (ad 6)), (2, .ref (ad 5))]) h hl (fun x4_5 h hl => ?_)
      refine lv_goto (tgt := 5) C.1.1 C.1.2.1 dX2_lineUp_46 (by decide) ?_
      exact hk5 _ _ _ _ _ _ hw (lv_sub hl [3, 4, 1, 0] rfl) h
    · replace h := ite_pos' h hc
      refine lv_iload C.1.1 C.1.2.1 dX2_lineUp_25 (lv_at hl 4 rfl) ?_
      cases h
      exact r_iret C hw (Or.inl rfl) dX2_lineUp_27
set_option maxHeartbeats 4000000 in
set_option maxRecDepth 100000 in
theorem w_X2_lineUp_s5_5L {r : Int32} {gz : GM} (C : CX p s m args meth c RX2 yX2_lineUp cX2_lineUp 6 (some .int) D cA) (hx : HX hr ad) : ∀ (n : Nat) (x3 : Int32) (x4 : Int32) (g : GM) (H : Heap) (locs : List Loc) (ls : Array Slot), WS D cA ev hr ad A (KX ++ tl) s H locs g → lv_has ls 6 [(0, .ref (ad 6)), (2, .ref (ad 5)), (3, .int x3), (4, .int x4)] → fixN (F_X2_lineUp_s5_5B) n (x3, x4, g) = some (r, gz) → W p l e (RM 3 0 0) s m args below meth c H locs 0 0 (MQ below (QI D cA ev hr ad A (KX ++ tl) r gz) args s 0 0 A) (F0 m 5 ls []) := by
  intro n
  induction n with
  | zero => intro x3 x4 g H locs ls hw hl h; exact (fix_zero h).elim
  | succ n ih => intro x3 x4 g H locs ls hw hl h; exact w_X2_lineUp_s5_5 (fixN (F_X2_lineUp_s5_5B) n) ih C hx hw hl h
set_option maxHeartbeats 4000000 in
set_option maxRecDepth 100000 in
theorem w_X2_lineUp_s5_0 (C : CX p s m args meth c RX2 yX2_lineUp cX2_lineUp 6 (some .int) D cA) (hx : HX hr ad) {H : Heap} {locs : List Loc} {g : GM} (hw : WS D cA ev hr ad A (KX ++ tl) s H locs g) {a1 : Int32} {ls : Array Slot} (hl : lv_has ls 6 [(0, .ref (ad 6)), (1, .int a1), (2, .ref (ad 5))]) {r : Int32} {gz : GM} (h : F_X2_lineUp_s5 a1 g = some (r, gz)) : W p l e (RM 3 0 0) s m args below meth c H locs 0 0 (MQ below (QI D cA ev hr ad A (KX ++ tl) r gz) args s 0 0 A) (F0 m 0 ls []) := by
  refine lv_iload_n C.1.1 C.1.2.1 dX2_lineUp_0 rfl (lv_at hl 1 rfl) ?_
  refine lv_istore_n (lv' := [(3, .int a1), (0, .ref (ad 6)), (1, .int a1), (2, .ref (ad 5))]) C.1.1 C.1.2.1 dX2_lineUp_1 rfl hl (by decide) rfl (fun ls hl => ?_)
  refine lv_iconst (v := 0) C.1.1 C.1.2.1 dX2_lineUp_2 (by decide) ?_
  refine lv_istore (lv' := [(4, .int 0), (3, .int a1), (0, .ref (ad 6)), (1, .int a1), (2, .ref (ad 5))]) C.1.1 C.1.2.1 dX2_lineUp_3 hl (by decide) rfl (fun ls hl => ?_)
  exact w_X2_lineUp_s5_5L C hx FU _ _ _ _ _ _ hw (lv_sub hl [2, 4, 1, 0] rfl) h
set_option maxHeartbeats 4000000 in
set_option maxRecDepth 100000 in
theorem c_X2_lineUp_s5 (hx : HX hr ad) {a1 : Int32} {g : GM} {r : Int32} {gz : GM} (h : F_X2_lineUp_s5 a1 g = some (r, gz)) (sz : Nat) : Met l yX2_lineUp (WSX yX2_lineUp cX2_lineUp 6 (some .int)) (RM 3 0 0) (va_Pc [.ref (ad 6), .int a1, .ref (ad 5)] (PX D cA ev hr ad (KX ++ tl) g sz)) (QI D cA ev hr ad (AX ad (KX ++ tl).length sz) (KX ++ tl) r gz) 0 0 (AX ad (KX ++ tl).length sz) :=
  met_of (own := RX2) pnX2 rfl (Nat.le_of_ble_eq_true rfl) (fun p e s m below meth c ls C hw hsz hl => w_X2_lineUp_s5_0 C hx hw hl h)
set_option maxHeartbeats 4000000 in
set_option maxRecDepth 100000 in
theorem w_X2_total_s_51 {x1 : Int32} {x2 : Int32} {x3 : Int32} {x4 : Int32} {x5 : Int32} {g : GM} {r : Int32} (kb6 : Int32 × Int32 → Option (Int32)) (hk6 : ∀ (x4 : Int32) (x5 : Int32) (H : Heap) (locs : List Loc) (ls : Array Slot), WS D cA ev hr ad A (KX ++ tl) s H locs g → lv_has ls 6 [(0, .ref (ad 6)), (1, .int x1), (2, .int x2), (3, .int x3), (4, .int x4), (5, .int x5)] → kb6 (x4, x5) = some r → W p l e (RM 2 0 0) s m args below meth c H locs 0 0 (MQ below (QI D cA ev hr ad A (KX ++ tl) r g) args s 0 0 A) (F0 m 6 ls [])) (C : CX p s m args meth c RX2 yX2_total cX2_total 6 (some .int) D cA) (hx : HX hr ad) {H : Heap} {locs : List Loc} (hw : WS D cA ev hr ad A (KX ++ tl) s H locs g) {ls : Array Slot} (hl : lv_has ls 6 [(0, .ref (ad 6)), (1, .int x1), (2, .int x2), (3, .int x3), (4, .int x4), (5, .int x5)]) (h : F_X2_total_s_51 kb6 x1 x2 x3 x4 x5 g = some r) : W p l e (RM 2 0 0) s m args below meth c H locs 0 0 (MQ below (QI D cA ev hr ad A (KX ++ tl) r g) args s 0 0 A) (F0 m 51 ls []) := by
  refine lv_iinc (v := x5 + 1) (lv' := [(5, .int (x5 + 1)), (0, .ref (ad 6)), (1, .int x1), (2, .int x2), (3, .int x3), (4, .int x4)]) C.1.1 C.1.2.1 dX2_total_51 hl (k := 5) rfl rfl (by decide) rfl (fun ls hl => ?_)
  refine lt_gen (P := fun x => lv_has ls 6 [(5, .int x), (0, .ref (ad 6)), (1, .int x1), (2, .int x2), (3, .int x3), (4, .int x4)]) h hl (fun x5_1 h hl => ?_)
  refine lv_goto (tgt := 6) C.1.1 C.1.2.1 dX2_total_54 (by decide) ?_
  exact hk6 _ _ _ _ _ hw (lv_sub hl [1, 2, 3, 4, 5, 0] rfl) h
set_option maxHeartbeats 4000000 in
set_option maxRecDepth 100000 in
theorem w_X2_total_s_6 {x1 : Int32} {x2 : Int32} {x3 : Int32} {g : GM} {r : Int32} (kb6 : Int32 × Int32 → Option (Int32)) (hk6 : ∀ (x4 : Int32) (x5 : Int32) (H : Heap) (locs : List Loc) (ls : Array Slot), WS D cA ev hr ad A (KX ++ tl) s H locs g → lv_has ls 6 [(0, .ref (ad 6)), (1, .int x1), (2, .int x2), (3, .int x3), (4, .int x4), (5, .int x5)] → kb6 (x4, x5) = some r → W p l e (RM 2 0 0) s m args below meth c H locs 0 0 (MQ below (QI D cA ev hr ad A (KX ++ tl) r g) args s 0 0 A) (F0 m 6 ls [])) (C : CX p s m args meth c RX2 yX2_total cX2_total 6 (some .int) D cA) (hx : HX hr ad) {H : Heap} {locs : List Loc} {x4 : Int32} {x5 : Int32} (hw : WS D cA ev hr ad A (KX ++ tl) s H locs g) {ls : Array Slot} (hl : lv_has ls 6 [(0, .ref (ad 6)), (1, .int x1), (2, .int x2), (3, .int x3), (4, .int x4), (5, .int x5)]) (h : F_X2_total_s_6B x1 x2 x3 g kb6 (x4, x5) = some r) : W p l e (RM 2 0 0) s m args below meth c H locs 0 0 (MQ below (QI D cA ev hr ad A (KX ++ tl) r g) args s 0 0 A) (F0 m 6 ls []) := by
  refine lv_iload C.1.1 C.1.2.1 dX2_total_6 (lv_at hl 5 rfl) ?_
  refine lv_aload_n C.1.1 C.1.2.1 dX2_total_8 rfl (lv_at hl 0 rfl) ?_
  refine r_getI C hw (kx6 _) fX2_47 rfl dX2_total_9 ?_
  refine lv_icmp_ge (tgt := 57) C.1.1 C.1.2.1 dX2_total_12 (by decide) (fun hc => ?_) (fun hc => ?_)
  · replace h := ite_pos' h hc
    refine lv_iload C.1.1 C.1.2.1 dX2_total_57 (lv_at hl 4 rfl) ?_
    cases h
    exact r_iret C hw (Or.inl rfl) dX2_total_59
  · replace h := ite_neg' h hc
    refine lv_aload_n C.1.1 C.1.2.1 dX2_total_15 rfl (lv_at hl 0 rfl) ?_
    refine r_getR (v := .ref (ad 12)) C hw (kx6 _) fX2_28 rfl (hx6_7 hx) dX2_total_16 ?_
    refine lv_iload C.1.1 C.1.2.1 dX2_total_19 (lv_at hl 5 rfl) ?_
    obtain ⟨hz, h⟩ := ck_some h
    refine r_iald C hw (kx12 _) (inB_in hz) dX2_total_21 ?_
    refine lv_iload_n C.1.1 C.1.2.1 dX2_total_22 rfl (lv_at hl 1 rfl) ?_
    refine lv_icmp_ne (tgt := 51) C.1.1 C.1.2.1 dX2_total_23 (by decide) (fun hc => ?_) (fun hc => ?_)
    · replace h := ite_neg' h hc
      exact w_X2_total_s_51 kb6 hk6 C hx hw hl h
    · replace h := ite_pos' h hc
      refine lv_iload_n C.1.1 C.1.2.1 dX2_total_26 rfl (lv_at hl 3 rfl) ?_
      refine lv_iload C.1.1 C.1.2.1 dX2_total_27 (lv_at hl 5 rfl) ?_
      obtain ⟨r_2, hc, h⟩ := bnd_some h
      refine r_nI (dc := 1) (As := [.int x3, .int x5]) (rest := []) C hw nX2_67 (fun sz => c_X6_has hx hc sz) (by decide) rfl rfl hl.1 (Nat.le_of_ble_eq_true rfl) dX2_total_29 ⟨Nat.le_refl _, Nat.le_refl _⟩ (fun H locs hw => ?_)
      refine lv_if_eq (tgt := 51) C.1.1 C.1.2.1 dX2_total_32 (by decide) (fun hc => ?_) (fun hc => ?_)
      · replace h := ite_pos' h hc
        exact w_X2_total_s_51 kb6 hk6 C hx hw hl h
      · replace h := ite_neg' h hc
        refine lv_iload C.1.1 C.1.2.1 dX2_total_35 (lv_at hl 4 rfl) ?_
        refine lv_iconst (v := 0) C.1.1 C.1.2.1 dX2_total_37 (by decide) ?_
        refine lv_aload_n C.1.1 C.1.2.1 dX2_total_38 rfl (lv_at hl 0 rfl) ?_
        refine lv_iload C.1.1 C.1.2.1 dX2_total_39 (lv_at hl 5 rfl) ?_
        refine lv_iload_n C.1.1 C.1.2.1 dX2_total_41 rfl (lv_at hl 2 rfl) ?_
        obtain ⟨r_3, hc, h⟩ := bnd_some h
        refine r_vI (dc := 1) (As := [.int x5, .int x2]) (rest := [.int 0, .int x4]) C hw vX2_64 (kx6 _) (by decide) rfl (fun sz => c_X2_cell_s hx hc sz) (by decide) rfl rfl hl.1 (Nat.le_of_ble_eq_true rfl) dX2_total_42 ⟨Nat.le_refl _, Nat.le_refl _⟩ (fun H locs hw => ?_)
        obtain ⟨r_4, hc, h⟩ := bnd_some h
        refine r_sI (dc := 1) (As := [.int 0, .int r_3]) (rest := [.int x4]) C hw sX2_70 (fun sz => c_J9_max_7cf53 trivial hc sz) (by decide) rfl rfl hl.1 (Nat.le_of_ble_eq_true rfl) dX2_total_45 ⟨Nat.le_refl _, Nat.le_refl _⟩ (fun H locs hw => ?_)
        refine lv_iadd C.1.1 C.1.2.1 dX2_total_48 ?_
        refine lv_istore (lv' := [(4, .int (x4 + r_4)), (0, .ref (ad 6)), (1, .int x1), (2, .int x2), (3, .int x3), (5, .int x5)]) C.1.1 C.1.2.1 dX2_total_49 hl (by decide) rfl (fun ls hl => ?_)
        refine lt_gen (P := fun x => lv_has ls 6 [(4, .int x), (0, .ref (ad 6)), (1, .int x1), (2, .int x2), (3, .int x3), (5, .int x5)]) h hl (fun x4_5 h hl => ?_)
        exact w_X2_total_s_51 kb6 hk6 C hx hw (lv_sub hl [1, 2, 3, 4, 0, 5] rfl) h
set_option maxHeartbeats 4000000 in
set_option maxRecDepth 100000 in
theorem w_X2_total_s_6L {x1 : Int32} {x2 : Int32} {x3 : Int32} {g : GM} {r : Int32} (C : CX p s m args meth c RX2 yX2_total cX2_total 6 (some .int) D cA) (hx : HX hr ad) : ∀ (n : Nat) (x4 : Int32) (x5 : Int32) (H : Heap) (locs : List Loc) (ls : Array Slot), WS D cA ev hr ad A (KX ++ tl) s H locs g → lv_has ls 6 [(0, .ref (ad 6)), (1, .int x1), (2, .int x2), (3, .int x3), (4, .int x4), (5, .int x5)] → fixN (F_X2_total_s_6B x1 x2 x3 g) n (x4, x5) = some r → W p l e (RM 2 0 0) s m args below meth c H locs 0 0 (MQ below (QI D cA ev hr ad A (KX ++ tl) r g) args s 0 0 A) (F0 m 6 ls []) := by
  intro n
  induction n with
  | zero => intro x4 x5 H locs ls hw hl h; exact (fix_zero h).elim
  | succ n ih => intro x4 x5 H locs ls hw hl h; exact w_X2_total_s_6 (fixN (F_X2_total_s_6B x1 x2 x3 g) n) ih C hx hw hl h
set_option maxHeartbeats 4000000 in
set_option maxRecDepth 100000 in
theorem w_X2_total_s_0 (C : CX p s m args meth c RX2 yX2_total cX2_total 6 (some .int) D cA) (hx : HX hr ad) {H : Heap} {locs : List Loc} {g : GM} (hw : WS D cA ev hr ad A (KX ++ tl) s H locs g) {a1 : Int32} {a2 : Int32} {a3 : Int32} {ls : Array Slot} (hl : lv_has ls 6 [(0, .ref (ad 6)), (1, .int a1), (2, .int a2), (3, .int a3)]) {r : Int32} (h : F_X2_total_s a1 a2 a3 g = some r) : W p l e (RM 2 0 0) s m args below meth c H locs 0 0 (MQ below (QI D cA ev hr ad A (KX ++ tl) r g) args s 0 0 A) (F0 m 0 ls []) := by
  refine lv_iconst (v := 0) C.1.1 C.1.2.1 dX2_total_0 (by decide) ?_
  refine lv_istore (lv' := [(4, .int 0), (0, .ref (ad 6)), (1, .int a1), (2, .int a2), (3, .int a3)]) C.1.1 C.1.2.1 dX2_total_1 hl (by decide) rfl (fun ls hl => ?_)
  refine lv_iconst (v := 0) C.1.1 C.1.2.1 dX2_total_3 (by decide) ?_
  refine lv_istore (lv' := [(5, .int 0), (4, .int 0), (0, .ref (ad 6)), (1, .int a1), (2, .int a2), (3, .int a3)]) C.1.1 C.1.2.1 dX2_total_4 hl (by decide) rfl (fun ls hl => ?_)
  exact w_X2_total_s_6L C hx FU _ _ _ _ _ hw (lv_sub hl [2, 3, 4, 5, 1, 0] rfl) h
set_option maxHeartbeats 4000000 in
set_option maxRecDepth 100000 in
theorem c_X2_total_s (hx : HX hr ad) {a1 : Int32} {a2 : Int32} {a3 : Int32} {g : GM} {r : Int32} (h : F_X2_total_s a1 a2 a3 g = some r) (sz : Nat) : Met l yX2_total (WSX yX2_total cX2_total 6 (some .int)) (RM 2 0 0) (va_Pc [.ref (ad 6), .int a1, .int a2, .int a3] (PX D cA ev hr ad (KX ++ tl) g sz)) (QI D cA ev hr ad (AX ad (KX ++ tl).length sz) (KX ++ tl) r g) 0 0 (AX ad (KX ++ tl).length sz) :=
  met_of (own := RX2) pnX2 rfl (Nat.le_of_ble_eq_true rfl) (fun p e s m below meth c ls C hw hsz hl => w_X2_total_s_0 C hx hw hl h)
set_option maxHeartbeats 4000000 in
set_option maxRecDepth 100000 in
theorem w_X2_allRows_s_0 (C : CX p s m args meth c RX2 yX2_allRows cX2_allRows 1 (some .int) D cA) (hx : HX hr ad) {H : Heap} {locs : List Loc} {g : GM} (hw : WS D cA ev hr ad A (KX ++ tl) s H locs g) {ls : Array Slot} (hl : lv_has ls 1 [(0, .ref (ad 6))]) {r : Int32} (h : F_X2_allRows_s g = some r) : W p l e (RM 1 0 0) s m args below meth c H locs 0 0 (MQ below (QI D cA ev hr ad A (KX ++ tl) r g) args s 0 0 A) (F0 m 0 ls []) := by
  refine lv_iconst (v := 1) C.1.1 C.1.2.1 dX2_allRows_0 (by decide) ?_
  refine lv_aload_n C.1.1 C.1.2.1 dX2_allRows_1 rfl (lv_at hl 0 rfl) ?_
  refine r_getI C hw (kx6 _) fX2_47 rfl dX2_allRows_2 ?_
  refine lv_ishl C.1.1 C.1.2.1 dX2_allRows_5 ?_
  refine lv_iconst (v := 1) C.1.1 C.1.2.1 dX2_allRows_6 (by decide) ?_
  refine lv_isub C.1.1 C.1.2.1 dX2_allRows_7 ?_
  cases h
  exact r_iret C hw (Or.inl rfl) dX2_allRows_8
set_option maxHeartbeats 4000000 in
set_option maxRecDepth 100000 in
theorem c_X2_allRows_s (hx : HX hr ad) {g : GM} {r : Int32} (h : F_X2_allRows_s g = some r) (sz : Nat) : Met l yX2_allRows (WSX yX2_allRows cX2_allRows 1 (some .int)) (RM 1 0 0) (va_Pc [.ref (ad 6)] (PX D cA ev hr ad (KX ++ tl) g sz)) (QI D cA ev hr ad (AX ad (KX ++ tl).length sz) (KX ++ tl) r g) 0 0 (AX ad (KX ++ tl).length sz) :=
  met_of (own := RX2) pnX2 rfl (Nat.le_of_ble_eq_true rfl) (fun p e s m below meth c ls C hw hsz hl => w_X2_allRows_s_0 C hx hw hl h)
set_option maxHeartbeats 4000000 in
set_option maxRecDepth 100000 in
theorem w_X2_rowsOf_s_28 {x1 : Int32} {x2 : Int32} {x3 : Int32} {g : GM} {r : Int32} (kb4 : Int32 × Int32 → Option (Int32)) (hk4 : ∀ (x2 : Int32) (x3 : Int32) (H : Heap) (locs : List Loc) (ls : Array Slot), WS D cA ev hr ad A (KX ++ tl) s H locs g → lv_has ls 4 [(0, .ref (ad 6)), (1, .int x1), (2, .int x2), (3, .int x3)] → kb4 (x2, x3) = some r → W p l e (RM 1 0 0) s m args below meth c H locs 0 0 (MQ below (QI D cA ev hr ad A (KX ++ tl) r g) args s 0 0 A) (F0 m 4 ls [])) (C : CX p s m args meth c RX2 yX2_rowsOf cX2_rowsOf 4 (some .int) D cA) (hx : HX hr ad) {H : Heap} {locs : List Loc} (hw : WS D cA ev hr ad A (KX ++ tl) s H locs g) {ls : Array Slot} (hl : lv_has ls 4 [(0, .ref (ad 6)), (1, .int x1), (2, .int x2), (3, .int x3)]) (h : F_X2_rowsOf_s_28 kb4 x1 x2 x3 g = some r) : W p l e (RM 1 0 0) s m args below meth c H locs 0 0 (MQ below (QI D cA ev hr ad A (KX ++ tl) r g) args s 0 0 A) (F0 m 28 ls []) := by
  refine lv_iinc (v := x3 + 1) (lv' := [(3, .int (x3 + 1)), (0, .ref (ad 6)), (1, .int x1), (2, .int x2)]) C.1.1 C.1.2.1 dX2_rowsOf_28 hl (k := 3) rfl rfl (by decide) rfl (fun ls hl => ?_)
  refine lt_gen (P := fun x => lv_has ls 4 [(3, .int x), (0, .ref (ad 6)), (1, .int x1), (2, .int x2)]) h hl (fun x3_1 h hl => ?_)
  refine lv_goto (tgt := 4) C.1.1 C.1.2.1 dX2_rowsOf_31 (by decide) ?_
  exact hk4 _ _ _ _ _ hw (lv_sub hl [1, 2, 3, 0] rfl) h
set_option maxHeartbeats 4000000 in
set_option maxRecDepth 100000 in
theorem w_X2_rowsOf_s_4 {x1 : Int32} {g : GM} {r : Int32} (kb4 : Int32 × Int32 → Option (Int32)) (hk4 : ∀ (x2 : Int32) (x3 : Int32) (H : Heap) (locs : List Loc) (ls : Array Slot), WS D cA ev hr ad A (KX ++ tl) s H locs g → lv_has ls 4 [(0, .ref (ad 6)), (1, .int x1), (2, .int x2), (3, .int x3)] → kb4 (x2, x3) = some r → W p l e (RM 1 0 0) s m args below meth c H locs 0 0 (MQ below (QI D cA ev hr ad A (KX ++ tl) r g) args s 0 0 A) (F0 m 4 ls [])) (C : CX p s m args meth c RX2 yX2_rowsOf cX2_rowsOf 4 (some .int) D cA) (hx : HX hr ad) {H : Heap} {locs : List Loc} {x2 : Int32} {x3 : Int32} (hw : WS D cA ev hr ad A (KX ++ tl) s H locs g) {ls : Array Slot} (hl : lv_has ls 4 [(0, .ref (ad 6)), (1, .int x1), (2, .int x2), (3, .int x3)]) (h : F_X2_rowsOf_s_4B x1 g kb4 (x2, x3) = some r) : W p l e (RM 1 0 0) s m args below meth c H locs 0 0 (MQ below (QI D cA ev hr ad A (KX ++ tl) r g) args s 0 0 A) (F0 m 4 ls []) := by
  refine lv_iload_n C.1.1 C.1.2.1 dX2_rowsOf_4 rfl (lv_at hl 3 rfl) ?_
  refine lv_aload_n C.1.1 C.1.2.1 dX2_rowsOf_5 rfl (lv_at hl 0 rfl) ?_
  refine r_getI C hw (kx6 _) fX2_47 rfl dX2_rowsOf_6 ?_
  refine lv_icmp_ge (tgt := 34) C.1.1 C.1.2.1 dX2_rowsOf_9 (by decide) (fun hc => ?_) (fun hc => ?_)
  · replace h := ite_pos' h hc
    refine lv_iload_n C.1.1 C.1.2.1 dX2_rowsOf_34 rfl (lv_at hl 2 rfl) ?_
    cases h
    exact r_iret C hw (Or.inl rfl) dX2_rowsOf_35
  · replace h := ite_neg' h hc
    refine lv_aload_n C.1.1 C.1.2.1 dX2_rowsOf_12 rfl (lv_at hl 0 rfl) ?_
    refine r_getR (v := .ref (ad 12)) C hw (kx6 _) fX2_28 rfl (hx6_7 hx) dX2_rowsOf_13 ?_
    refine lv_iload_n C.1.1 C.1.2.1 dX2_rowsOf_16 rfl (lv_at hl 3 rfl) ?_
    obtain ⟨hz, h⟩ := ck_some h
    refine r_iald C hw (kx12 _) (inB_in hz) dX2_rowsOf_17 ?_
    refine lv_iload_n C.1.1 C.1.2.1 dX2_rowsOf_18 rfl (lv_at hl 1 rfl) ?_
    refine lv_icmp_ne (tgt := 28) C.1.1 C.1.2.1 dX2_rowsOf_19 (by decide) (fun hc => ?_) (fun hc => ?_)
    · replace h := ite_neg' h hc
      exact w_X2_rowsOf_s_28 kb4 hk4 C hx hw hl h
    · replace h := ite_pos' h hc
      refine lv_iload_n C.1.1 C.1.2.1 dX2_rowsOf_22 rfl (lv_at hl 2 rfl) ?_
      refine lv_iconst (v := 1) C.1.1 C.1.2.1 dX2_rowsOf_23 (by decide) ?_
      refine lv_iload_n C.1.1 C.1.2.1 dX2_rowsOf_24 rfl (lv_at hl 3 rfl) ?_
      refine lv_ishl C.1.1 C.1.2.1 dX2_rowsOf_25 ?_
      refine lv_ior C.1.1 C.1.2.1 dX2_rowsOf_26 ?_
      refine lv_istore_n (lv' := [(2, .int (x2 ||| (1 <<< (x3 &&& 31)))), (0, .ref (ad 6)), (1, .int x1), (3, .int x3)]) C.1.1 C.1.2.1 dX2_rowsOf_27 rfl hl (by decide) rfl (fun ls hl => ?_)
      refine lt_gen (P := fun x => lv_has ls 4 [(2, .int x), (0, .ref (ad 6)), (1, .int x1), (3, .int x3)]) h hl (fun x2_2 h hl => ?_)
      exact w_X2_rowsOf_s_28 kb4 hk4 C hx hw (lv_sub hl [1, 2, 0, 3] rfl) h
set_option maxHeartbeats 4000000 in
set_option maxRecDepth 100000 in
theorem w_X2_rowsOf_s_4L {x1 : Int32} {g : GM} {r : Int32} (C : CX p s m args meth c RX2 yX2_rowsOf cX2_rowsOf 4 (some .int) D cA) (hx : HX hr ad) : ∀ (n : Nat) (x2 : Int32) (x3 : Int32) (H : Heap) (locs : List Loc) (ls : Array Slot), WS D cA ev hr ad A (KX ++ tl) s H locs g → lv_has ls 4 [(0, .ref (ad 6)), (1, .int x1), (2, .int x2), (3, .int x3)] → fixN (F_X2_rowsOf_s_4B x1 g) n (x2, x3) = some r → W p l e (RM 1 0 0) s m args below meth c H locs 0 0 (MQ below (QI D cA ev hr ad A (KX ++ tl) r g) args s 0 0 A) (F0 m 4 ls []) := by
  intro n
  induction n with
  | zero => intro x2 x3 H locs ls hw hl h; exact (fix_zero h).elim
  | succ n ih => intro x2 x3 H locs ls hw hl h; exact w_X2_rowsOf_s_4 (fixN (F_X2_rowsOf_s_4B x1 g) n) ih C hx hw hl h
set_option maxHeartbeats 4000000 in
set_option maxRecDepth 100000 in
theorem w_X2_rowsOf_s_0 (C : CX p s m args meth c RX2 yX2_rowsOf cX2_rowsOf 4 (some .int) D cA) (hx : HX hr ad) {H : Heap} {locs : List Loc} {g : GM} (hw : WS D cA ev hr ad A (KX ++ tl) s H locs g) {a1 : Int32} {ls : Array Slot} (hl : lv_has ls 4 [(0, .ref (ad 6)), (1, .int a1)]) {r : Int32} (h : F_X2_rowsOf_s a1 g = some r) : W p l e (RM 1 0 0) s m args below meth c H locs 0 0 (MQ below (QI D cA ev hr ad A (KX ++ tl) r g) args s 0 0 A) (F0 m 0 ls []) := by
  refine lv_iconst (v := 0) C.1.1 C.1.2.1 dX2_rowsOf_0 (by decide) ?_
  refine lv_istore_n (lv' := [(2, .int 0), (0, .ref (ad 6)), (1, .int a1)]) C.1.1 C.1.2.1 dX2_rowsOf_1 rfl hl (by decide) rfl (fun ls hl => ?_)
  refine lv_iconst (v := 0) C.1.1 C.1.2.1 dX2_rowsOf_2 (by decide) ?_
  refine lv_istore_n (lv' := [(3, .int 0), (2, .int 0), (0, .ref (ad 6)), (1, .int a1)]) C.1.1 C.1.2.1 dX2_rowsOf_3 rfl hl (by decide) rfl (fun ls hl => ?_)
  exact w_X2_rowsOf_s_4L C hx FU _ _ _ _ _ hw (lv_sub hl [2, 3, 1, 0] rfl) h
set_option maxHeartbeats 4000000 in
set_option maxRecDepth 100000 in
theorem c_X2_rowsOf_s (hx : HX hr ad) {a1 : Int32} {g : GM} {r : Int32} (h : F_X2_rowsOf_s a1 g = some r) (sz : Nat) : Met l yX2_rowsOf (WSX yX2_rowsOf cX2_rowsOf 4 (some .int)) (RM 1 0 0) (va_Pc [.ref (ad 6), .int a1] (PX D cA ev hr ad (KX ++ tl) g sz)) (QI D cA ev hr ad (AX ad (KX ++ tl).length sz) (KX ++ tl) r g) 0 0 (AX ad (KX ++ tl).length sz) :=
  met_of (own := RX2) pnX2 rfl (Nat.le_of_ble_eq_true rfl) (fun p e s m below meth c ls C hw hsz hl => w_X2_rowsOf_s_0 C hx hw hl h)
set_option maxHeartbeats 4000000 in
set_option maxRecDepth 100000 in
theorem w_X1_clear_d_0 (C : CX p s m args meth c RX1 yX1_clear cX1_clear 1 none D cA) (hx : HX hr ad) {H : Heap} {locs : List Loc} {g : GM} (hw : WS D cA ev hr ad A (KX ++ tl) s H locs g) {ls : Array Slot} (hl : lv_has ls 1 [(0, .ref (ad 28))]) {gz : GM} (h : F_X1_clear_d g = some gz) : W p l e (RM 1 0 0) s m args below meth c H locs 0 0 (MQ below (QV D cA ev hr ad A (KX ++ tl) gz) args s 0 0 A) (F0 m 0 ls []) := by
  refine lv_aload_n C.1.1 C.1.2.1 dX1_clear_0 rfl (lv_at hl 0 rfl) ?_
  refine lv_iconst (v := 0) C.1.1 C.1.2.1 dX1_clear_1 (by decide) ?_
  refine r_putI C hw (kx28 _) fX1_31 rfl rfl (Or.inl rfl) dX1_clear_2 (fun H locs hw => ?_)
  refine lt_gen (P := fun g => WS D cA ev hr ad A (KX ++ tl) s H locs g) h hw (fun g_1 h hw => ?_)
  refine lv_aload_n C.1.1 C.1.2.1 dX1_clear_5 rfl (lv_at hl 0 rfl) ?_
  refine lv_iconst (v := 0) C.1.1 C.1.2.1 dX1_clear_6 (by decide) ?_
  refine r_putI C hw (kx28 _) fX1_35 rfl rfl (Or.inl rfl) dX1_clear_7 (fun H locs hw => ?_)
  refine lt_gen (P := fun g => WS D cA ev hr ad A (KX ++ tl) s H locs g) h hw (fun g_2 h hw => ?_)
  cases h
  exact r_vret C hw rfl dX1_clear_10
set_option maxHeartbeats 4000000 in
set_option maxRecDepth 100000 in
theorem c_X1_clear_d (hx : HX hr ad) {g : GM} {gz : GM} (h : F_X1_clear_d g = some gz) (sz : Nat) : Met l yX1_clear (WSX yX1_clear cX1_clear 1 none) (RM 1 0 0) (va_Pc [.ref (ad 28)] (PX D cA ev hr ad (KX ++ tl) g sz)) (QV D cA ev hr ad (AX ad (KX ++ tl).length sz) (KX ++ tl) gz) 0 0 (AX ad (KX ++ tl).length sz) :=
  met_of (own := RX1) pnX1 rfl (Nat.le_of_ble_eq_true rfl) (fun p e s m below meth c ls C hw hsz hl => w_X1_clear_d_0 C hx hw hl h)
set_option maxHeartbeats 4000000 in
set_option maxRecDepth 100000 in
theorem w_X1_clear_e_0 (C : CX p s m args meth c RX1 yX1_clear cX1_clear 1 none D cA) (hx : HX hr ad) {H : Heap} {locs : List Loc} {g : GM} (hw : WS D cA ev hr ad A (KX ++ tl) s H locs g) {ls : Array Slot} (hl : lv_has ls 1 [(0, .ref (ad 35))]) {gz : GM} (h : F_X1_clear_e g = some gz) : W p l e (RM 1 0 0) s m args below meth c H locs 0 0 (MQ below (QV D cA ev hr ad A (KX ++ tl) gz) args s 0 0 A) (F0 m 0 ls []) := by
  refine lv_aload_n C.1.1 C.1.2.1 dX1_clear_0 rfl (lv_at hl 0 rfl) ?_
  refine lv_iconst (v := 0) C.1.1 C.1.2.1 dX1_clear_1 (by decide) ?_
  refine r_putI C hw (kx35 _) fX1_31 rfl rfl (Or.inl rfl) dX1_clear_2 (fun H locs hw => ?_)
  refine lt_gen (P := fun g => WS D cA ev hr ad A (KX ++ tl) s H locs g) h hw (fun g_1 h hw => ?_)
  refine lv_aload_n C.1.1 C.1.2.1 dX1_clear_5 rfl (lv_at hl 0 rfl) ?_
  refine lv_iconst (v := 0) C.1.1 C.1.2.1 dX1_clear_6 (by decide) ?_
  refine r_putI C hw (kx35 _) fX1_35 rfl rfl (Or.inl rfl) dX1_clear_7 (fun H locs hw => ?_)
  refine lt_gen (P := fun g => WS D cA ev hr ad A (KX ++ tl) s H locs g) h hw (fun g_2 h hw => ?_)
  cases h
  exact r_vret C hw rfl dX1_clear_10
set_option maxHeartbeats 4000000 in
set_option maxRecDepth 100000 in
theorem c_X1_clear_e (hx : HX hr ad) {g : GM} {gz : GM} (h : F_X1_clear_e g = some gz) (sz : Nat) : Met l yX1_clear (WSX yX1_clear cX1_clear 1 none) (RM 1 0 0) (va_Pc [.ref (ad 35)] (PX D cA ev hr ad (KX ++ tl) g sz)) (QV D cA ev hr ad (AX ad (KX ++ tl).length sz) (KX ++ tl) gz) 0 0 (AX ad (KX ++ tl).length sz) :=
  met_of (own := RX1) pnX1 rfl (Nat.le_of_ble_eq_true rfl) (fun p e s m below meth c ls C hw hsz hl => w_X1_clear_e_0 C hx hw hl h)
set_option maxHeartbeats 4000000 in
set_option maxRecDepth 100000 in
theorem w_X1_wishesMetBy_d_41 {x1 : Int32} {x2 : Int32} {g : GM} {r : Int32} (kb2 : Int32 → Option (Int32)) (hk2 : ∀ (x2 : Int32) (H : Heap) (locs : List Loc) (ls : Array Slot), WS D cA ev hr ad A (KX ++ tl) s H locs g → lv_has ls 3 [(0, .ref (ad 28)), (1, .int x1), (2, .int x2)] → kb2 x2 = some r → W p l e (RM 2 0 0) s m args below meth c H locs 0 0 (MQ below (QI D cA ev hr ad A (KX ++ tl) r g) args s 0 0 A) (F0 m 2 ls [])) (C : CX p s m args meth c RX1 yX1_wishesMetBy cX1_wishesMetBy 3 (some .boolean) D cA) (hx : HX hr ad) {H : Heap} {locs : List Loc} (hw : WS D cA ev hr ad A (KX ++ tl) s H locs g) {ls : Array Slot} (hl : lv_has ls 3 [(0, .ref (ad 28)), (1, .int x1), (2, .int x2)]) (h : F_X1_wishesMetBy_d_41 kb2 x1 x2 g = some r) : W p l e (RM 2 0 0) s m args below meth c H locs 0 0 (MQ below (QI D cA ev hr ad A (KX ++ tl) r g) args s 0 0 A) (F0 m 41 ls []) := by
  refine lv_iinc (v := x2 + 1) (lv' := [(2, .int (x2 + 1)), (0, .ref (ad 28)), (1, .int x1)]) C.1.1 C.1.2.1 dX1_wishesMetBy_41 hl (k := 2) rfl rfl (by decide) rfl (fun ls hl => ?_)
  refine lt_gen (P := fun x => lv_has ls 3 [(2, .int x), (0, .ref (ad 28)), (1, .int x1)]) h hl (fun x2_1 h hl => ?_)
  refine lv_goto (tgt := 2) C.1.1 C.1.2.1 dX1_wishesMetBy_44 (by decide) ?_
  exact hk2 _ _ _ _ hw (lv_sub hl [1, 2, 0] rfl) h
set_option maxHeartbeats 4000000 in
set_option maxRecDepth 100000 in
theorem w_X1_wishesMetBy_d_2 {x1 : Int32} {g : GM} {r : Int32} (kb2 : Int32 → Option (Int32)) (hk2 : ∀ (x2 : Int32) (H : Heap) (locs : List Loc) (ls : Array Slot), WS D cA ev hr ad A (KX ++ tl) s H locs g → lv_has ls 3 [(0, .ref (ad 28)), (1, .int x1), (2, .int x2)] → kb2 x2 = some r → W p l e (RM 2 0 0) s m args below meth c H locs 0 0 (MQ below (QI D cA ev hr ad A (KX ++ tl) r g) args s 0 0 A) (F0 m 2 ls [])) (C : CX p s m args meth c RX1 yX1_wishesMetBy cX1_wishesMetBy 3 (some .boolean) D cA) (hx : HX hr ad) {H : Heap} {locs : List Loc} {x2 : Int32} (hw : WS D cA ev hr ad A (KX ++ tl) s H locs g) {ls : Array Slot} (hl : lv_has ls 3 [(0, .ref (ad 28)), (1, .int x1), (2, .int x2)]) (h : F_X1_wishesMetBy_d_2B x1 g kb2 x2 = some r) : W p l e (RM 2 0 0) s m args below meth c H locs 0 0 (MQ below (QI D cA ev hr ad A (KX ++ tl) r g) args s 0 0 A) (F0 m 2 ls []) := by
  refine lv_iload_n C.1.1 C.1.2.1 dX1_wishesMetBy_2 rfl (lv_at hl 2 rfl) ?_
  refine lv_aload_n C.1.1 C.1.2.1 dX1_wishesMetBy_3 rfl (lv_at hl 0 rfl) ?_
  refine r_getI C hw (kx28 _) fX1_35 rfl dX1_wishesMetBy_4 ?_
  refine lv_icmp_ge (tgt := 47) C.1.1 C.1.2.1 dX1_wishesMetBy_7 (by decide) (fun hc => ?_) (fun hc => ?_)
  · replace h := ite_pos' h hc
    refine lv_iconst (v := 1) C.1.1 C.1.2.1 dX1_wishesMetBy_47 (by decide) ?_
    cases h
    exact r_iret C hw (Or.inr ⟨rfl, Or.inr rfl⟩) dX1_wishesMetBy_48
  · replace h := ite_neg' h hc
    refine lv_aload_n C.1.1 C.1.2.1 dX1_wishesMetBy_10 rfl (lv_at hl 0 rfl) ?_
    refine r_getR (v := .ref (ad 32)) C hw (kx28 _) fX1_22 rfl (hx28_5 hx) dX1_wishesMetBy_11 ?_
    refine lv_iload_n C.1.1 C.1.2.1 dX1_wishesMetBy_14 rfl (lv_at hl 2 rfl) ?_
    obtain ⟨hz, h⟩ := ck_some h
    refine r_iald C hw (kx32 _) (inB_in hz) dX1_wishesMetBy_15 ?_
    refine lv_if_ne (tgt := 41) C.1.1 C.1.2.1 dX1_wishesMetBy_16 (by decide) (fun hc => ?_) (fun hc => ?_)
    · replace h := ite_neg' h hc
      exact w_X1_wishesMetBy_d_41 kb2 hk2 C hx hw hl h
    · replace h := ite_pos' h hc
      refine lv_aload_n C.1.1 C.1.2.1 dX1_wishesMetBy_19 rfl (lv_at hl 0 rfl) ?_
      refine r_getR (v := .ref (ad 34)) C hw (kx28 _) fX1_28 rfl (hx28_7 hx) dX1_wishesMetBy_20 ?_
      refine lv_iload_n C.1.1 C.1.2.1 dX1_wishesMetBy_23 rfl (lv_at hl 2 rfl) ?_
      obtain ⟨hz, h⟩ := ck_some h
      refine r_iald C hw (kx34 _) (inB_in hz) dX1_wishesMetBy_24 ?_
      refine lv_iload_n C.1.1 C.1.2.1 dX1_wishesMetBy_25 rfl (lv_at hl 1 rfl) ?_
      refine lv_iand C.1.1 C.1.2.1 dX1_wishesMetBy_26 ?_
      obtain ⟨r_2, hc, h⟩ := bnd_some h
      refine r_sI (dc := 1) (As := [.int ((gi g 34 x2.toNatClampNeg) &&& x1)]) (rest := []) C hw sX1_58 (fun sz => c_J6_bitCount_0f7a4 trivial hc sz) (by decide) rfl rfl hl.1 (Nat.le_of_ble_eq_true rfl) dX1_wishesMetBy_27 ⟨Nat.le_refl _, Nat.le_refl _⟩ (fun H locs hw => ?_)
      refine lv_aload_n C.1.1 C.1.2.1 dX1_wishesMetBy_30 rfl (lv_at hl 0 rfl) ?_
      refine r_getR (v := .ref (ad 33)) C hw (kx28 _) fX1_25 rfl (hx28_6 hx) dX1_wishesMetBy_31 ?_
      refine lv_iload_n C.1.1 C.1.2.1 dX1_wishesMetBy_34 rfl (lv_at hl 2 rfl) ?_
      obtain ⟨hz, h⟩ := ck_some h
      refine r_iald C hw (kx33 _) (inB_in hz) dX1_wishesMetBy_35 ?_
      refine lv_icmp_ge (tgt := 41) C.1.1 C.1.2.1 dX1_wishesMetBy_36 (by decide) (fun hc => ?_) (fun hc => ?_)
      · replace h := ite_pos' h hc
        exact w_X1_wishesMetBy_d_41 kb2 hk2 C hx hw hl h
      · replace h := ite_neg' h hc
        refine lv_iconst (v := 0) C.1.1 C.1.2.1 dX1_wishesMetBy_39 (by decide) ?_
        cases h
        exact r_iret C hw (Or.inr ⟨rfl, Or.inl rfl⟩) dX1_wishesMetBy_40
set_option maxHeartbeats 4000000 in
set_option maxRecDepth 100000 in
theorem w_X1_wishesMetBy_d_2L {x1 : Int32} {g : GM} {r : Int32} (C : CX p s m args meth c RX1 yX1_wishesMetBy cX1_wishesMetBy 3 (some .boolean) D cA) (hx : HX hr ad) : ∀ (n : Nat) (x2 : Int32) (H : Heap) (locs : List Loc) (ls : Array Slot), WS D cA ev hr ad A (KX ++ tl) s H locs g → lv_has ls 3 [(0, .ref (ad 28)), (1, .int x1), (2, .int x2)] → fixN (F_X1_wishesMetBy_d_2B x1 g) n x2 = some r → W p l e (RM 2 0 0) s m args below meth c H locs 0 0 (MQ below (QI D cA ev hr ad A (KX ++ tl) r g) args s 0 0 A) (F0 m 2 ls []) := by
  intro n
  induction n with
  | zero => intro x2 H locs ls hw hl h; exact (fix_zero h).elim
  | succ n ih => intro x2 H locs ls hw hl h; exact w_X1_wishesMetBy_d_2 (fixN (F_X1_wishesMetBy_d_2B x1 g) n) ih C hx hw hl h
set_option maxHeartbeats 4000000 in
set_option maxRecDepth 100000 in
theorem w_X1_wishesMetBy_d_0 (C : CX p s m args meth c RX1 yX1_wishesMetBy cX1_wishesMetBy 3 (some .boolean) D cA) (hx : HX hr ad) {H : Heap} {locs : List Loc} {g : GM} (hw : WS D cA ev hr ad A (KX ++ tl) s H locs g) {a1 : Int32} {ls : Array Slot} (hl : lv_has ls 3 [(0, .ref (ad 28)), (1, .int a1)]) {r : Int32} (h : F_X1_wishesMetBy_d a1 g = some r) : W p l e (RM 2 0 0) s m args below meth c H locs 0 0 (MQ below (QI D cA ev hr ad A (KX ++ tl) r g) args s 0 0 A) (F0 m 0 ls []) := by
  refine lv_iconst (v := 0) C.1.1 C.1.2.1 dX1_wishesMetBy_0 (by decide) ?_
  refine lv_istore_n (lv' := [(2, .int 0), (0, .ref (ad 28)), (1, .int a1)]) C.1.1 C.1.2.1 dX1_wishesMetBy_1 rfl hl (by decide) rfl (fun ls hl => ?_)
  exact w_X1_wishesMetBy_d_2L C hx FU _ _ _ _ hw (lv_sub hl [1, 2, 0] rfl) h
set_option maxHeartbeats 4000000 in
set_option maxRecDepth 100000 in
theorem c_X1_wishesMetBy_d (hx : HX hr ad) {a1 : Int32} {g : GM} {r : Int32} (h : F_X1_wishesMetBy_d a1 g = some r) (sz : Nat) : Met l yX1_wishesMetBy (WSX yX1_wishesMetBy cX1_wishesMetBy 3 (some .boolean)) (RM 2 0 0) (va_Pc [.ref (ad 28), .int a1] (PX D cA ev hr ad (KX ++ tl) g sz)) (QI D cA ev hr ad (AX ad (KX ++ tl).length sz) (KX ++ tl) r g) 0 0 (AX ad (KX ++ tl).length sz) :=
  met_of (own := RX1) pnX1 rfl (Nat.le_of_ble_eq_true rfl) (fun p e s m below meth c ls C hw hsz hl => w_X1_wishesMetBy_d_0 C hx hw hl h)
set_option maxHeartbeats 4000000 in
set_option maxRecDepth 100000 in
theorem w_X1_addWish_e_0 (C : CX p s m args meth c RX1 yX1_addWish cX1_addWish 4 none D cA) (hx : HX hr ad) {H : Heap} {locs : List Loc} {g : GM} (hw : WS D cA ev hr ad A (KX ++ tl) s H locs g) {a1 : Int32} {a2 : Int32} {a3 : Int32} {ls : Array Slot} (hl : lv_has ls 4 [(0, .ref (ad 35)), (1, .int a1), (2, .int a2), (3, .int a3)]) {gz : GM} (h : F_X1_addWish_e a1 a2 a3 g = some gz) : W p l e (RM 2 0 0) s m args below meth c H locs 0 0 (MQ below (QV D cA ev hr ad A (KX ++ tl) gz) args s 0 0 A) (F0 m 0 ls []) := by
  refine lv_aload_n C.1.1 C.1.2.1 dX1_addWish_0 rfl (lv_at hl 0 rfl) ?_
  refine lv_iconst (v := 0) C.1.1 C.1.2.1 dX1_addWish_1 (by decide) ?_
  refine lv_iload_n C.1.1 C.1.2.1 dX1_addWish_2 rfl (lv_at hl 1 rfl) ?_
  refine lv_iload_n C.1.1 C.1.2.1 dX1_addWish_3 rfl (lv_at hl 3 rfl) ?_
  obtain ⟨g_1, hc, h⟩ := bnd_some h
  refine r_vV (dc := 1) (As := [.int 0, .int a1, .int a3]) (rest := []) C hw vX1_38 (kx35 _) (by decide) rfl (fun sz => c_X1_addDemand_e hx hc sz) (by decide) rfl rfl hl.1 (Nat.le_of_ble_eq_true rfl) dX1_addWish_4 ⟨Nat.le_refl _, Nat.le_refl _⟩ (fun H locs hw => ?_)
  refine lv_aload_n C.1.1 C.1.2.1 dX1_addWish_7 rfl (lv_at hl 0 rfl) ?_
  refine lv_iconst (v := 0) C.1.1 C.1.2.1 dX1_addWish_8 (by decide) ?_
  refine lv_iload_n C.1.1 C.1.2.1 dX1_addWish_9 rfl (lv_at hl 2 rfl) ?_
  refine lv_iload_n C.1.1 C.1.2.1 dX1_addWish_10 rfl (lv_at hl 3 rfl) ?_
  obtain ⟨g_2, hc, h⟩ := bnd_some h
  refine r_vV (dc := 1) (As := [.int 0, .int a2, .int a3]) (rest := []) C hw vX1_42 (kx35 _) (by decide) rfl (fun sz => c_X1_addBond_e hx hc sz) (by decide) rfl rfl hl.1 (Nat.le_of_ble_eq_true rfl) dX1_addWish_11 ⟨Nat.le_refl _, Nat.le_refl _⟩ (fun H locs hw => ?_)
  cases h
  exact r_vret C hw rfl dX1_addWish_14
set_option maxHeartbeats 4000000 in
set_option maxRecDepth 100000 in
theorem c_X1_addWish_e (hx : HX hr ad) {a1 : Int32} {a2 : Int32} {a3 : Int32} {g : GM} {gz : GM} (h : F_X1_addWish_e a1 a2 a3 g = some gz) (sz : Nat) : Met l yX1_addWish (WSX yX1_addWish cX1_addWish 4 none) (RM 2 0 0) (va_Pc [.ref (ad 35), .int a1, .int a2, .int a3] (PX D cA ev hr ad (KX ++ tl) g sz)) (QV D cA ev hr ad (AX ad (KX ++ tl).length sz) (KX ++ tl) gz) 0 0 (AX ad (KX ++ tl).length sz) :=
  met_of (own := RX1) pnX1 rfl (Nat.le_of_ble_eq_true rfl) (fun p e s m below meth c ls C hw hsz hl => w_X1_addWish_e_0 C hx hw hl h)
set_option maxHeartbeats 4000000 in
set_option maxRecDepth 100000 in
theorem w_J7_fill_53178_4_5 {x1 : Int32} {x3 : Int32} {gz : GM} (kb5 : Int32 × GM → Option (GM)) (hk5 : ∀ (x2 : Int32) (g : GM) (H : Heap) (locs : List Loc) (ls : Array Slot), WS D cA ev hr ad A (KX ++ tl) s H locs g → lv_has ls 4 [(0, .ref (ad 4)), (1, .int x1), (2, .int x2), (3, .int x3)] → kb5 (x2, g) = some gz → W p l e (RM 1 0 0) s m args below meth c H locs 0 0 (MQ below (QV D cA ev hr ad A (KX ++ tl) gz) args s 0 0 A) (F0 m 5 ls [])) (C : CX p s m args meth c RJ7 yJ7_fill_53178 cJ7_fill_53178 4 none D cA) (hx : HX hr ad) {H : Heap} {locs : List Loc} {x2 : Int32} {g : GM} (hw : WS D cA ev hr ad A (KX ++ tl) s H locs g) {ls : Array Slot} (hl : lv_has ls 4 [(0, .ref (ad 4)), (1, .int x1), (2, .int x2), (3, .int x3)]) (h : F_J7_fill_53178_4_5B x1 x3 kb5 (x2, g) = some gz) : W p l e (RM 1 0 0) s m args below meth c H locs 0 0 (MQ below (QV D cA ev hr ad A (KX ++ tl) gz) args s 0 0 A) (F0 m 5 ls []) := by
  refine lv_iload_n C.1.1 C.1.2.1 dJ7_fill_53178_5 rfl (lv_at hl 2 rfl) ?_
  refine lv_iload_n C.1.1 C.1.2.1 dJ7_fill_53178_6 rfl (lv_at hl 3 rfl) ?_
  refine lv_icmp_ge (tgt := 20) C.1.1 C.1.2.1 dJ7_fill_53178_7 (by decide) (fun hc => ?_) (fun hc => ?_)
  · replace h := ite_pos' h hc
    cases h
    exact r_vret C hw rfl dJ7_fill_53178_20
  · replace h := ite_neg' h hc
    refine lv_aload_n C.1.1 C.1.2.1 dJ7_fill_53178_10 rfl (lv_at hl 0 rfl) ?_
    refine lv_iload_n C.1.1 C.1.2.1 dJ7_fill_53178_11 rfl (lv_at hl 2 rfl) ?_
    refine lv_iload_n C.1.1 C.1.2.1 dJ7_fill_53178_12 rfl (lv_at hl 1 rfl) ?_
    obtain ⟨hz, h⟩ := ck_some h
    refine r_iast C hw (kx4 _) (inB_in hz) dJ7_fill_53178_13 (fun H locs hw => ?_)
    refine lt_gen (P := fun g => WS D cA ev hr ad A (KX ++ tl) s H locs g) h hw (fun g_1 h hw => ?_)
    refine lv_iinc (v := x2 + 1) (lv' := [(2, .int (x2 + 1)), (0, .ref (ad 4)), (1, .int x1), (3, .int x3)]) C.1.1 C.1.2.1 dJ7_fill_53178_14 hl (k := 2) rfl rfl (by decide) rfl (fun ls hl => ?_)
    refine lt_gen (P := fun x => lv_has ls 4 [(2, .int x), (0, .ref (ad 4)), (1, .int x1), (3, .int x3)]) h hl (fun x2_2 h hl => ?_)
    refine lv_goto (tgt := 5) C.1.1 C.1.2.1 dJ7_fill_53178_17 (by decide) ?_
    exact hk5 _ _ _ _ _ hw (lv_sub hl [1, 2, 0, 3] rfl) h
set_option maxHeartbeats 4000000 in
set_option maxRecDepth 100000 in
theorem w_J7_fill_53178_4_5L {x1 : Int32} {x3 : Int32} {gz : GM} (C : CX p s m args meth c RJ7 yJ7_fill_53178 cJ7_fill_53178 4 none D cA) (hx : HX hr ad) : ∀ (n : Nat) (x2 : Int32) (g : GM) (H : Heap) (locs : List Loc) (ls : Array Slot), WS D cA ev hr ad A (KX ++ tl) s H locs g → lv_has ls 4 [(0, .ref (ad 4)), (1, .int x1), (2, .int x2), (3, .int x3)] → fixN (F_J7_fill_53178_4_5B x1 x3) n (x2, g) = some gz → W p l e (RM 1 0 0) s m args below meth c H locs 0 0 (MQ below (QV D cA ev hr ad A (KX ++ tl) gz) args s 0 0 A) (F0 m 5 ls []) := by
  intro n
  induction n with
  | zero => intro x2 g H locs ls hw hl h; exact (fix_zero h).elim
  | succ n ih => intro x2 g H locs ls hw hl h; exact w_J7_fill_53178_4_5 (fixN (F_J7_fill_53178_4_5B x1 x3) n) ih C hx hw hl h
set_option maxHeartbeats 4000000 in
set_option maxRecDepth 100000 in
theorem w_J7_fill_53178_4_0 (C : CX p s m args meth c RJ7 yJ7_fill_53178 cJ7_fill_53178 4 none D cA) (hx : HX hr ad) {H : Heap} {locs : List Loc} {g : GM} (hw : WS D cA ev hr ad A (KX ++ tl) s H locs g) {a1 : Int32} {ls : Array Slot} (hl : lv_has ls 4 [(0, .ref (ad 4)), (1, .int a1)]) {gz : GM} (h : F_J7_fill_53178_4 a1 g = some gz) : W p l e (RM 1 0 0) s m args below meth c H locs 0 0 (MQ below (QV D cA ev hr ad A (KX ++ tl) gz) args s 0 0 A) (F0 m 0 ls []) := by
  refine lv_iconst (v := 0) C.1.1 C.1.2.1 dJ7_fill_53178_0 (by decide) ?_
  refine lv_istore_n (lv' := [(2, .int 0), (0, .ref (ad 4)), (1, .int a1)]) C.1.1 C.1.2.1 dJ7_fill_53178_1 rfl hl (by decide) rfl (fun ls hl => ?_)
  refine lv_aload_n C.1.1 C.1.2.1 dJ7_fill_53178_2 rfl (lv_at hl 1 rfl) ?_
  refine r_alen (ty := .int) (v := 25) C hw (kx4 _) (by decide) (by decide) dJ7_fill_53178_3 ?_
  refine lv_istore_n (lv' := [(3, .int 25), (2, .int 0), (0, .ref (ad 4)), (1, .int a1)]) C.1.1 C.1.2.1 dJ7_fill_53178_4 rfl hl (by decide) rfl (fun ls hl => ?_)
  exact w_J7_fill_53178_4_5L C hx FU _ _ _ _ _ hw (lv_sub hl [2, 3, 1, 0] rfl) h
set_option maxHeartbeats 4000000 in
set_option maxRecDepth 100000 in
theorem c_J7_fill_53178_4 (hx : HX hr ad) {a1 : Int32} {g : GM} {gz : GM} (h : F_J7_fill_53178_4 a1 g = some gz) (sz : Nat) : Met l yJ7_fill_53178 (WSX yJ7_fill_53178 cJ7_fill_53178 4 none) (RM 1 0 0) (va_Pc [.ref (ad 4), .int a1] (PX D cA ev hr ad (KX ++ tl) g sz)) (QV D cA ev hr ad (AX ad (KX ++ tl).length sz) (KX ++ tl) gz) 0 0 (AX ad (KX ++ tl).length sz) :=
  met_ofF (own := RJ7) (by decide +kernel) rfl (Nat.le_of_ble_eq_true rfl) (fun p e s m below meth c ls C hw hsz hl => w_J7_fill_53178_4_0 C hx hw hl h)
end WX2

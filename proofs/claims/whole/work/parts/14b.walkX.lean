section WX1
variable {p : Program} {l : Launch} {e : Env} {s : State} {m : MethodId} {args : Array Value} {below : List Frame} {meth : Method} {c : Code} {D : va_G} {cA : Nat → ClassId} {ev : EVa} {hr : Nat → Nat → Value} {ad : Nat → Nat} {A : Nat → Prop} {tl : List (Nat × Nat)}
set_option maxHeartbeats 4000000 in
set_option maxRecDepth 100000 in
theorem w_X3_readValue_76 {x1 : Int32} {x2 : Int32} {g : GM} {gz : GM} (C : CX p s m args meth c RX3 yX3_readValue cX3_readValue 5 none D cA) (hx : HS hr ad) {H : Heap} {locs : List Loc} (hw : WS D cA ev hr ad A (KX ++ [(3, 2)]) s H locs g) {ls : Array Slot} (hl : lv_has ls 5 [(0, .ref (ad 42)), (1, .int x1), (2, .int x2)]) (h : F_X3_readValue_76 x1 x2 g = some gz) : W p l e (RM 10 0 0) s m args below meth c H locs 0 0 (MQ below (QV D cA ev hr ad A (KX ++ [(3, 2)]) gz) args s 0 0 A) (F0 m 76 ls []) := by
  refine lv_aload_n C.1.1 C.1.2.1 dX3_readValue_76 rfl (lv_at hl 0 rfl) ?_
  refine r_getR (v := .ref (ad 1)) C hw kLS42 fX3_9 rfl hx.2.1 dX3_readValue_77 ?_
  refine r_getI C hw (kx1 _) fX3_132 rfl dX3_readValue_80 ?_
  refine lv_istore (lv' := [(4, .int (gi g 1 7)), (0, .ref (ad 42)), (1, .int x1), (2, .int x2)]) C.1.1 C.1.2.1 dX3_readValue_83 hl (by decide) rfl (fun ls hl => ?_)
  refine lt_gen (P := fun x => lv_has ls 5 [(4, .int x), (0, .ref (ad 42)), (1, .int x1), (2, .int x2)]) h hl (fun x4_1 h hl => ?_)
  refine lv_aload_n C.1.1 C.1.2.1 dX3_readValue_85 rfl (lv_at hl 1 rfl) ?_
  refine r_getR (v := .ref (ad 17)) C hw kLS42 fX3_15 rfl hx.2.2 dX3_readValue_86 ?_
  refine r_getR (v := .ref (ad 26)) C hw (kx17 _) fX3_135 rfl (hx17_10 hx.1) dX3_readValue_89 ?_
  refine lv_iload_n C.1.1 C.1.2.1 dX3_readValue_92 rfl (lv_at hl 2 rfl) ?_
  refine lv_iload_n C.1.1 C.1.2.1 dX3_readValue_93 rfl (lv_at hl 3 rfl) ?_
  obtain ⟨r_2, hc, h⟩ := bnd_some h
  refine r_nI (dc := 1) (As := [.int x1, .int x2]) (rest := [.ref (ad 26)]) C hw nX3_102 (fun sz => c_X6_slot hx.1 hc sz) (by decide) rfl rfl hl.1 (Nat.le_of_ble_eq_true rfl) dX3_readValue_94 ⟨Nat.le_refl _, Nat.le_refl _⟩ (fun H locs hw => ?_)
  refine lv_aload_n C.1.1 C.1.2.1 dX3_readValue_97 rfl (lv_at hl 1 rfl) ?_
  refine r_getR (v := .ref (ad 1)) C hw kLS42 fX3_9 rfl hx.2.1 dX3_readValue_98 ?_
  refine r_getI C hw (kx1 _) fX3_70 rfl dX3_readValue_101 ?_
  obtain ⟨hz, h⟩ := ck_some h
  refine r_iast C hw (kx26 _) (inB_in hz) dX3_readValue_104 (fun H locs hw => ?_)
  refine lt_gen (P := fun g => WS D cA ev hr ad A (KX ++ [(3, 2)]) s H locs g) h hw (fun g_3 h hw => ?_)
  refine lv_aload_n C.1.1 C.1.2.1 dX3_readValue_105 rfl (lv_at hl 1 rfl) ?_
  refine r_getR (v := .ref (ad 1)) C hw kLS42 fX3_9 rfl hx.2.1 dX3_readValue_106 ?_
  refine lv_iconst (v := 3) C.1.1 C.1.2.1 dX3_readValue_109 (by decide) ?_
  obtain ⟨⟨r_4, g_5⟩, hc, h⟩ := bnd_some h
  refine r_vI (dc := 9) (As := [.int 3]) (rest := []) C hw vX3_77 (kx1 _) (by decide) rfl (fun sz => c_X4_take hx.1 hc sz) (by decide) rfl rfl hl.1 (Nat.le_of_ble_eq_true rfl) dX3_readValue_110 ⟨Nat.le_refl _, Nat.le_refl _⟩ (fun H locs hw => ?_)
  refine lv_if_eq (tgt := 131) C.1.1 C.1.2.1 dX3_readValue_113 (by decide) (fun hc => ?_) (fun hc => ?_)
  · replace h := ite_pos' h hc
    cases h
    exact r_vret C hw rfl dX3_readValue_131
  · replace h := ite_neg' h hc
    refine lv_aload_n C.1.1 C.1.2.1 dX3_readValue_116 rfl (lv_at hl 1 rfl) ?_
    refine r_getR (v := .ref (ad 17)) C hw kLS42 fX3_15 rfl hx.2.2 dX3_readValue_117 ?_
    refine r_getR (v := .ref (ad 25)) C hw (kx17 _) fX3_138 rfl (hx17_9 hx.1) dX3_readValue_120 ?_
    refine lv_iload_n C.1.1 C.1.2.1 dX3_readValue_123 rfl (lv_at hl 2 rfl) ?_
    refine lv_iload_n C.1.1 C.1.2.1 dX3_readValue_124 rfl (lv_at hl 3 rfl) ?_
    obtain ⟨r_6, hc, h⟩ := bnd_some h
    refine r_nI (dc := 1) (As := [.int x1, .int x2]) (rest := [.ref (ad 25)]) C hw nX3_102 (fun sz => c_X6_slot hx.1 hc sz) (by decide) rfl rfl hl.1 (Nat.le_of_ble_eq_true rfl) dX3_readValue_125 ⟨Nat.le_refl _, Nat.le_refl _⟩ (fun H locs hw => ?_)
    refine lv_iload C.1.1 C.1.2.1 dX3_readValue_128 (lv_at hl 0 rfl) ?_
    obtain ⟨hz, h⟩ := ck_some h
    refine r_iast C hw (kx25 _) (inB_in hz) dX3_readValue_130 (fun H locs hw => ?_)
    refine lt_gen (P := fun g => WS D cA ev hr ad A (KX ++ [(3, 2)]) s H locs g) h hw (fun g_7 h hw => ?_)
    cases h
    exact r_vret C hw rfl dX3_readValue_131
set_option maxHeartbeats 4000000 in
set_option maxRecDepth 100000 in
theorem w_X3_readValue_0 (C : CX p s m args meth c RX3 yX3_readValue cX3_readValue 5 none D cA) (hx : HS hr ad) {H : Heap} {locs : List Loc} {g : GM} (hw : WS D cA ev hr ad A (KX ++ [(3, 2)]) s H locs g) {a1 : Int32} {a2 : Int32} {ls : Array Slot} (hl : lv_has ls 5 [(0, .ref (ad 42)), (1, .int a1), (2, .int a2)]) {gz : GM} (h : F_X3_readValue a1 a2 g = some gz) : W p l e (RM 10 0 0) s m args below meth c H locs 0 0 (MQ below (QV D cA ev hr ad A (KX ++ [(3, 2)]) gz) args s 0 0 A) (F0 m 0 ls []) := by
  refine lv_aload_n C.1.1 C.1.2.1 dX3_readValue_0 rfl (lv_at hl 0 rfl) ?_
  refine r_getR (v := .ref (ad 17)) C hw kLS42 fX3_15 rfl hx.2.2 dX3_readValue_1 ?_
  refine r_getR (v := .ref (ad 23)) C hw (kx17 _) fX3_116 rfl (hx17_7 hx.1) dX3_readValue_4 ?_
  refine lv_iload_n C.1.1 C.1.2.1 dX3_readValue_7 rfl (lv_at hl 1 rfl) ?_
  obtain ⟨hz, h⟩ := ck_some h
  refine r_iald C hw (kx23 _) (inB_in hz) dX3_readValue_8 ?_
  refine lv_istore_n (lv' := [(3, .int (gi g 23 a1.toNatClampNeg)), (0, .ref (ad 42)), (1, .int a1), (2, .int a2)]) C.1.1 C.1.2.1 dX3_readValue_9 rfl hl (by decide) rfl (fun ls hl => ?_)
  refine lt_gen (P := fun x => lv_has ls 5 [(3, .int x), (0, .ref (ad 42)), (1, .int a1), (2, .int a2)]) h hl (fun x3_8 h hl => ?_)
  refine lv_aload_n C.1.1 C.1.2.1 dX3_readValue_10 rfl (lv_at hl 1 rfl) ?_
  refine r_getR (v := .ref (ad 17)) C hw kLS42 fX3_15 rfl hx.2.2 dX3_readValue_11 ?_
  refine lv_iload_n C.1.1 C.1.2.1 dX3_readValue_14 rfl (lv_at hl 0 rfl) ?_
  refine lv_iload_n C.1.1 C.1.2.1 dX3_readValue_15 rfl (lv_at hl 3 rfl) ?_
  obtain ⟨r_9, hc, h⟩ := bnd_some h
  refine r_vI (dc := 1) (As := [.int x3_8, .int a2]) (rest := []) C hw vX3_125 (kx17 _) (by decide) rfl (fun sz => c_X2_hasColumn_p hx.1 hc sz) (by decide) rfl rfl hl.1 (Nat.le_of_ble_eq_true rfl) dX3_readValue_16 ⟨Nat.le_refl _, Nat.le_refl _⟩ (fun H locs hw => ?_)
  refine lv_if_ne (tgt := 30) C.1.1 C.1.2.1 dX3_readValue_19 (by decide) (fun hc => ?_) (fun hc => ?_)
  · replace h := ite_neg' h hc
    refine lv_aload_n C.1.1 C.1.2.1 dX3_readValue_30 rfl (lv_at hl 1 rfl) ?_
    refine r_getR (v := .ref (ad 1)) C hw kLS42 fX3_9 rfl hx.2.1 dX3_readValue_31 ?_
    refine r_getI C hw (kx1 _) fX3_34 rfl dX3_readValue_34 ?_
    refine lv_bipush (v := 45) C.1.1 C.1.2.1 dX3_readValue_37 (by decide) ?_
    refine lv_icmp_ne (tgt := 50) C.1.1 C.1.2.1 dX3_readValue_39 (by decide) (fun hc => ?_) (fun hc => ?_)
    · replace h := ite_neg' h hc
      refine lv_aload_n C.1.1 C.1.2.1 dX3_readValue_50 rfl (lv_at hl 1 rfl) ?_
      refine r_getR (v := .ref (ad 17)) C hw kLS42 fX3_15 rfl hx.2.2 dX3_readValue_51 ?_
      refine lv_iload_n C.1.1 C.1.2.1 dX3_readValue_54 rfl (lv_at hl 0 rfl) ?_
      refine lv_iload_n C.1.1 C.1.2.1 dX3_readValue_55 rfl (lv_at hl 3 rfl) ?_
      obtain ⟨r_10, hc, h⟩ := bnd_some h
      refine r_vI (dc := 2) (As := [.int x3_8, .int a2]) (rest := []) C hw vX3_129 (kx17 _) (by decide) rfl (fun sz => c_X2_target_p hx.1 hc sz) (by decide) rfl rfl hl.1 (Nat.le_of_ble_eq_true rfl) dX3_readValue_56 ⟨Nat.le_refl _, Nat.le_refl _⟩ (fun H locs hw => ?_)
      refine lv_iconst (v := (-1)) C.1.1 C.1.2.1 dX3_readValue_59 (by decide) ?_
      refine lv_icmp_eq (tgt := 76) C.1.1 C.1.2.1 dX3_readValue_60 (by decide) (fun hc => ?_) (fun hc => ?_)
      · replace h := ite_pos' h hc
        exact w_X3_readValue_76 C hx hw (lv_sub hl [1, 2, 3] rfl) h
      · replace h := ite_neg' h hc
        refine lv_aload_n C.1.1 C.1.2.1 dX3_readValue_63 rfl (lv_at hl 1 rfl) ?_
        refine r_getR (v := .ref (ad 1)) C hw kLS42 fX3_9 rfl hx.2.1 dX3_readValue_64 ?_
        refine lv_bipush (v := 35) C.1.1 C.1.2.1 dX3_readValue_67 (by decide) ?_
        obtain ⟨⟨r_11, g_12⟩, hc, h⟩ := bnd_some h
        refine r_vI (dc := 9) (As := [.int 35]) (rest := []) C hw vX3_77 (kx1 _) (by decide) rfl (fun sz => c_X4_take hx.1 hc sz) (by decide) rfl rfl hl.1 (Nat.le_of_ble_eq_true rfl) dX3_readValue_69 ⟨Nat.le_refl _, Nat.le_refl _⟩ (fun H locs hw => ?_)
        refine lv_if_ne (tgt := 76) C.1.1 C.1.2.1 dX3_readValue_72 (by decide) (fun hc => ?_) (fun hc => ?_)
        · replace h := ite_neg' h hc
          exact w_X3_readValue_76 C hx hw (lv_sub hl [1, 2, 3] rfl) h
        · replace h := ite_pos' h hc
          cases h
          exact r_vret C hw rfl dX3_readValue_75
    · replace h := ite_pos' h hc
      refine lv_aload_n C.1.1 C.1.2.1 dX3_readValue_42 rfl (lv_at hl 1 rfl) ?_
      refine r_getR (v := .ref (ad 1)) C hw kLS42 fX3_9 rfl hx.2.1 dX3_readValue_43 ?_
      obtain ⟨g_13, hc, h⟩ := bnd_some h
      refine r_vV (dc := 8) (As := []) (rest := []) C hw vX3_59 (kx1 _) (by decide) rfl (fun sz => c_X4_advance hx.1 hc sz) (by decide) rfl rfl hl.1 (Nat.le_of_ble_eq_true rfl) dX3_readValue_46 ⟨Nat.le_refl _, Nat.le_refl _⟩ (fun H locs hw => ?_)
      cases h
      exact r_vret C hw rfl dX3_readValue_49
  · replace h := ite_pos' h hc
    refine lv_aload_n C.1.1 C.1.2.1 dX3_readValue_22 rfl (lv_at hl 1 rfl) ?_
    refine r_getR (v := .ref (ad 1)) C hw kLS42 fX3_9 rfl hx.2.1 dX3_readValue_23 ?_
    obtain ⟨g_14, hc, h⟩ := bnd_some h
    refine r_vV (dc := 2) (As := []) (rest := []) C hw vX3_50 (kx1 _) (by decide) rfl (fun sz => c_X4_refuseToken hx.1 hc sz) (by decide) rfl rfl hl.1 (Nat.le_of_ble_eq_true rfl) dX3_readValue_26 ⟨Nat.le_refl _, Nat.le_refl _⟩ (fun H locs hw => ?_)
    cases h
    exact r_vret C hw rfl dX3_readValue_29
set_option maxHeartbeats 4000000 in
set_option maxRecDepth 100000 in
theorem c_X3_readValue (hx : HS hr ad) {a1 : Int32} {a2 : Int32} {g : GM} {gz : GM} (h : F_X3_readValue a1 a2 g = some gz) (sz : Nat) : Met l yX3_readValue (WSX yX3_readValue cX3_readValue 5 none) (RM 10 0 0) (va_Pc [.ref (ad 42), .int a1, .int a2] (PX D cA ev hr ad (KX ++ [(3, 2)]) g sz)) (QV D cA ev hr ad (AX ad (KX ++ [(3, 2)]).length sz) (KX ++ [(3, 2)]) gz) 0 0 (AX ad (KX ++ [(3, 2)]).length sz) :=
  met_of (own := RX3) pnX3 rfl (Nat.le_of_ble_eq_true rfl) (fun p e s m below meth c ls C hw hsz hl => w_X3_readValue_0 C hx hw hl h)
set_option maxHeartbeats 4000000 in
set_option maxRecDepth 100000 in
theorem w_X3_readRow_169 {x2 : Int32} {g : GM} {gz : GM} (C : CX p s m args meth c RX3 yX3_readRow cX3_readRow 5 none D cA) (hx : HS hr ad) {H : Heap} {locs : List Loc} (hw : WS D cA ev hr ad A (KX ++ [(3, 2)]) s H locs g) {ls : Array Slot} (hl : lv_has ls 5 [(0, .ref (ad 42)), (2, .int x2)]) (h : F_X3_readRow_169 x2 g = some gz) : W p l e (RM 11 0 0) s m args below meth c H locs 0 0 (MQ below (QV D cA ev hr ad A (KX ++ [(3, 2)]) gz) args s 0 0 A) (F0 m 169 ls []) := by
  refine lv_aload_n C.1.1 C.1.2.1 dX3_readRow_169 rfl (lv_at hl 0 rfl) ?_
  refine r_getR (v := .ref (ad 1)) C hw kLS42 fX3_9 rfl hx.2.1 dX3_readRow_170 ?_
  refine lv_bipush (v := 59) C.1.1 C.1.2.1 dX3_readRow_173 (by decide) ?_
  obtain ⟨⟨r_1, g_2⟩, hc, h⟩ := bnd_some h
  refine r_vI (dc := 9) (As := [.int 59]) (rest := []) C hw vX3_77 (kx1 _) (by decide) rfl (fun sz => c_X4_take hx.1 hc sz) (by decide) rfl rfl hl.1 (Nat.le_of_ble_eq_true rfl) dX3_readRow_175 ⟨Nat.le_refl _, Nat.le_refl _⟩ (fun H locs hw => ?_)
  refine lv_if_eq (tgt := 207) C.1.1 C.1.2.1 dX3_readRow_178 (by decide) (fun hc => ?_) (fun hc => ?_)
  · replace h := ite_pos' h hc
    cases h
    exact r_vret C hw rfl dX3_readRow_207
  · replace h := ite_neg' h hc
    refine lv_aload_n C.1.1 C.1.2.1 dX3_readRow_181 rfl (lv_at hl 0 rfl) ?_
    refine r_getR (v := .ref (ad 17)) C hw kLS42 fX3_15 rfl hx.2.2 dX3_readRow_182 ?_
    refine r_getR (v := .ref (ad 20)) C hw (kx17 _) fX3_89 rfl (hx17_3 hx.1) dX3_readRow_185 ?_
    refine lv_iload_n C.1.1 C.1.2.1 dX3_readRow_188 rfl (lv_at hl 1 rfl) ?_
    refine lv_dup2_11 C.1.1 C.1.2.1 dX3_readRow_189 rfl rfl ?_
    obtain ⟨hz, h⟩ := ck_some h
    refine r_iald C hw (kx20 _) (inB_in hz) dX3_readRow_190 ?_
    refine lv_iconst (v := 1) C.1.1 C.1.2.1 dX3_readRow_191 (by decide) ?_
    refine lv_iadd C.1.1 C.1.2.1 dX3_readRow_192 ?_
    obtain ⟨hz, h⟩ := ck_some h
    refine r_iast C hw (kx20 _) (inB_in hz) dX3_readRow_193 (fun H locs hw => ?_)
    refine lt_gen (P := fun g => WS D cA ev hr ad A (KX ++ [(3, 2)]) s H locs g) h hw (fun g_3 h hw => ?_)
    refine lv_aload_n C.1.1 C.1.2.1 dX3_readRow_194 rfl (lv_at hl 0 rfl) ?_
    refine r_getR (v := .ref (ad 17)) C hw kLS42 fX3_15 rfl hx.2.2 dX3_readRow_195 ?_
    refine lv_dup C.1.1 C.1.2.1 dX3_readRow_198 rfl ?_
    refine r_getI C hw (kx17 _) fX3_44 rfl dX3_readRow_199 ?_
    refine lv_iconst (v := 1) C.1.1 C.1.2.1 dX3_readRow_202 (by decide) ?_
    refine lv_iadd C.1.1 C.1.2.1 dX3_readRow_203 ?_
    refine r_putI C hw (kx17 _) fX3_44 rfl rfl (Or.inl rfl) dX3_readRow_204 (fun H locs hw => ?_)
    refine lt_gen (P := fun g => WS D cA ev hr ad A (KX ++ [(3, 2)]) s H locs g) h hw (fun g_4 h hw => ?_)
    cases h
    exact r_vret C hw rfl dX3_readRow_207
set_option maxHeartbeats 4000000 in
set_option maxRecDepth 100000 in
theorem w_X3_readRow_138 {x2 : Int32} {x4 : Int32} {g : GM} {gz : GM} (C : CX p s m args meth c RX3 yX3_readRow cX3_readRow 5 none D cA) (hx : HS hr ad) {H : Heap} {locs : List Loc} (hw : WS D cA ev hr ad A (KX ++ [(3, 2)]) s H locs g) {ls : Array Slot} (hl : lv_has ls 5 [(0, .ref (ad 42)), (2, .int x2), (4, .int x4)]) (h : F_X3_readRow_138 x2 x4 g = some gz) : W p l e (RM 11 0 0) s m args below meth c H locs 0 0 (MQ below (QV D cA ev hr ad A (KX ++ [(3, 2)]) gz) args s 0 0 A) (F0 m 138 ls []) := by
  refine lv_aload_n C.1.1 C.1.2.1 dX3_readRow_138 rfl (lv_at hl 0 rfl) ?_
  refine r_getR (v := .ref (ad 1)) C hw kLS42 fX3_9 rfl hx.2.1 dX3_readRow_139 ?_
  refine r_getI C hw (kx1 _) fX3_30 rfl dX3_readRow_142 ?_
  refine lv_if_ne (tgt := 169) C.1.1 C.1.2.1 dX3_readRow_145 (by decide) (fun hc => ?_) (fun hc => ?_)
  · replace h := ite_neg' h hc
    exact w_X3_readRow_169 C hx hw (lv_sub hl [0, 1] rfl) h
  · replace h := ite_pos' h hc
    refine lv_iload C.1.1 C.1.2.1 dX3_readRow_148 (lv_at hl 2 rfl) ?_
    refine lv_aload_n C.1.1 C.1.2.1 dX3_readRow_150 rfl (lv_at hl 0 rfl) ?_
    refine r_getR (v := .ref (ad 17)) C hw kLS42 fX3_15 rfl hx.2.2 dX3_readRow_151 ?_
    refine r_getR (v := .ref (ad 19)) C hw (kx17 _) fX3_85 rfl (hx17_2 hx.1) dX3_readRow_154 ?_
    refine lv_iload_n C.1.1 C.1.2.1 dX3_readRow_157 rfl (lv_at hl 1 rfl) ?_
    obtain ⟨hz, h⟩ := ck_some h
    refine r_iald C hw (kx19 _) (inB_in hz) dX3_readRow_158 ?_
    refine lv_icmp_ge (tgt := 169) C.1.1 C.1.2.1 dX3_readRow_159 (by decide) (fun hc => ?_) (fun hc => ?_)
    · replace h := ite_pos' h hc
      exact w_X3_readRow_169 C hx hw (lv_sub hl [0, 1] rfl) h
    · replace h := ite_neg' h hc
      refine lv_aload_n C.1.1 C.1.2.1 dX3_readRow_162 rfl (lv_at hl 0 rfl) ?_
      refine r_getR (v := .ref (ad 1)) C hw kLS42 fX3_9 rfl hx.2.1 dX3_readRow_163 ?_
      obtain ⟨g_5, hc, h⟩ := bnd_some h
      refine r_vV (dc := 2) (As := []) (rest := []) C hw vX3_50 (kx1 _) (by decide) rfl (fun sz => c_X4_refuseToken hx.1 hc sz) (by decide) rfl rfl hl.1 (Nat.le_of_ble_eq_true rfl) dX3_readRow_166 ⟨Nat.le_refl _, Nat.le_refl _⟩ (fun H locs hw => ?_)
      exact w_X3_readRow_169 C hx hw (lv_sub hl [0, 1] rfl) h
set_option maxHeartbeats 4000000 in
set_option maxRecDepth 100000 in
theorem w_X3_readRow_123 {x1 : Int32} {x2 : Int32} {x4 : Int32} {s0 : Int32} {g : GM} {gz : GM} (kb76 : Int32 × Int32 × GM → Option (GM)) (hk76 : ∀ (x3 : Int32) (x4 : Int32) (g : GM) (H : Heap) (locs : List Loc) (ls : Array Slot), WS D cA ev hr ad A (KX ++ [(3, 2)]) s H locs g → lv_has ls 5 [(0, .ref (ad 42)), (1, .int x1), (2, .int x2), (3, .int x3), (4, .int x4)] → kb76 (x3, x4, g) = some gz → W p l e (RM 11 0 0) s m args below meth c H locs 0 0 (MQ below (QV D cA ev hr ad A (KX ++ [(3, 2)]) gz) args s 0 0 A) (F0 m 76 ls [])) (C : CX p s m args meth c RX3 yX3_readRow cX3_readRow 5 none D cA) (hx : HS hr ad) {H : Heap} {locs : List Loc} (hw : WS D cA ev hr ad A (KX ++ [(3, 2)]) s H locs g) {ls : Array Slot} (hl : lv_has ls 5 [(0, .ref (ad 42)), (1, .int x1), (2, .int x2), (4, .int x4)]) (h : F_X3_readRow_123 kb76 x1 x2 x4 s0 g = some gz) : W p l e (RM 11 0 0) s m args below meth c H locs 0 0 (MQ below (QV D cA ev hr ad A (KX ++ [(3, 2)]) gz) args s 0 0 A) (F0 m 123 ls [.int s0]) := by
  refine lv_istore_n (lv' := [(3, .int s0), (0, .ref (ad 42)), (1, .int x1), (2, .int x2), (4, .int x4)]) C.1.1 C.1.2.1 dX3_readRow_123 rfl hl (by decide) rfl (fun ls hl => ?_)
  refine lv_iload_n C.1.1 C.1.2.1 dX3_readRow_124 rfl (lv_at hl 0 rfl) ?_
  refine lv_if_eq (tgt := 76) C.1.1 C.1.2.1 dX3_readRow_125 (by decide) (fun hc => ?_) (fun hc => ?_)
  · replace h := ite_pos' h hc
    exact hk76 _ _ _ _ _ _ hw (lv_sub hl [1, 2, 3, 0, 4] rfl) h
  · replace h := ite_neg' h hc
    refine lv_aload_n C.1.1 C.1.2.1 dX3_readRow_128 rfl (lv_at hl 1 rfl) ?_
    refine r_getR (v := .ref (ad 1)) C hw kLS42 fX3_9 rfl hx.2.1 dX3_readRow_129 ?_
    obtain ⟨g_6, hc, h⟩ := bnd_some h
    refine r_vV (dc := 8) (As := []) (rest := []) C hw vX3_59 (kx1 _) (by decide) rfl (fun sz => c_X4_advance hx.1 hc sz) (by decide) rfl rfl hl.1 (Nat.le_of_ble_eq_true rfl) dX3_readRow_132 ⟨Nat.le_refl _, Nat.le_refl _⟩ (fun H locs hw => ?_)
    refine lv_goto (tgt := 76) C.1.1 C.1.2.1 dX3_readRow_135 (by decide) ?_
    exact hk76 _ _ _ _ _ _ hw (lv_sub hl [1, 2, 3, 0, 4] rfl) h
set_option maxHeartbeats 4000000 in
set_option maxRecDepth 100000 in
theorem w_X3_readRow_122 {x1 : Int32} {x2 : Int32} {x4 : Int32} {g : GM} {gz : GM} (kb76 : Int32 × Int32 × GM → Option (GM)) (hk76 : ∀ (x3 : Int32) (x4 : Int32) (g : GM) (H : Heap) (locs : List Loc) (ls : Array Slot), WS D cA ev hr ad A (KX ++ [(3, 2)]) s H locs g → lv_has ls 5 [(0, .ref (ad 42)), (1, .int x1), (2, .int x2), (3, .int x3), (4, .int x4)] → kb76 (x3, x4, g) = some gz → W p l e (RM 11 0 0) s m args below meth c H locs 0 0 (MQ below (QV D cA ev hr ad A (KX ++ [(3, 2)]) gz) args s 0 0 A) (F0 m 76 ls [])) (C : CX p s m args meth c RX3 yX3_readRow cX3_readRow 5 none D cA) (hx : HS hr ad) {H : Heap} {locs : List Loc} (hw : WS D cA ev hr ad A (KX ++ [(3, 2)]) s H locs g) {ls : Array Slot} (hl : lv_has ls 5 [(0, .ref (ad 42)), (1, .int x1), (2, .int x2), (4, .int x4)]) (h : F_X3_readRow_122 kb76 x1 x2 x4 g = some gz) : W p l e (RM 11 0 0) s m args below meth c H locs 0 0 (MQ below (QV D cA ev hr ad A (KX ++ [(3, 2)]) gz) args s 0 0 A) (F0 m 122 ls []) := by
  refine lv_iconst (v := 0) C.1.1 C.1.2.1 dX3_readRow_122 (by decide) ?_
  exact w_X3_readRow_123 kb76 hk76 C hx hw hl h
set_option maxHeartbeats 4000000 in
set_option maxRecDepth 100000 in
theorem w_X3_readRow_76 {x1 : Int32} {x2 : Int32} {gz : GM} (kb76 : Int32 × Int32 × GM → Option (GM)) (hk76 : ∀ (x3 : Int32) (x4 : Int32) (g : GM) (H : Heap) (locs : List Loc) (ls : Array Slot), WS D cA ev hr ad A (KX ++ [(3, 2)]) s H locs g → lv_has ls 5 [(0, .ref (ad 42)), (1, .int x1), (2, .int x2), (3, .int x3), (4, .int x4)] → kb76 (x3, x4, g) = some gz → W p l e (RM 11 0 0) s m args below meth c H locs 0 0 (MQ below (QV D cA ev hr ad A (KX ++ [(3, 2)]) gz) args s 0 0 A) (F0 m 76 ls [])) (C : CX p s m args meth c RX3 yX3_readRow cX3_readRow 5 none D cA) (hx : HS hr ad) {H : Heap} {locs : List Loc} {x3 : Int32} {x4 : Int32} {g : GM} (hw : WS D cA ev hr ad A (KX ++ [(3, 2)]) s H locs g) {ls : Array Slot} (hl : lv_has ls 5 [(0, .ref (ad 42)), (1, .int x1), (2, .int x2), (3, .int x3), (4, .int x4)]) (h : F_X3_readRow_76B x1 x2 kb76 (x3, x4, g) = some gz) : W p l e (RM 11 0 0) s m args below meth c H locs 0 0 (MQ below (QV D cA ev hr ad A (KX ++ [(3, 2)]) gz) args s 0 0 A) (F0 m 76 ls []) := by
  refine lv_iload_n C.1.1 C.1.2.1 dX3_readRow_76 rfl (lv_at hl 3 rfl) ?_
  refine lv_if_eq (tgt := 138) C.1.1 C.1.2.1 dX3_readRow_77 (by decide) (fun hc => ?_) (fun hc => ?_)
  · replace h := ite_pos' h hc
    exact w_X3_readRow_138 C hx hw (lv_sub hl [0, 2, 4] rfl) h
  · replace h := ite_neg' h hc
    refine lv_iload C.1.1 C.1.2.1 dX3_readRow_80 (lv_at hl 4 rfl) ?_
    refine lv_iconst (v := 5) C.1.1 C.1.2.1 dX3_readRow_82 (by decide) ?_
    refine lv_icmp_gt (tgt := 138) C.1.1 C.1.2.1 dX3_readRow_83 (by decide) (fun hc => ?_) (fun hc => ?_)
    · replace h := ite_pos' h hc
      exact w_X3_readRow_138 C hx hw (lv_sub hl [0, 2, 4] rfl) h
    · replace h := ite_neg' h hc
      refine lv_aload_n C.1.1 C.1.2.1 dX3_readRow_86 rfl (lv_at hl 0 rfl) ?_
      refine lv_iload_n C.1.1 C.1.2.1 dX3_readRow_87 rfl (lv_at hl 1 rfl) ?_
      refine lv_iload C.1.1 C.1.2.1 dX3_readRow_88 (lv_at hl 4 rfl) ?_
      obtain ⟨g_7, hc, h⟩ := bnd_some h
      refine r_vV (dc := 10) (As := [.int x1, .int x4]) (rest := []) C hw vX3_122 kLS42 (by decide) rfl (fun sz => c_X3_readValue hx hc sz) (by decide) rfl rfl hl.1 (Nat.le_of_ble_eq_true rfl) dX3_readRow_90 ⟨Nat.le_refl _, Nat.le_refl _⟩ (fun H locs hw => ?_)
      refine lv_iinc (v := x4 + 1) (lv' := [(4, .int (x4 + 1)), (0, .ref (ad 42)), (1, .int x1), (2, .int x2), (3, .int x3)]) C.1.1 C.1.2.1 dX3_readRow_93 hl (k := 4) rfl rfl (by decide) rfl (fun ls hl => ?_)
      refine lt_gen (P := fun x => lv_has ls 5 [(4, .int x), (0, .ref (ad 42)), (1, .int x1), (2, .int x2), (3, .int x3)]) h hl (fun x4_8 h hl => ?_)
      refine lv_aload_n C.1.1 C.1.2.1 dX3_readRow_96 rfl (lv_at hl 1 rfl) ?_
      refine r_getR (v := .ref (ad 1)) C hw kLS42 fX3_9 rfl hx.2.1 dX3_readRow_97 ?_
      refine r_getI C hw (kx1 _) fX3_30 rfl dX3_readRow_100 ?_
      refine lv_if_ne (tgt := 122) C.1.1 C.1.2.1 dX3_readRow_103 (by decide) (fun hc => ?_) (fun hc => ?_)
      · replace h := ite_neg' h hc
        exact w_X3_readRow_122 kb76 hk76 C hx hw (lv_sub hl [1, 2, 3, 0] rfl) h
      · replace h := ite_pos' h hc
        refine lv_aload_n C.1.1 C.1.2.1 dX3_readRow_106 rfl (lv_at hl 1 rfl) ?_
        refine r_getR (v := .ref (ad 1)) C hw kLS42 fX3_9 rfl hx.2.1 dX3_readRow_107 ?_
        refine r_getI C hw (kx1 _) fX3_34 rfl dX3_readRow_110 ?_
        refine lv_bipush (v := 44) C.1.1 C.1.2.1 dX3_readRow_113 (by decide) ?_
        refine lv_icmp_ne (tgt := 122) C.1.1 C.1.2.1 dX3_readRow_115 (by decide) (fun hc => ?_) (fun hc => ?_)
        · replace h := ite_neg' h hc
          exact w_X3_readRow_122 kb76 hk76 C hx hw (lv_sub hl [1, 2, 3, 0] rfl) h
        · replace h := ite_pos' h hc
          refine lv_iconst (v := 1) C.1.1 C.1.2.1 dX3_readRow_118 (by decide) ?_
          refine lv_goto (tgt := 123) C.1.1 C.1.2.1 dX3_readRow_119 (by decide) ?_
          exact w_X3_readRow_123 kb76 hk76 C hx hw (lv_sub hl [1, 2, 3, 0] rfl) h
set_option maxHeartbeats 4000000 in
set_option maxRecDepth 100000 in
theorem w_X3_readRow_76L {x1 : Int32} {x2 : Int32} {gz : GM} (C : CX p s m args meth c RX3 yX3_readRow cX3_readRow 5 none D cA) (hx : HS hr ad) : ∀ (n : Nat) (x3 : Int32) (x4 : Int32) (g : GM) (H : Heap) (locs : List Loc) (ls : Array Slot), WS D cA ev hr ad A (KX ++ [(3, 2)]) s H locs g → lv_has ls 5 [(0, .ref (ad 42)), (1, .int x1), (2, .int x2), (3, .int x3), (4, .int x4)] → fixN (F_X3_readRow_76B x1 x2) n (x3, x4, g) = some gz → W p l e (RM 11 0 0) s m args below meth c H locs 0 0 (MQ below (QV D cA ev hr ad A (KX ++ [(3, 2)]) gz) args s 0 0 A) (F0 m 76 ls []) := by
  intro n
  induction n with
  | zero => intro x3 x4 g H locs ls hw hl h; exact (fix_zero h).elim
  | succ n ih => intro x3 x4 g H locs ls hw hl h; exact w_X3_readRow_76 (fixN (F_X3_readRow_76B x1 x2) n) ih C hx hw hl h
set_option maxHeartbeats 4000000 in
set_option maxRecDepth 100000 in
theorem w_X3_readRow_0 (C : CX p s m args meth c RX3 yX3_readRow cX3_readRow 5 none D cA) (hx : HS hr ad) {H : Heap} {locs : List Loc} {g : GM} (hw : WS D cA ev hr ad A (KX ++ [(3, 2)]) s H locs g) {a1 : Int32} {ls : Array Slot} (hl : lv_has ls 5 [(0, .ref (ad 42)), (1, .int a1)]) {gz : GM} (h : F_X3_readRow a1 g = some gz) : W p l e (RM 11 0 0) s m args below meth c H locs 0 0 (MQ below (QV D cA ev hr ad A (KX ++ [(3, 2)]) gz) args s 0 0 A) (F0 m 0 ls []) := by
  refine lv_aload_n C.1.1 C.1.2.1 dX3_readRow_0 rfl (lv_at hl 0 rfl) ?_
  refine r_getR (v := .ref (ad 1)) C hw kLS42 fX3_9 rfl hx.2.1 dX3_readRow_1 ?_
  obtain ⟨g_9, hc, h⟩ := bnd_some h
  refine r_vV (dc := 8) (As := []) (rest := []) C hw vX3_59 (kx1 _) (by decide) rfl (fun sz => c_X4_advance hx.1 hc sz) (by decide) rfl rfl hl.1 (Nat.le_of_ble_eq_true rfl) dX3_readRow_4 ⟨Nat.le_refl _, Nat.le_refl _⟩ (fun H locs hw => ?_)
  refine lv_aload_n C.1.1 C.1.2.1 dX3_readRow_7 rfl (lv_at hl 0 rfl) ?_
  refine r_getR (v := .ref (ad 1)) C hw kLS42 fX3_9 rfl hx.2.1 dX3_readRow_8 ?_
  refine lv_aload_n C.1.1 C.1.2.1 dX3_readRow_11 rfl (lv_at hl 0 rfl) ?_
  refine r_getR (v := .ref (ad 17)) C hw kLS42 fX3_15 rfl hx.2.2 dX3_readRow_12 ?_
  obtain ⟨⟨r_10, g_11⟩, hc, h⟩ := bnd_some h
  refine r_vI (dc := 9) (As := [.ref (ad 17)]) (rest := []) C hw vX3_109 (kx1 _) (by decide) rfl (fun sz => c_X4_takeTable_p hx.1 hc sz) (by decide) rfl rfl hl.1 (Nat.le_of_ble_eq_true rfl) dX3_readRow_15 ⟨Nat.le_refl _, Nat.le_refl _⟩ (fun H locs hw => ?_)
  refine lv_istore_n (lv' := [(2, .int r_10), (0, .ref (ad 42)), (1, .int a1)]) C.1.1 C.1.2.1 dX3_readRow_18 rfl hl (by decide) rfl (fun ls hl => ?_)
  refine lt_gen (P := fun x => lv_has ls 5 [(2, .int x), (0, .ref (ad 42)), (1, .int a1)]) h hl (fun x2_12 h hl => ?_)
  refine lv_aload_n C.1.1 C.1.2.1 dX3_readRow_19 rfl (lv_at hl 1 rfl) ?_
  refine r_getR (v := .ref (ad 1)) C hw kLS42 fX3_9 rfl hx.2.1 dX3_readRow_20 ?_
  refine lv_bipush (v := 58) C.1.1 C.1.2.1 dX3_readRow_23 (by decide) ?_
  obtain ⟨⟨r_13, g_14⟩, hc, h⟩ := bnd_some h
  refine r_vI (dc := 9) (As := [.int 58]) (rest := []) C hw vX3_77 (kx1 _) (by decide) rfl (fun sz => c_X4_take hx.1 hc sz) (by decide) rfl rfl hl.1 (Nat.le_of_ble_eq_true rfl) dX3_readRow_25 ⟨Nat.le_refl _, Nat.le_refl _⟩ (fun H locs hw => ?_)
  refine lv_if_eq (tgt := 42) C.1.1 C.1.2.1 dX3_readRow_28 (by decide) (fun hc => ?_) (fun hc => ?_)
  · replace h := ite_pos' h hc
    cases h
    exact r_vret C hw rfl dX3_readRow_42
  · replace h := ite_neg' h hc
    refine lv_aload_n C.1.1 C.1.2.1 dX3_readRow_31 rfl (lv_at hl 1 rfl) ?_
    refine r_getR (v := .ref (ad 17)) C hw kLS42 fX3_15 rfl hx.2.2 dX3_readRow_32 ?_
    refine lv_iload_n C.1.1 C.1.2.1 dX3_readRow_35 rfl (lv_at hl 0 rfl) ?_
    obtain ⟨r_15, hc, h⟩ := bnd_some h
    refine r_vI (dc := 1) (As := [.int x2_12]) (rest := []) C hw vX3_113 (kx17 _) (by decide) rfl (fun sz => c_X2_hasTable_p hx.1 hc sz) (by decide) rfl rfl hl.1 (Nat.le_of_ble_eq_true rfl) dX3_readRow_36 ⟨Nat.le_refl _, Nat.le_refl _⟩ (fun H locs hw => ?_)
    refine lv_if_ne (tgt := 43) C.1.1 C.1.2.1 dX3_readRow_39 (by decide) (fun hc => ?_) (fun hc => ?_)
    · replace h := ite_neg' h hc
      refine lv_aload_n C.1.1 C.1.2.1 dX3_readRow_43 rfl (lv_at hl 1 rfl) ?_
      refine r_getR (v := .ref (ad 17)) C hw kLS42 fX3_15 rfl hx.2.2 dX3_readRow_44 ?_
      refine r_getR (v := .ref (ad 23)) C hw (kx17 _) fX3_116 rfl (hx17_7 hx.1) dX3_readRow_47 ?_
      refine lv_iload_n C.1.1 C.1.2.1 dX3_readRow_50 rfl (lv_at hl 2 rfl) ?_
      refine lv_iload_n C.1.1 C.1.2.1 dX3_readRow_51 rfl (lv_at hl 0 rfl) ?_
      obtain ⟨hz, h⟩ := ck_some h
      refine r_iast C hw (kx23 _) (inB_in hz) dX3_readRow_52 (fun H locs hw => ?_)
      refine lt_gen (P := fun g => WS D cA ev hr ad A (KX ++ [(3, 2)]) s H locs g) h hw (fun g_16 h hw => ?_)
      refine lv_aload_n C.1.1 C.1.2.1 dX3_readRow_53 rfl (lv_at hl 1 rfl) ?_
      refine r_getR (v := .ref (ad 17)) C hw kLS42 fX3_15 rfl hx.2.2 dX3_readRow_54 ?_
      refine r_getR (v := .ref (ad 24)) C hw (kx17 _) fX3_119 rfl (hx17_8 hx.1) dX3_readRow_57 ?_
      refine lv_iload_n C.1.1 C.1.2.1 dX3_readRow_60 rfl (lv_at hl 2 rfl) ?_
      refine lv_aload_n C.1.1 C.1.2.1 dX3_readRow_61 rfl (lv_at hl 1 rfl) ?_
      refine r_getR (v := .ref (ad 17)) C hw kLS42 fX3_15 rfl hx.2.2 dX3_readRow_62 ?_
      refine r_getR (v := .ref (ad 20)) C hw (kx17 _) fX3_89 rfl (hx17_3 hx.1) dX3_readRow_65 ?_
      refine lv_iload_n C.1.1 C.1.2.1 dX3_readRow_68 rfl (lv_at hl 0 rfl) ?_
      obtain ⟨hz, h⟩ := ck_some h
      refine r_iald C hw (kx20 _) (inB_in hz) dX3_readRow_69 ?_
      obtain ⟨hz, h⟩ := ck_some h
      refine r_iast C hw (kx24 _) (inB_in hz) dX3_readRow_70 (fun H locs hw => ?_)
      refine lt_gen (P := fun g => WS D cA ev hr ad A (KX ++ [(3, 2)]) s H locs g) h hw (fun g_17 h hw => ?_)
      refine lv_iconst (v := 1) C.1.1 C.1.2.1 dX3_readRow_71 (by decide) ?_
      refine lv_istore_n (lv' := [(3, .int 1), (2, .int x2_12), (0, .ref (ad 42)), (1, .int a1)]) C.1.1 C.1.2.1 dX3_readRow_72 rfl hl (by decide) rfl (fun ls hl => ?_)
      refine lv_iconst (v := 0) C.1.1 C.1.2.1 dX3_readRow_73 (by decide) ?_
      refine lv_istore (lv' := [(4, .int 0), (3, .int 1), (2, .int x2_12), (0, .ref (ad 42)), (1, .int a1)]) C.1.1 C.1.2.1 dX3_readRow_74 hl (by decide) rfl (fun ls hl => ?_)
      exact w_X3_readRow_76L C hx FU _ _ _ _ _ _ hw (lv_sub hl [3, 4, 2, 1, 0] rfl) h
    · replace h := ite_pos' h hc
      cases h
      exact r_vret C hw rfl dX3_readRow_42
set_option maxHeartbeats 4000000 in
set_option maxRecDepth 100000 in
theorem c_X3_readRow (hx : HS hr ad) {a1 : Int32} {g : GM} {gz : GM} (h : F_X3_readRow a1 g = some gz) (sz : Nat) : Met l yX3_readRow (WSX yX3_readRow cX3_readRow 5 none) (RM 11 0 0) (va_Pc [.ref (ad 42), .int a1] (PX D cA ev hr ad (KX ++ [(3, 2)]) g sz)) (QV D cA ev hr ad (AX ad (KX ++ [(3, 2)]).length sz) (KX ++ [(3, 2)]) gz) 0 0 (AX ad (KX ++ [(3, 2)]).length sz) :=
  met_of (own := RX3) pnX3 rfl (Nat.le_of_ble_eq_true rfl) (fun p e s m below meth c ls C hw hsz hl => w_X3_readRow_0 C hx hw hl h)
set_option maxHeartbeats 4000000 in
set_option maxRecDepth 100000 in
theorem w_X2_cell_p_0 (C : CX p s m args meth c RX2 yX2_cell cX2_cell 3 (some .int) D cA) (hx : HX hr ad) {H : Heap} {locs : List Loc} {g : GM} (hw : WS D cA ev hr ad A (KX ++ tl) s H locs g) {a1 : Int32} {a2 : Int32} {ls : Array Slot} (hl : lv_has ls 3 [(0, .ref (ad 17)), (1, .int a1), (2, .int a2)]) {r : Int32} (h : F_X2_cell_p a1 a2 g = some r) : W p l e (RM 1 0 0) s m args below meth c H locs 0 0 (MQ below (QI D cA ev hr ad A (KX ++ tl) r g) args s 0 0 A) (F0 m 0 ls []) := by
  refine lv_iload_n C.1.1 C.1.2.1 dX2_cell_0 rfl (lv_at hl 1 rfl) ?_
  refine lv_if_lt (tgt := 21) C.1.1 C.1.2.1 dX2_cell_1 (by decide) (fun hc => ?_) (fun hc => ?_)
  · replace h := ite_pos' h hc
    refine lv_iconst (v := (-1)) C.1.1 C.1.2.1 dX2_cell_21 (by decide) ?_
    cases h
    exact r_iret C hw (Or.inl rfl) dX2_cell_22
  · replace h := ite_neg' h hc
    refine lv_iload_n C.1.1 C.1.2.1 dX2_cell_4 rfl (lv_at hl 1 rfl) ?_
    refine lv_aload_n C.1.1 C.1.2.1 dX2_cell_5 rfl (lv_at hl 0 rfl) ?_
    refine r_getI C hw (kx17 _) fX2_47 rfl dX2_cell_6 ?_
    refine lv_icmp_ge (tgt := 21) C.1.1 C.1.2.1 dX2_cell_9 (by decide) (fun hc => ?_) (fun hc => ?_)
    · replace h := ite_pos' h hc
      refine lv_iconst (v := (-1)) C.1.1 C.1.2.1 dX2_cell_21 (by decide) ?_
      cases h
      exact r_iret C hw (Or.inl rfl) dX2_cell_22
    · replace h := ite_neg' h hc
      refine lv_iload_n C.1.1 C.1.2.1 dX2_cell_12 rfl (lv_at hl 2 rfl) ?_
      refine lv_if_lt (tgt := 21) C.1.1 C.1.2.1 dX2_cell_13 (by decide) (fun hc => ?_) (fun hc => ?_)
      · replace h := ite_pos' h hc
        refine lv_iconst (v := (-1)) C.1.1 C.1.2.1 dX2_cell_21 (by decide) ?_
        cases h
        exact r_iret C hw (Or.inl rfl) dX2_cell_22
      · replace h := ite_neg' h hc
        refine lv_iload_n C.1.1 C.1.2.1 dX2_cell_16 rfl (lv_at hl 2 rfl) ?_
        refine lv_iconst (v := 5) C.1.1 C.1.2.1 dX2_cell_17 (by decide) ?_
        refine lv_icmp_lt (tgt := 23) C.1.1 C.1.2.1 dX2_cell_18 (by decide) (fun hc => ?_) (fun hc => ?_)
        · replace h := ite_pos' h hc
          refine lv_aload_n C.1.1 C.1.2.1 dX2_cell_23 rfl (lv_at hl 0 rfl) ?_
          refine r_getR (v := .ref (ad 25)) C hw (kx17 _) fX2_34 rfl (hx17_9 hx) dX2_cell_24 ?_
          refine lv_iload_n C.1.1 C.1.2.1 dX2_cell_27 rfl (lv_at hl 1 rfl) ?_
          refine lv_iconst (v := 5) C.1.1 C.1.2.1 dX2_cell_28 (by decide) ?_
          refine lv_imul C.1.1 C.1.2.1 dX2_cell_29 ?_
          refine lv_iload_n C.1.1 C.1.2.1 dX2_cell_30 rfl (lv_at hl 2 rfl) ?_
          refine lv_iadd C.1.1 C.1.2.1 dX2_cell_31 ?_
          obtain ⟨hz, h⟩ := ck_some h
          refine r_iald C hw (kx25 _) (inB_in hz) dX2_cell_32 ?_
          cases h
          exact r_iret C hw (Or.inl rfl) dX2_cell_33
        · replace h := ite_neg' h hc
          refine lv_iconst (v := (-1)) C.1.1 C.1.2.1 dX2_cell_21 (by decide) ?_
          cases h
          exact r_iret C hw (Or.inl rfl) dX2_cell_22
set_option maxHeartbeats 4000000 in
set_option maxRecDepth 100000 in
theorem c_X2_cell_p (hx : HX hr ad) {a1 : Int32} {a2 : Int32} {g : GM} {r : Int32} (h : F_X2_cell_p a1 a2 g = some r) (sz : Nat) : Met l yX2_cell (WSX yX2_cell cX2_cell 3 (some .int)) (RM 1 0 0) (va_Pc [.ref (ad 17), .int a1, .int a2] (PX D cA ev hr ad (KX ++ tl) g sz)) (QI D cA ev hr ad (AX ad (KX ++ tl).length sz) (KX ++ tl) r g) 0 0 (AX ad (KX ++ tl).length sz) :=
  met_of (own := RX2) pnX2 rfl (Nat.le_of_ble_eq_true rfl) (fun p e s m below meth c ls C hw hsz hl => w_X2_cell_p_0 C hx hw hl h)
set_option maxHeartbeats 4000000 in
set_option maxRecDepth 100000 in
theorem w_X2_rowOf_p_32 {x1 : Int32} {x2 : Int32} {x3 : Int32} {g : GM} {r : Int32} (kb2 : Int32 → Option (Int32)) (hk2 : ∀ (x3 : Int32) (H : Heap) (locs : List Loc) (ls : Array Slot), WS D cA ev hr ad A (KX ++ tl) s H locs g → lv_has ls 4 [(0, .ref (ad 17)), (1, .int x1), (2, .int x2), (3, .int x3)] → kb2 x3 = some r → W p l e (RM 1 0 0) s m args below meth c H locs 0 0 (MQ below (QI D cA ev hr ad A (KX ++ tl) r g) args s 0 0 A) (F0 m 2 ls [])) (C : CX p s m args meth c RX2 yX2_rowOf cX2_rowOf 4 (some .int) D cA) (hx : HX hr ad) {H : Heap} {locs : List Loc} (hw : WS D cA ev hr ad A (KX ++ tl) s H locs g) {ls : Array Slot} (hl : lv_has ls 4 [(0, .ref (ad 17)), (1, .int x1), (2, .int x2), (3, .int x3)]) (h : F_X2_rowOf_p_32 kb2 x1 x2 x3 g = some r) : W p l e (RM 1 0 0) s m args below meth c H locs 0 0 (MQ below (QI D cA ev hr ad A (KX ++ tl) r g) args s 0 0 A) (F0 m 32 ls []) := by
  refine lv_iinc (v := x3 + 1) (lv' := [(3, .int (x3 + 1)), (0, .ref (ad 17)), (1, .int x1), (2, .int x2)]) C.1.1 C.1.2.1 dX2_rowOf_32 hl (k := 3) rfl rfl (by decide) rfl (fun ls hl => ?_)
  refine lt_gen (P := fun x => lv_has ls 4 [(3, .int x), (0, .ref (ad 17)), (1, .int x1), (2, .int x2)]) h hl (fun x3_1 h hl => ?_)
  refine lv_goto (tgt := 2) C.1.1 C.1.2.1 dX2_rowOf_35 (by decide) ?_
  exact hk2 _ _ _ _ hw (lv_sub hl [1, 2, 3, 0] rfl) h
set_option maxHeartbeats 4000000 in
set_option maxRecDepth 100000 in
theorem w_X2_rowOf_p_2 {x1 : Int32} {x2 : Int32} {g : GM} {r : Int32} (kb2 : Int32 → Option (Int32)) (hk2 : ∀ (x3 : Int32) (H : Heap) (locs : List Loc) (ls : Array Slot), WS D cA ev hr ad A (KX ++ tl) s H locs g → lv_has ls 4 [(0, .ref (ad 17)), (1, .int x1), (2, .int x2), (3, .int x3)] → kb2 x3 = some r → W p l e (RM 1 0 0) s m args below meth c H locs 0 0 (MQ below (QI D cA ev hr ad A (KX ++ tl) r g) args s 0 0 A) (F0 m 2 ls [])) (C : CX p s m args meth c RX2 yX2_rowOf cX2_rowOf 4 (some .int) D cA) (hx : HX hr ad) {H : Heap} {locs : List Loc} {x3 : Int32} (hw : WS D cA ev hr ad A (KX ++ tl) s H locs g) {ls : Array Slot} (hl : lv_has ls 4 [(0, .ref (ad 17)), (1, .int x1), (2, .int x2), (3, .int x3)]) (h : F_X2_rowOf_p_2B x1 x2 g kb2 x3 = some r) : W p l e (RM 1 0 0) s m args below meth c H locs 0 0 (MQ below (QI D cA ev hr ad A (KX ++ tl) r g) args s 0 0 A) (F0 m 2 ls []) := by
  refine lv_iload_n C.1.1 C.1.2.1 dX2_rowOf_2 rfl (lv_at hl 3 rfl) ?_
  refine lv_aload_n C.1.1 C.1.2.1 dX2_rowOf_3 rfl (lv_at hl 0 rfl) ?_
  refine r_getI C hw (kx17 _) fX2_47 rfl dX2_rowOf_4 ?_
  refine lv_icmp_ge (tgt := 38) C.1.1 C.1.2.1 dX2_rowOf_7 (by decide) (fun hc => ?_) (fun hc => ?_)
  · replace h := ite_pos' h hc
    refine lv_iconst (v := (-1)) C.1.1 C.1.2.1 dX2_rowOf_38 (by decide) ?_
    cases h
    exact r_iret C hw (Or.inl rfl) dX2_rowOf_39
  · replace h := ite_neg' h hc
    refine lv_aload_n C.1.1 C.1.2.1 dX2_rowOf_10 rfl (lv_at hl 0 rfl) ?_
    refine r_getR (v := .ref (ad 23)) C hw (kx17 _) fX2_28 rfl (hx17_7 hx) dX2_rowOf_11 ?_
    refine lv_iload_n C.1.1 C.1.2.1 dX2_rowOf_14 rfl (lv_at hl 3 rfl) ?_
    obtain ⟨hz, h⟩ := ck_some h
    refine r_iald C hw (kx23 _) (inB_in hz) dX2_rowOf_15 ?_
    refine lv_iload_n C.1.1 C.1.2.1 dX2_rowOf_16 rfl (lv_at hl 1 rfl) ?_
    refine lv_icmp_ne (tgt := 32) C.1.1 C.1.2.1 dX2_rowOf_17 (by decide) (fun hc => ?_) (fun hc => ?_)
    · replace h := ite_neg' h hc
      exact w_X2_rowOf_p_32 kb2 hk2 C hx hw hl h
    · replace h := ite_pos' h hc
      refine lv_aload_n C.1.1 C.1.2.1 dX2_rowOf_20 rfl (lv_at hl 0 rfl) ?_
      refine r_getR (v := .ref (ad 24)) C hw (kx17 _) fX2_31 rfl (hx17_8 hx) dX2_rowOf_21 ?_
      refine lv_iload_n C.1.1 C.1.2.1 dX2_rowOf_24 rfl (lv_at hl 3 rfl) ?_
      obtain ⟨hz, h⟩ := ck_some h
      refine r_iald C hw (kx24 _) (inB_in hz) dX2_rowOf_25 ?_
      refine lv_iload_n C.1.1 C.1.2.1 dX2_rowOf_26 rfl (lv_at hl 2 rfl) ?_
      refine lv_icmp_ne (tgt := 32) C.1.1 C.1.2.1 dX2_rowOf_27 (by decide) (fun hc => ?_) (fun hc => ?_)
      · replace h := ite_neg' h hc
        exact w_X2_rowOf_p_32 kb2 hk2 C hx hw hl h
      · replace h := ite_pos' h hc
        refine lv_iload_n C.1.1 C.1.2.1 dX2_rowOf_30 rfl (lv_at hl 3 rfl) ?_
        cases h
        exact r_iret C hw (Or.inl rfl) dX2_rowOf_31
set_option maxHeartbeats 4000000 in
set_option maxRecDepth 100000 in
theorem w_X2_rowOf_p_2L {x1 : Int32} {x2 : Int32} {g : GM} {r : Int32} (C : CX p s m args meth c RX2 yX2_rowOf cX2_rowOf 4 (some .int) D cA) (hx : HX hr ad) : ∀ (n : Nat) (x3 : Int32) (H : Heap) (locs : List Loc) (ls : Array Slot), WS D cA ev hr ad A (KX ++ tl) s H locs g → lv_has ls 4 [(0, .ref (ad 17)), (1, .int x1), (2, .int x2), (3, .int x3)] → fixN (F_X2_rowOf_p_2B x1 x2 g) n x3 = some r → W p l e (RM 1 0 0) s m args below meth c H locs 0 0 (MQ below (QI D cA ev hr ad A (KX ++ tl) r g) args s 0 0 A) (F0 m 2 ls []) := by
  intro n
  induction n with
  | zero => intro x3 H locs ls hw hl h; exact (fix_zero h).elim
  | succ n ih => intro x3 H locs ls hw hl h; exact w_X2_rowOf_p_2 (fixN (F_X2_rowOf_p_2B x1 x2 g) n) ih C hx hw hl h
set_option maxHeartbeats 4000000 in
set_option maxRecDepth 100000 in
theorem w_X2_rowOf_p_0 (C : CX p s m args meth c RX2 yX2_rowOf cX2_rowOf 4 (some .int) D cA) (hx : HX hr ad) {H : Heap} {locs : List Loc} {g : GM} (hw : WS D cA ev hr ad A (KX ++ tl) s H locs g) {a1 : Int32} {a2 : Int32} {ls : Array Slot} (hl : lv_has ls 4 [(0, .ref (ad 17)), (1, .int a1), (2, .int a2)]) {r : Int32} (h : F_X2_rowOf_p a1 a2 g = some r) : W p l e (RM 1 0 0) s m args below meth c H locs 0 0 (MQ below (QI D cA ev hr ad A (KX ++ tl) r g) args s 0 0 A) (F0 m 0 ls []) := by
  refine lv_iconst (v := 0) C.1.1 C.1.2.1 dX2_rowOf_0 (by decide) ?_
  refine lv_istore_n (lv' := [(3, .int 0), (0, .ref (ad 17)), (1, .int a1), (2, .int a2)]) C.1.1 C.1.2.1 dX2_rowOf_1 rfl hl (by decide) rfl (fun ls hl => ?_)
  exact w_X2_rowOf_p_2L C hx FU _ _ _ _ hw (lv_sub hl [1, 2, 3, 0] rfl) h
set_option maxHeartbeats 4000000 in
set_option maxRecDepth 100000 in
theorem c_X2_rowOf_p (hx : HX hr ad) {a1 : Int32} {a2 : Int32} {g : GM} {r : Int32} (h : F_X2_rowOf_p a1 a2 g = some r) (sz : Nat) : Met l yX2_rowOf (WSX yX2_rowOf cX2_rowOf 4 (some .int)) (RM 1 0 0) (va_Pc [.ref (ad 17), .int a1, .int a2] (PX D cA ev hr ad (KX ++ tl) g sz)) (QI D cA ev hr ad (AX ad (KX ++ tl).length sz) (KX ++ tl) r g) 0 0 (AX ad (KX ++ tl).length sz) :=
  met_of (own := RX2) pnX2 rfl (Nat.le_of_ble_eq_true rfl) (fun p e s m below meth c ls C hw hsz hl => w_X2_rowOf_p_0 C hx hw hl h)
set_option maxHeartbeats 4000000 in
set_option maxRecDepth 100000 in
theorem w_X3_joinLink_0 (C : CX p s m args meth c RX3 yX3_joinLink cX3_joinLink 4 none D cA) (hx : HS hr ad) {H : Heap} {locs : List Loc} {g : GM} (hw : WS D cA ev hr ad A (KX ++ [(3, 2)]) s H locs g) {a1 : Int32} {a2 : Int32} {a3 : Int32} {ls : Array Slot} (hl : lv_has ls 4 [(0, .ref (ad 42)), (1, .int a1), (2, .int a2), (3, .int a3)]) {gz : GM} (h : F_X3_joinLink a1 a2 a3 g = some gz) : W p l e (RM 2 0 0) s m args below meth c H locs 0 0 (MQ below (QV D cA ev hr ad A (KX ++ [(3, 2)]) gz) args s 0 0 A) (F0 m 0 ls []) := by
  refine lv_iload_n C.1.1 C.1.2.1 dX3_joinLink_0 rfl (lv_at hl 3 rfl) ?_
  refine lv_iconst (v := (-1)) C.1.1 C.1.2.1 dX3_joinLink_1 (by decide) ?_
  refine lv_icmp_ne (tgt := 29) C.1.1 C.1.2.1 dX3_joinLink_2 (by decide) (fun hc => ?_) (fun hc => ?_)
  · replace h := ite_neg' h hc
    refine lv_aload_n C.1.1 C.1.2.1 dX3_joinLink_29 rfl (lv_at hl 0 rfl) ?_
    refine r_getR (v := .ref (ad 17)) C hw kLS42 fX3_15 rfl hx.2.2 dX3_joinLink_30 ?_
    refine r_getR (v := .ref (ad 25)) C hw (kx17 _) fX3_138 rfl (hx17_9 hx.1) dX3_joinLink_33 ?_
    refine lv_iload_n C.1.1 C.1.2.1 dX3_joinLink_36 rfl (lv_at hl 1 rfl) ?_
    refine lv_iload_n C.1.1 C.1.2.1 dX3_joinLink_37 rfl (lv_at hl 2 rfl) ?_
    obtain ⟨r_1, hc, h⟩ := bnd_some h
    refine r_nI (dc := 1) (As := [.int a1, .int a2]) (rest := [.ref (ad 25)]) C hw nX3_102 (fun sz => c_X6_slot hx.1 hc sz) (by decide) rfl rfl hl.1 (Nat.le_of_ble_eq_true rfl) dX3_joinLink_38 ⟨Nat.le_refl _, Nat.le_refl _⟩ (fun H locs hw => ?_)
    refine lv_iload_n C.1.1 C.1.2.1 dX3_joinLink_41 rfl (lv_at hl 3 rfl) ?_
    obtain ⟨hz, h⟩ := ck_some h
    refine r_iast C hw (kx25 _) (inB_in hz) dX3_joinLink_42 (fun H locs hw => ?_)
    refine lt_gen (P := fun g => WS D cA ev hr ad A (KX ++ [(3, 2)]) s H locs g) h hw (fun g_2 h hw => ?_)
    cases h
    exact r_vret C hw rfl dX3_joinLink_43
  · replace h := ite_pos' h hc
    refine lv_aload_n C.1.1 C.1.2.1 dX3_joinLink_5 rfl (lv_at hl 0 rfl) ?_
    refine r_getR (v := .ref (ad 1)) C hw kLS42 fX3_9 rfl hx.2.1 dX3_joinLink_6 ?_
    refine lv_iconst (v := 5) C.1.1 C.1.2.1 dX3_joinLink_9 (by decide) ?_
    refine lv_aload_n C.1.1 C.1.2.1 dX3_joinLink_10 rfl (lv_at hl 0 rfl) ?_
    refine r_getR (v := .ref (ad 17)) C hw kLS42 fX3_15 rfl hx.2.2 dX3_joinLink_11 ?_
    refine r_getR (v := .ref (ad 26)) C hw (kx17 _) fX3_135 rfl (hx17_10 hx.1) dX3_joinLink_14 ?_
    refine lv_iload_n C.1.1 C.1.2.1 dX3_joinLink_17 rfl (lv_at hl 1 rfl) ?_
    refine lv_iload_n C.1.1 C.1.2.1 dX3_joinLink_18 rfl (lv_at hl 2 rfl) ?_
    obtain ⟨r_3, hc, h⟩ := bnd_some h
    refine r_nI (dc := 1) (As := [.int a1, .int a2]) (rest := [.ref (ad 26), .int 5, .ref (ad 1)]) C hw nX3_102 (fun sz => c_X6_slot hx.1 hc sz) (by decide) rfl rfl hl.1 (Nat.le_of_ble_eq_true rfl) dX3_joinLink_19 ⟨Nat.le_refl _, Nat.le_refl _⟩ (fun H locs hw => ?_)
    obtain ⟨hz, h⟩ := ck_some h
    refine r_iald C hw (kx26 _) (inB_in hz) dX3_joinLink_22 ?_
    obtain ⟨g_4, hc, h⟩ := bnd_some h
    refine r_vV (dc := 1) (As := [.int 5, .int (gi g 26 r_3.toNatClampNeg)]) (rest := []) C hw vX3_73 (kx1 _) (by decide) rfl (fun sz => c_X4_refuse hx.1 hc sz) (by decide) rfl rfl hl.1 (Nat.le_of_ble_eq_true rfl) dX3_joinLink_23 ⟨Nat.le_refl _, Nat.le_refl _⟩ (fun H locs hw => ?_)
    refine lv_goto (tgt := 43) C.1.1 C.1.2.1 dX3_joinLink_26 (by decide) ?_
    cases h
    exact r_vret C hw rfl dX3_joinLink_43
set_option maxHeartbeats 4000000 in
set_option maxRecDepth 100000 in
theorem c_X3_joinLink (hx : HS hr ad) {a1 : Int32} {a2 : Int32} {a3 : Int32} {g : GM} {gz : GM} (h : F_X3_joinLink a1 a2 a3 g = some gz) (sz : Nat) : Met l yX3_joinLink (WSX yX3_joinLink cX3_joinLink 4 none) (RM 2 0 0) (va_Pc [.ref (ad 42), .int a1, .int a2, .int a3] (PX D cA ev hr ad (KX ++ [(3, 2)]) g sz)) (QV D cA ev hr ad (AX ad (KX ++ [(3, 2)]).length sz) (KX ++ [(3, 2)]) gz) 0 0 (AX ad (KX ++ [(3, 2)]).length sz) :=
  met_of (own := RX3) pnX3 rfl (Nat.le_of_ble_eq_true rfl) (fun p e s m below meth c ls C hw hsz hl => w_X3_joinLink_0 C hx hw hl h)
set_option maxHeartbeats 4000000 in
set_option maxRecDepth 100000 in
theorem w_X3_joinLinks_81 {x1 : Int32} {x2 : Int32} {x3 : Int32} {g : GM} {gz : GM} (kb2 : Int32 × GM → Option (GM)) (hk2 : ∀ (x1 : Int32) (g : GM) (H : Heap) (locs : List Loc) (ls : Array Slot), WS D cA ev hr ad A (KX ++ [(3, 2)]) s H locs g → lv_has ls 6 [(0, .ref (ad 42)), (1, .int x1)] → kb2 (x1, g) = some gz → W p l e (RM 3 0 0) s m args below meth c H locs 0 0 (MQ below (QV D cA ev hr ad A (KX ++ [(3, 2)]) gz) args s 0 0 A) (F0 m 2 ls [])) (kb25 : Int32 × GM → Option (GM)) (hk25 : ∀ (x3 : Int32) (g : GM) (H : Heap) (locs : List Loc) (ls : Array Slot), WS D cA ev hr ad A (KX ++ [(3, 2)]) s H locs g → lv_has ls 6 [(0, .ref (ad 42)), (1, .int x1), (2, .int x2), (3, .int x3)] → kb25 (x3, g) = some gz → W p l e (RM 3 0 0) s m args below meth c H locs 0 0 (MQ below (QV D cA ev hr ad A (KX ++ [(3, 2)]) gz) args s 0 0 A) (F0 m 25 ls [])) (C : CX p s m args meth c RX3 yX3_joinLinks cX3_joinLinks 6 none D cA) (hx : HS hr ad) {H : Heap} {locs : List Loc} (hw : WS D cA ev hr ad A (KX ++ [(3, 2)]) s H locs g) {ls : Array Slot} (hl : lv_has ls 6 [(0, .ref (ad 42)), (1, .int x1), (2, .int x2), (3, .int x3)]) (h : F_X3_joinLinks_81 kb2 kb25 x1 x2 x3 g = some gz) : W p l e (RM 3 0 0) s m args below meth c H locs 0 0 (MQ below (QV D cA ev hr ad A (KX ++ [(3, 2)]) gz) args s 0 0 A) (F0 m 81 ls []) := by
  refine lv_iinc (v := x3 + 1) (lv' := [(3, .int (x3 + 1)), (0, .ref (ad 42)), (1, .int x1), (2, .int x2)]) C.1.1 C.1.2.1 dX3_joinLinks_81 hl (k := 3) rfl rfl (by decide) rfl (fun ls hl => ?_)
  refine lt_gen (P := fun x => lv_has ls 6 [(3, .int x), (0, .ref (ad 42)), (1, .int x1), (2, .int x2)]) h hl (fun x3_1 h hl => ?_)
  refine lv_goto (tgt := 25) C.1.1 C.1.2.1 dX3_joinLinks_84 (by decide) ?_
  exact hk25 _ _ _ _ _ hw (lv_sub hl [1, 2, 3, 0] rfl) h
set_option maxHeartbeats 4000000 in
set_option maxRecDepth 100000 in
theorem w_X3_joinLinks_25 {x1 : Int32} {x2 : Int32} {gz : GM} (kb2 : Int32 × GM → Option (GM)) (hk2 : ∀ (x1 : Int32) (g : GM) (H : Heap) (locs : List Loc) (ls : Array Slot), WS D cA ev hr ad A (KX ++ [(3, 2)]) s H locs g → lv_has ls 6 [(0, .ref (ad 42)), (1, .int x1)] → kb2 (x1, g) = some gz → W p l e (RM 3 0 0) s m args below meth c H locs 0 0 (MQ below (QV D cA ev hr ad A (KX ++ [(3, 2)]) gz) args s 0 0 A) (F0 m 2 ls [])) (kb25 : Int32 × GM → Option (GM)) (hk25 : ∀ (x3 : Int32) (g : GM) (H : Heap) (locs : List Loc) (ls : Array Slot), WS D cA ev hr ad A (KX ++ [(3, 2)]) s H locs g → lv_has ls 6 [(0, .ref (ad 42)), (1, .int x1), (2, .int x2), (3, .int x3)] → kb25 (x3, g) = some gz → W p l e (RM 3 0 0) s m args below meth c H locs 0 0 (MQ below (QV D cA ev hr ad A (KX ++ [(3, 2)]) gz) args s 0 0 A) (F0 m 25 ls [])) (C : CX p s m args meth c RX3 yX3_joinLinks cX3_joinLinks 6 none D cA) (hx : HS hr ad) {H : Heap} {locs : List Loc} {x3 : Int32} {g : GM} (hw : WS D cA ev hr ad A (KX ++ [(3, 2)]) s H locs g) {ls : Array Slot} (hl : lv_has ls 6 [(0, .ref (ad 42)), (1, .int x1), (2, .int x2), (3, .int x3)]) (h : F_X3_joinLinks_25B kb2 x1 x2 kb25 (x3, g) = some gz) : W p l e (RM 3 0 0) s m args below meth c H locs 0 0 (MQ below (QV D cA ev hr ad A (KX ++ [(3, 2)]) gz) args s 0 0 A) (F0 m 25 ls []) := by
  refine lv_iload_n C.1.1 C.1.2.1 dX3_joinLinks_25 rfl (lv_at hl 3 rfl) ?_
  refine lv_iconst (v := 5) C.1.1 C.1.2.1 dX3_joinLinks_26 (by decide) ?_
  refine lv_icmp_ge (tgt := 87) C.1.1 C.1.2.1 dX3_joinLinks_27 (by decide) (fun hc => ?_) (fun hc => ?_)
  · replace h := ite_pos' h hc
    refine lv_iinc (v := x1 + 1) (lv' := [(1, .int (x1 + 1)), (0, .ref (ad 42)), (2, .int x2), (3, .int x3)]) C.1.1 C.1.2.1 dX3_joinLinks_87 hl (k := 1) rfl rfl (by decide) rfl (fun ls hl => ?_)
    refine lt_gen (P := fun x => lv_has ls 6 [(1, .int x), (0, .ref (ad 42)), (2, .int x2), (3, .int x3)]) h hl (fun x1_2 h hl => ?_)
    refine lv_goto (tgt := 2) C.1.1 C.1.2.1 dX3_joinLinks_90 (by decide) ?_
    exact hk2 _ _ _ _ _ hw (lv_sub hl [1, 0] rfl) h
  · replace h := ite_neg' h hc
    refine lv_aload_n C.1.1 C.1.2.1 dX3_joinLinks_30 rfl (lv_at hl 0 rfl) ?_
    refine r_getR (v := .ref (ad 17)) C hw kLS42 fX3_15 rfl hx.2.2 dX3_joinLinks_31 ?_
    refine lv_iload_n C.1.1 C.1.2.1 dX3_joinLinks_34 rfl (lv_at hl 2 rfl) ?_
    refine lv_iload_n C.1.1 C.1.2.1 dX3_joinLinks_35 rfl (lv_at hl 3 rfl) ?_
    obtain ⟨r_3, hc, h⟩ := bnd_some h
    refine r_vI (dc := 2) (As := [.int x2, .int x3]) (rest := []) C hw vX3_129 (kx17 _) (by decide) rfl (fun sz => c_X2_target_p hx.1 hc sz) (by decide) rfl rfl hl.1 (Nat.le_of_ble_eq_true rfl) dX3_joinLinks_36 ⟨Nat.le_refl _, Nat.le_refl _⟩ (fun H locs hw => ?_)
    refine lv_istore (lv' := [(4, .int r_3), (0, .ref (ad 42)), (1, .int x1), (2, .int x2), (3, .int x3)]) C.1.1 C.1.2.1 dX3_joinLinks_39 hl (by decide) rfl (fun ls hl => ?_)
    refine lt_gen (P := fun x => lv_has ls 6 [(4, .int x), (0, .ref (ad 42)), (1, .int x1), (2, .int x2), (3, .int x3)]) h hl (fun x4_4 h hl => ?_)
    refine lv_aload_n C.1.1 C.1.2.1 dX3_joinLinks_41 rfl (lv_at hl 1 rfl) ?_
    refine r_getR (v := .ref (ad 17)) C hw kLS42 fX3_15 rfl hx.2.2 dX3_joinLinks_42 ?_
    refine lv_iload_n C.1.1 C.1.2.1 dX3_joinLinks_45 rfl (lv_at hl 2 rfl) ?_
    refine lv_iload_n C.1.1 C.1.2.1 dX3_joinLinks_46 rfl (lv_at hl 4 rfl) ?_
    obtain ⟨r_5, hc, h⟩ := bnd_some h
    refine r_vI (dc := 1) (As := [.int x1, .int x3]) (rest := []) C hw vX3_141 (kx17 _) (by decide) rfl (fun sz => c_X2_cell_p hx.1 hc sz) (by decide) rfl rfl hl.1 (Nat.le_of_ble_eq_true rfl) dX3_joinLinks_47 ⟨Nat.le_refl _, Nat.le_refl _⟩ (fun H locs hw => ?_)
    refine lv_istore (lv' := [(5, .int r_5), (4, .int x4_4), (0, .ref (ad 42)), (1, .int x1), (2, .int x2), (3, .int x3)]) C.1.1 C.1.2.1 dX3_joinLinks_50 hl (by decide) rfl (fun ls hl => ?_)
    refine lt_gen (P := fun x => lv_has ls 6 [(5, .int x), (4, .int x4_4), (0, .ref (ad 42)), (1, .int x1), (2, .int x2), (3, .int x3)]) h hl (fun x5_6 h hl => ?_)
    refine lv_iload C.1.1 C.1.2.1 dX3_joinLinks_52 (lv_at hl 1 rfl) ?_
    refine lv_iconst (v := (-1)) C.1.1 C.1.2.1 dX3_joinLinks_54 (by decide) ?_
    refine lv_icmp_eq (tgt := 81) C.1.1 C.1.2.1 dX3_joinLinks_55 (by decide) (fun hc => ?_) (fun hc => ?_)
    · replace h := ite_pos' h hc
      exact w_X3_joinLinks_81 kb2 hk2 kb25 hk25 C hx hw (lv_sub hl [2, 3, 4, 5] rfl) h
    · replace h := ite_neg' h hc
      refine lv_iload C.1.1 C.1.2.1 dX3_joinLinks_58 (lv_at hl 0 rfl) ?_
      refine lv_iconst (v := (-1)) C.1.1 C.1.2.1 dX3_joinLinks_60 (by decide) ?_
      refine lv_icmp_eq (tgt := 81) C.1.1 C.1.2.1 dX3_joinLinks_61 (by decide) (fun hc => ?_) (fun hc => ?_)
      · replace h := ite_pos' h hc
        exact w_X3_joinLinks_81 kb2 hk2 kb25 hk25 C hx hw (lv_sub hl [2, 3, 4, 5] rfl) h
      · replace h := ite_neg' h hc
        refine lv_aload_n C.1.1 C.1.2.1 dX3_joinLinks_64 rfl (lv_at hl 2 rfl) ?_
        refine lv_iload_n C.1.1 C.1.2.1 dX3_joinLinks_65 rfl (lv_at hl 3 rfl) ?_
        refine lv_iload_n C.1.1 C.1.2.1 dX3_joinLinks_66 rfl (lv_at hl 5 rfl) ?_
        refine lv_aload_n C.1.1 C.1.2.1 dX3_joinLinks_67 rfl (lv_at hl 2 rfl) ?_
        refine r_getR (v := .ref (ad 17)) C hw kLS42 fX3_15 rfl hx.2.2 dX3_joinLinks_68 ?_
        refine lv_iload C.1.1 C.1.2.1 dX3_joinLinks_71 (lv_at hl 1 rfl) ?_
        refine lv_iload C.1.1 C.1.2.1 dX3_joinLinks_73 (lv_at hl 0 rfl) ?_
        obtain ⟨r_7, hc, h⟩ := bnd_some h
        refine r_vI (dc := 1) (As := [.int x4_4, .int x5_6]) (rest := [.int x3, .int x1, .ref (ad 42)]) C hw vX3_144 (kx17 _) (by decide) rfl (fun sz => c_X2_rowOf_p hx.1 hc sz) (by decide) rfl rfl hl.1 (Nat.le_of_ble_eq_true rfl) dX3_joinLinks_75 ⟨Nat.le_refl _, Nat.le_refl _⟩ (fun H locs hw => ?_)
        obtain ⟨g_8, hc, h⟩ := bnd_some h
        refine r_vV (dc := 2) (As := [.int x1, .int x3, .int r_7]) (rest := []) C hw vX3_147 kLS42 (by decide) rfl (fun sz => c_X3_joinLink hx hc sz) (by decide) rfl rfl hl.1 (Nat.le_of_ble_eq_true rfl) dX3_joinLinks_78 ⟨Nat.le_refl _, Nat.le_refl _⟩ (fun H locs hw => ?_)
        exact w_X3_joinLinks_81 kb2 hk2 kb25 hk25 C hx hw (lv_sub hl [2, 3, 4, 5] rfl) h
set_option maxHeartbeats 4000000 in
set_option maxRecDepth 100000 in
theorem w_X3_joinLinks_25L {x1 : Int32} {x2 : Int32} {gz : GM} (kb2 : Int32 × GM → Option (GM)) (hk2 : ∀ (x1 : Int32) (g : GM) (H : Heap) (locs : List Loc) (ls : Array Slot), WS D cA ev hr ad A (KX ++ [(3, 2)]) s H locs g → lv_has ls 6 [(0, .ref (ad 42)), (1, .int x1)] → kb2 (x1, g) = some gz → W p l e (RM 3 0 0) s m args below meth c H locs 0 0 (MQ below (QV D cA ev hr ad A (KX ++ [(3, 2)]) gz) args s 0 0 A) (F0 m 2 ls [])) (C : CX p s m args meth c RX3 yX3_joinLinks cX3_joinLinks 6 none D cA) (hx : HS hr ad) : ∀ (n : Nat) (x3 : Int32) (g : GM) (H : Heap) (locs : List Loc) (ls : Array Slot), WS D cA ev hr ad A (KX ++ [(3, 2)]) s H locs g → lv_has ls 6 [(0, .ref (ad 42)), (1, .int x1), (2, .int x2), (3, .int x3)] → fixN (F_X3_joinLinks_25B kb2 x1 x2) n (x3, g) = some gz → W p l e (RM 3 0 0) s m args below meth c H locs 0 0 (MQ below (QV D cA ev hr ad A (KX ++ [(3, 2)]) gz) args s 0 0 A) (F0 m 25 ls []) := by
  intro n
  induction n with
  | zero => intro x3 g H locs ls hw hl h; exact (fix_zero h).elim
  | succ n ih => intro x3 g H locs ls hw hl h; exact w_X3_joinLinks_25 kb2 hk2 (fixN (F_X3_joinLinks_25B kb2 x1 x2) n) ih C hx hw hl h
set_option maxHeartbeats 4000000 in
set_option maxRecDepth 100000 in
theorem w_X3_joinLinks_2 {gz : GM} (kb2 : Int32 × GM → Option (GM)) (hk2 : ∀ (x1 : Int32) (g : GM) (H : Heap) (locs : List Loc) (ls : Array Slot), WS D cA ev hr ad A (KX ++ [(3, 2)]) s H locs g → lv_has ls 6 [(0, .ref (ad 42)), (1, .int x1)] → kb2 (x1, g) = some gz → W p l e (RM 3 0 0) s m args below meth c H locs 0 0 (MQ below (QV D cA ev hr ad A (KX ++ [(3, 2)]) gz) args s 0 0 A) (F0 m 2 ls [])) (C : CX p s m args meth c RX3 yX3_joinLinks cX3_joinLinks 6 none D cA) (hx : HS hr ad) {H : Heap} {locs : List Loc} {x1 : Int32} {g : GM} (hw : WS D cA ev hr ad A (KX ++ [(3, 2)]) s H locs g) {ls : Array Slot} (hl : lv_has ls 6 [(0, .ref (ad 42)), (1, .int x1)]) (h : F_X3_joinLinks_2B kb2 (x1, g) = some gz) : W p l e (RM 3 0 0) s m args below meth c H locs 0 0 (MQ below (QV D cA ev hr ad A (KX ++ [(3, 2)]) gz) args s 0 0 A) (F0 m 2 ls []) := by
  refine lv_iload_n C.1.1 C.1.2.1 dX3_joinLinks_2 rfl (lv_at hl 1 rfl) ?_
  refine lv_aload_n C.1.1 C.1.2.1 dX3_joinLinks_3 rfl (lv_at hl 0 rfl) ?_
  refine r_getR (v := .ref (ad 17)) C hw kLS42 fX3_15 rfl hx.2.2 dX3_joinLinks_4 ?_
  refine r_getI C hw (kx17 _) fX3_44 rfl dX3_joinLinks_7 ?_
  refine lv_icmp_ge (tgt := 93) C.1.1 C.1.2.1 dX3_joinLinks_10 (by decide) (fun hc => ?_) (fun hc => ?_)
  · replace h := ite_pos' h hc
    cases h
    exact r_vret C hw rfl dX3_joinLinks_93
  · replace h := ite_neg' h hc
    refine lv_aload_n C.1.1 C.1.2.1 dX3_joinLinks_13 rfl (lv_at hl 0 rfl) ?_
    refine r_getR (v := .ref (ad 17)) C hw kLS42 fX3_15 rfl hx.2.2 dX3_joinLinks_14 ?_
    refine r_getR (v := .ref (ad 23)) C hw (kx17 _) fX3_116 rfl (hx17_7 hx.1) dX3_joinLinks_17 ?_
    refine lv_iload_n C.1.1 C.1.2.1 dX3_joinLinks_20 rfl (lv_at hl 1 rfl) ?_
    obtain ⟨hz, h⟩ := ck_some h
    refine r_iald C hw (kx23 _) (inB_in hz) dX3_joinLinks_21 ?_
    refine lv_istore_n (lv' := [(2, .int (gi g 23 x1.toNatClampNeg)), (0, .ref (ad 42)), (1, .int x1)]) C.1.1 C.1.2.1 dX3_joinLinks_22 rfl hl (by decide) rfl (fun ls hl => ?_)
    refine lt_gen (P := fun x => lv_has ls 6 [(2, .int x), (0, .ref (ad 42)), (1, .int x1)]) h hl (fun x2_9 h hl => ?_)
    refine lv_iconst (v := 0) C.1.1 C.1.2.1 dX3_joinLinks_23 (by decide) ?_
    refine lv_istore_n (lv' := [(3, .int 0), (2, .int x2_9), (0, .ref (ad 42)), (1, .int x1)]) C.1.1 C.1.2.1 dX3_joinLinks_24 rfl hl (by decide) rfl (fun ls hl => ?_)
    exact w_X3_joinLinks_25L kb2 hk2 C hx FU _ _ _ _ _ hw (lv_sub hl [2, 3, 1, 0] rfl) h
set_option maxHeartbeats 4000000 in
set_option maxRecDepth 100000 in
theorem w_X3_joinLinks_2L {gz : GM} (C : CX p s m args meth c RX3 yX3_joinLinks cX3_joinLinks 6 none D cA) (hx : HS hr ad) : ∀ (n : Nat) (x1 : Int32) (g : GM) (H : Heap) (locs : List Loc) (ls : Array Slot), WS D cA ev hr ad A (KX ++ [(3, 2)]) s H locs g → lv_has ls 6 [(0, .ref (ad 42)), (1, .int x1)] → fixN (F_X3_joinLinks_2B) n (x1, g) = some gz → W p l e (RM 3 0 0) s m args below meth c H locs 0 0 (MQ below (QV D cA ev hr ad A (KX ++ [(3, 2)]) gz) args s 0 0 A) (F0 m 2 ls []) := by
  intro n
  induction n with
  | zero => intro x1 g H locs ls hw hl h; exact (fix_zero h).elim
  | succ n ih => intro x1 g H locs ls hw hl h; exact w_X3_joinLinks_2 (fixN (F_X3_joinLinks_2B) n) ih C hx hw hl h
set_option maxHeartbeats 4000000 in
set_option maxRecDepth 100000 in
theorem w_X3_joinLinks_0 (C : CX p s m args meth c RX3 yX3_joinLinks cX3_joinLinks 6 none D cA) (hx : HS hr ad) {H : Heap} {locs : List Loc} {g : GM} (hw : WS D cA ev hr ad A (KX ++ [(3, 2)]) s H locs g) {ls : Array Slot} (hl : lv_has ls 6 [(0, .ref (ad 42))]) {gz : GM} (h : F_X3_joinLinks g = some gz) : W p l e (RM 3 0 0) s m args below meth c H locs 0 0 (MQ below (QV D cA ev hr ad A (KX ++ [(3, 2)]) gz) args s 0 0 A) (F0 m 0 ls []) := by
  refine lv_iconst (v := 0) C.1.1 C.1.2.1 dX3_joinLinks_0 (by decide) ?_
  refine lv_istore_n (lv' := [(1, .int 0), (0, .ref (ad 42))]) C.1.1 C.1.2.1 dX3_joinLinks_1 rfl hl (by decide) rfl (fun ls hl => ?_)
  exact w_X3_joinLinks_2L C hx FU _ _ _ _ _ hw (lv_sub hl [1, 0] rfl) h
set_option maxHeartbeats 4000000 in
set_option maxRecDepth 100000 in
theorem c_X3_joinLinks (hx : HS hr ad) {g : GM} {gz : GM} (h : F_X3_joinLinks g = some gz) (sz : Nat) : Met l yX3_joinLinks (WSX yX3_joinLinks cX3_joinLinks 6 none) (RM 3 0 0) (va_Pc [.ref (ad 42)] (PX D cA ev hr ad (KX ++ [(3, 2)]) g sz)) (QV D cA ev hr ad (AX ad (KX ++ [(3, 2)]).length sz) (KX ++ [(3, 2)]) gz) 0 0 (AX ad (KX ++ [(3, 2)]).length sz) :=
  met_of (own := RX3) pnX3 rfl (Nat.le_of_ble_eq_true rfl) (fun p e s m below meth c ls C hw hsz hl => w_X3_joinLinks_0 C hx hw hl h)
set_option maxHeartbeats 4000000 in
set_option maxRecDepth 100000 in
theorem w_X2_hasRow_p_16 {g : GM} {r : Int32} (C : CX p s m args meth c RX2 yX2_hasRow cX2_hasRow 2 (some .boolean) D cA) (hx : HX hr ad) {H : Heap} {locs : List Loc} (hw : WS D cA ev hr ad A (KX ++ tl) s H locs g) {ls : Array Slot} (hl : lv_has ls 2 []) (h : F_X2_hasRow_p_16 g = some r) : W p l e (RM 1 0 0) s m args below meth c H locs 0 0 (MQ below (QI D cA ev hr ad A (KX ++ tl) r g) args s 0 0 A) (F0 m 16 ls []) := by
  refine lv_iconst (v := 0) C.1.1 C.1.2.1 dX2_hasRow_16 (by decide) ?_
  cases h
  exact r_iret C hw (Or.inr ⟨rfl, Or.inl rfl⟩) dX2_hasRow_17
set_option maxHeartbeats 4000000 in
set_option maxRecDepth 100000 in
theorem w_X2_hasRow_p_0 (C : CX p s m args meth c RX2 yX2_hasRow cX2_hasRow 2 (some .boolean) D cA) (hx : HX hr ad) {H : Heap} {locs : List Loc} {g : GM} (hw : WS D cA ev hr ad A (KX ++ tl) s H locs g) {a1 : Int32} {ls : Array Slot} (hl : lv_has ls 2 [(0, .ref (ad 17)), (1, .int a1)]) {r : Int32} (h : F_X2_hasRow_p a1 g = some r) : W p l e (RM 1 0 0) s m args below meth c H locs 0 0 (MQ below (QI D cA ev hr ad A (KX ++ tl) r g) args s 0 0 A) (F0 m 0 ls []) := by
  refine lv_iload_n C.1.1 C.1.2.1 dX2_hasRow_0 rfl (lv_at hl 1 rfl) ?_
  refine lv_if_lt (tgt := 16) C.1.1 C.1.2.1 dX2_hasRow_1 (by decide) (fun hc => ?_) (fun hc => ?_)
  · replace h := ite_pos' h hc
    exact w_X2_hasRow_p_16 C hx hw (lv_sub hl [] rfl) h
  · replace h := ite_neg' h hc
    refine lv_iload_n C.1.1 C.1.2.1 dX2_hasRow_4 rfl (lv_at hl 1 rfl) ?_
    refine lv_aload_n C.1.1 C.1.2.1 dX2_hasRow_5 rfl (lv_at hl 0 rfl) ?_
    refine r_getI C hw (kx17 _) fX2_47 rfl dX2_hasRow_6 ?_
    refine lv_icmp_ge (tgt := 16) C.1.1 C.1.2.1 dX2_hasRow_9 (by decide) (fun hc => ?_) (fun hc => ?_)
    · replace h := ite_pos' h hc
      exact w_X2_hasRow_p_16 C hx hw (lv_sub hl [] rfl) h
    · replace h := ite_neg' h hc
      refine lv_iconst (v := 1) C.1.1 C.1.2.1 dX2_hasRow_12 (by decide) ?_
      refine lv_goto (tgt := 17) C.1.1 C.1.2.1 dX2_hasRow_13 (by decide) ?_
      cases h
      exact r_iret C hw (Or.inr ⟨rfl, Or.inr rfl⟩) dX2_hasRow_17
set_option maxHeartbeats 4000000 in
set_option maxRecDepth 100000 in
theorem c_X2_hasRow_p (hx : HX hr ad) {a1 : Int32} {g : GM} {r : Int32} (h : F_X2_hasRow_p a1 g = some r) (sz : Nat) : Met l yX2_hasRow (WSX yX2_hasRow cX2_hasRow 2 (some .boolean)) (RM 1 0 0) (va_Pc [.ref (ad 17), .int a1] (PX D cA ev hr ad (KX ++ tl) g sz)) (QI D cA ev hr ad (AX ad (KX ++ tl).length sz) (KX ++ tl) r g) 0 0 (AX ad (KX ++ tl).length sz) :=
  met_of (own := RX2) pnX2 rfl (Nat.le_of_ble_eq_true rfl) (fun p e s m below meth c ls C hw hsz hl => w_X2_hasRow_p_0 C hx hw hl h)
set_option maxHeartbeats 4000000 in
set_option maxRecDepth 100000 in
theorem w_X2_findLinks_p_69 {x1 : Int32} {x2 : Int32} {g : GM} {gz : GM} (kb2 : Int32 × GM → Option (GM)) (hk2 : ∀ (x1 : Int32) (g : GM) (H : Heap) (locs : List Loc) (ls : Array Slot), WS D cA ev hr ad A (KX ++ tl) s H locs g → lv_has ls 3 [(0, .ref (ad 17)), (1, .int x1)] → kb2 (x1, g) = some gz → W p l e (RM 3 0 0) s m args below meth c H locs 0 0 (MQ below (QV D cA ev hr ad A (KX ++ tl) gz) args s 0 0 A) (F0 m 2 ls [])) (kb19 : Int32 × GM → Option (GM)) (hk19 : ∀ (x2 : Int32) (g : GM) (H : Heap) (locs : List Loc) (ls : Array Slot), WS D cA ev hr ad A (KX ++ tl) s H locs g → lv_has ls 3 [(0, .ref (ad 17)), (1, .int x1), (2, .int x2)] → kb19 (x2, g) = some gz → W p l e (RM 3 0 0) s m args below meth c H locs 0 0 (MQ below (QV D cA ev hr ad A (KX ++ tl) gz) args s 0 0 A) (F0 m 19 ls [])) (C : CX p s m args meth c RX2 yX2_findLinks cX2_findLinks 3 none D cA) (hx : HX hr ad) {H : Heap} {locs : List Loc} (hw : WS D cA ev hr ad A (KX ++ tl) s H locs g) {ls : Array Slot} (hl : lv_has ls 3 [(0, .ref (ad 17)), (1, .int x1), (2, .int x2)]) (h : F_X2_findLinks_p_69 kb2 kb19 x1 x2 g = some gz) : W p l e (RM 3 0 0) s m args below meth c H locs 0 0 (MQ below (QV D cA ev hr ad A (KX ++ tl) gz) args s 0 0 A) (F0 m 69 ls []) := by
  refine lv_iinc (v := x2 + 1) (lv' := [(2, .int (x2 + 1)), (0, .ref (ad 17)), (1, .int x1)]) C.1.1 C.1.2.1 dX2_findLinks_69 hl (k := 2) rfl rfl (by decide) rfl (fun ls hl => ?_)
  refine lt_gen (P := fun x => lv_has ls 3 [(2, .int x), (0, .ref (ad 17)), (1, .int x1)]) h hl (fun x2_1 h hl => ?_)
  refine lv_goto (tgt := 19) C.1.1 C.1.2.1 dX2_findLinks_72 (by decide) ?_
  exact hk19 _ _ _ _ _ hw (lv_sub hl [1, 2, 0] rfl) h
set_option maxHeartbeats 4000000 in
set_option maxRecDepth 100000 in
theorem w_X2_findLinks_p_19 {x1 : Int32} {gz : GM} (kb2 : Int32 × GM → Option (GM)) (hk2 : ∀ (x1 : Int32) (g : GM) (H : Heap) (locs : List Loc) (ls : Array Slot), WS D cA ev hr ad A (KX ++ tl) s H locs g → lv_has ls 3 [(0, .ref (ad 17)), (1, .int x1)] → kb2 (x1, g) = some gz → W p l e (RM 3 0 0) s m args below meth c H locs 0 0 (MQ below (QV D cA ev hr ad A (KX ++ tl) gz) args s 0 0 A) (F0 m 2 ls [])) (kb19 : Int32 × GM → Option (GM)) (hk19 : ∀ (x2 : Int32) (g : GM) (H : Heap) (locs : List Loc) (ls : Array Slot), WS D cA ev hr ad A (KX ++ tl) s H locs g → lv_has ls 3 [(0, .ref (ad 17)), (1, .int x1), (2, .int x2)] → kb19 (x2, g) = some gz → W p l e (RM 3 0 0) s m args below meth c H locs 0 0 (MQ below (QV D cA ev hr ad A (KX ++ tl) gz) args s 0 0 A) (F0 m 19 ls [])) (C : CX p s m args meth c RX2 yX2_findLinks cX2_findLinks 3 none D cA) (hx : HX hr ad) {H : Heap} {locs : List Loc} {x2 : Int32} {g : GM} (hw : WS D cA ev hr ad A (KX ++ tl) s H locs g) {ls : Array Slot} (hl : lv_has ls 3 [(0, .ref (ad 17)), (1, .int x1), (2, .int x2)]) (h : F_X2_findLinks_p_19B kb2 x1 kb19 (x2, g) = some gz) : W p l e (RM 3 0 0) s m args below meth c H locs 0 0 (MQ below (QV D cA ev hr ad A (KX ++ tl) gz) args s 0 0 A) (F0 m 19 ls []) := by
  refine lv_iload_n C.1.1 C.1.2.1 dX2_findLinks_19 rfl (lv_at hl 2 rfl) ?_
  refine lv_iconst (v := 5) C.1.1 C.1.2.1 dX2_findLinks_20 (by decide) ?_
  refine lv_icmp_ge (tgt := 75) C.1.1 C.1.2.1 dX2_findLinks_21 (by decide) (fun hc => ?_) (fun hc => ?_)
  · replace h := ite_pos' h hc
    refine lv_iinc (v := x1 + 1) (lv' := [(1, .int (x1 + 1)), (0, .ref (ad 17)), (2, .int x2)]) C.1.1 C.1.2.1 dX2_findLinks_75 hl (k := 1) rfl rfl (by decide) rfl (fun ls hl => ?_)
    refine lt_gen (P := fun x => lv_has ls 3 [(1, .int x), (0, .ref (ad 17)), (2, .int x2)]) h hl (fun x1_2 h hl => ?_)
    refine lv_goto (tgt := 2) C.1.1 C.1.2.1 dX2_findLinks_78 (by decide) ?_
    exact hk2 _ _ _ _ _ hw (lv_sub hl [1, 0] rfl) h
  · replace h := ite_neg' h hc
    refine lv_aload_n C.1.1 C.1.2.1 dX2_findLinks_24 rfl (lv_at hl 0 rfl) ?_
    refine lv_aload_n C.1.1 C.1.2.1 dX2_findLinks_25 rfl (lv_at hl 0 rfl) ?_
    refine r_getR (v := .ref (ad 23)) C hw (kx17 _) fX2_28 rfl (hx17_7 hx) dX2_findLinks_26 ?_
    refine lv_iload_n C.1.1 C.1.2.1 dX2_findLinks_29 rfl (lv_at hl 1 rfl) ?_
    obtain ⟨hz, h⟩ := ck_some h
    refine r_iald C hw (kx23 _) (inB_in hz) dX2_findLinks_30 ?_
    refine lv_iload_n C.1.1 C.1.2.1 dX2_findLinks_31 rfl (lv_at hl 2 rfl) ?_
    obtain ⟨r_3, hc, h⟩ := bnd_some h
    refine r_vI (dc := 2) (As := [.int (gi g 23 x1.toNatClampNeg), .int x2]) (rest := []) C hw vX2_79 (kx17 _) (by decide) rfl (fun sz => c_X2_target_p hx hc sz) (by decide) rfl rfl hl.1 (Nat.le_of_ble_eq_true rfl) dX2_findLinks_32 ⟨Nat.le_refl _, Nat.le_refl _⟩ (fun H locs hw => ?_)
    refine lv_iconst (v := (-1)) C.1.1 C.1.2.1 dX2_findLinks_35 (by decide) ?_
    refine lv_icmp_eq (tgt := 69) C.1.1 C.1.2.1 dX2_findLinks_36 (by decide) (fun hc => ?_) (fun hc => ?_)
    · replace h := ite_pos' h hc
      exact w_X2_findLinks_p_69 kb2 hk2 kb19 hk19 C hx hw hl h
    · replace h := ite_neg' h hc
      refine lv_aload_n C.1.1 C.1.2.1 dX2_findLinks_39 rfl (lv_at hl 0 rfl) ?_
      refine lv_aload_n C.1.1 C.1.2.1 dX2_findLinks_40 rfl (lv_at hl 0 rfl) ?_
      refine lv_iload_n C.1.1 C.1.2.1 dX2_findLinks_41 rfl (lv_at hl 1 rfl) ?_
      refine lv_iload_n C.1.1 C.1.2.1 dX2_findLinks_42 rfl (lv_at hl 2 rfl) ?_
      obtain ⟨r_4, hc, h⟩ := bnd_some h
      refine r_vI (dc := 1) (As := [.int x1, .int x2]) (rest := [.ref (ad 17)]) C hw vX2_64 (kx17 _) (by decide) rfl (fun sz => c_X2_cell_p hx hc sz) (by decide) rfl rfl hl.1 (Nat.le_of_ble_eq_true rfl) dX2_findLinks_43 ⟨Nat.le_refl _, Nat.le_refl _⟩ (fun H locs hw => ?_)
      obtain ⟨r_5, hc, h⟩ := bnd_some h
      refine r_vI (dc := 1) (As := [.int r_4]) (rest := []) C hw vX2_82 (kx17 _) (by decide) rfl (fun sz => c_X2_hasRow_p hx hc sz) (by decide) rfl rfl hl.1 (Nat.le_of_ble_eq_true rfl) dX2_findLinks_46 ⟨Nat.le_refl _, Nat.le_refl _⟩ (fun H locs hw => ?_)
      refine lv_if_eq (tgt := 69) C.1.1 C.1.2.1 dX2_findLinks_49 (by decide) (fun hc => ?_) (fun hc => ?_)
      · replace h := ite_pos' h hc
        exact w_X2_findLinks_p_69 kb2 hk2 kb19 hk19 C hx hw hl h
      · replace h := ite_neg' h hc
        refine lv_aload_n C.1.1 C.1.2.1 dX2_findLinks_52 rfl (lv_at hl 0 rfl) ?_
        refine r_getR (v := .ref (ad 27)) C hw (kx17 _) fX2_40 rfl (hx17_11 hx) dX2_findLinks_53 ?_
        refine lv_iload_n C.1.1 C.1.2.1 dX2_findLinks_56 rfl (lv_at hl 1 rfl) ?_
        refine lv_dup2_11 C.1.1 C.1.2.1 dX2_findLinks_57 rfl rfl ?_
        obtain ⟨hz, h⟩ := ck_some h
        refine r_iald C hw (kx27 _) (inB_in hz) dX2_findLinks_58 ?_
        refine lv_iconst (v := 1) C.1.1 C.1.2.1 dX2_findLinks_59 (by decide) ?_
        refine lv_aload_n C.1.1 C.1.2.1 dX2_findLinks_60 rfl (lv_at hl 0 rfl) ?_
        refine lv_iload_n C.1.1 C.1.2.1 dX2_findLinks_61 rfl (lv_at hl 1 rfl) ?_
        refine lv_iload_n C.1.1 C.1.2.1 dX2_findLinks_62 rfl (lv_at hl 2 rfl) ?_
        obtain ⟨r_6, hc, h⟩ := bnd_some h
        refine r_vI (dc := 1) (As := [.int x1, .int x2]) (rest := [.int 1, .int (gi g 27 x1.toNatClampNeg), .int x1, .ref (ad 27)]) C hw vX2_64 (kx17 _) (by decide) rfl (fun sz => c_X2_cell_p hx hc sz) (by decide) rfl rfl hl.1 (Nat.le_of_ble_eq_true rfl) dX2_findLinks_63 ⟨Nat.le_refl _, Nat.le_refl _⟩ (fun H locs hw => ?_)
        refine lv_ishl C.1.1 C.1.2.1 dX2_findLinks_66 ?_
        refine lv_ior C.1.1 C.1.2.1 dX2_findLinks_67 ?_
        obtain ⟨hz, h⟩ := ck_some h
        refine r_iast C hw (kx27 _) (inB_in hz) dX2_findLinks_68 (fun H locs hw => ?_)
        refine lt_gen (P := fun g => WS D cA ev hr ad A (KX ++ tl) s H locs g) h hw (fun g_7 h hw => ?_)
        exact w_X2_findLinks_p_69 kb2 hk2 kb19 hk19 C hx hw hl h
set_option maxHeartbeats 4000000 in
set_option maxRecDepth 100000 in
theorem w_X2_findLinks_p_19L {x1 : Int32} {gz : GM} (kb2 : Int32 × GM → Option (GM)) (hk2 : ∀ (x1 : Int32) (g : GM) (H : Heap) (locs : List Loc) (ls : Array Slot), WS D cA ev hr ad A (KX ++ tl) s H locs g → lv_has ls 3 [(0, .ref (ad 17)), (1, .int x1)] → kb2 (x1, g) = some gz → W p l e (RM 3 0 0) s m args below meth c H locs 0 0 (MQ below (QV D cA ev hr ad A (KX ++ tl) gz) args s 0 0 A) (F0 m 2 ls [])) (C : CX p s m args meth c RX2 yX2_findLinks cX2_findLinks 3 none D cA) (hx : HX hr ad) : ∀ (n : Nat) (x2 : Int32) (g : GM) (H : Heap) (locs : List Loc) (ls : Array Slot), WS D cA ev hr ad A (KX ++ tl) s H locs g → lv_has ls 3 [(0, .ref (ad 17)), (1, .int x1), (2, .int x2)] → fixN (F_X2_findLinks_p_19B kb2 x1) n (x2, g) = some gz → W p l e (RM 3 0 0) s m args below meth c H locs 0 0 (MQ below (QV D cA ev hr ad A (KX ++ tl) gz) args s 0 0 A) (F0 m 19 ls []) := by
  intro n
  induction n with
  | zero => intro x2 g H locs ls hw hl h; exact (fix_zero h).elim
  | succ n ih => intro x2 g H locs ls hw hl h; exact w_X2_findLinks_p_19 kb2 hk2 (fixN (F_X2_findLinks_p_19B kb2 x1) n) ih C hx hw hl h
set_option maxHeartbeats 4000000 in
set_option maxRecDepth 100000 in
theorem w_X2_findLinks_p_2 {gz : GM} (kb2 : Int32 × GM → Option (GM)) (hk2 : ∀ (x1 : Int32) (g : GM) (H : Heap) (locs : List Loc) (ls : Array Slot), WS D cA ev hr ad A (KX ++ tl) s H locs g → lv_has ls 3 [(0, .ref (ad 17)), (1, .int x1)] → kb2 (x1, g) = some gz → W p l e (RM 3 0 0) s m args below meth c H locs 0 0 (MQ below (QV D cA ev hr ad A (KX ++ tl) gz) args s 0 0 A) (F0 m 2 ls [])) (C : CX p s m args meth c RX2 yX2_findLinks cX2_findLinks 3 none D cA) (hx : HX hr ad) {H : Heap} {locs : List Loc} {x1 : Int32} {g : GM} (hw : WS D cA ev hr ad A (KX ++ tl) s H locs g) {ls : Array Slot} (hl : lv_has ls 3 [(0, .ref (ad 17)), (1, .int x1)]) (h : F_X2_findLinks_p_2B kb2 (x1, g) = some gz) : W p l e (RM 3 0 0) s m args below meth c H locs 0 0 (MQ below (QV D cA ev hr ad A (KX ++ tl) gz) args s 0 0 A) (F0 m 2 ls []) := by
  refine lv_iload_n C.1.1 C.1.2.1 dX2_findLinks_2 rfl (lv_at hl 1 rfl) ?_
  refine lv_aload_n C.1.1 C.1.2.1 dX2_findLinks_3 rfl (lv_at hl 0 rfl) ?_
  refine r_getI C hw (kx17 _) fX2_47 rfl dX2_findLinks_4 ?_
  refine lv_icmp_ge (tgt := 81) C.1.1 C.1.2.1 dX2_findLinks_7 (by decide) (fun hc => ?_) (fun hc => ?_)
  · replace h := ite_pos' h hc
    cases h
    exact r_vret C hw rfl dX2_findLinks_81
  · replace h := ite_neg' h hc
    refine lv_aload_n C.1.1 C.1.2.1 dX2_findLinks_10 rfl (lv_at hl 0 rfl) ?_
    refine r_getR (v := .ref (ad 27)) C hw (kx17 _) fX2_40 rfl (hx17_11 hx) dX2_findLinks_11 ?_
    refine lv_iload_n C.1.1 C.1.2.1 dX2_findLinks_14 rfl (lv_at hl 1 rfl) ?_
    refine lv_iconst (v := 0) C.1.1 C.1.2.1 dX2_findLinks_15 (by decide) ?_
    obtain ⟨hz, h⟩ := ck_some h
    refine r_iast C hw (kx27 _) (inB_in hz) dX2_findLinks_16 (fun H locs hw => ?_)
    refine lt_gen (P := fun g => WS D cA ev hr ad A (KX ++ tl) s H locs g) h hw (fun g_8 h hw => ?_)
    refine lv_iconst (v := 0) C.1.1 C.1.2.1 dX2_findLinks_17 (by decide) ?_
    refine lv_istore_n (lv' := [(2, .int 0), (0, .ref (ad 17)), (1, .int x1)]) C.1.1 C.1.2.1 dX2_findLinks_18 rfl hl (by decide) rfl (fun ls hl => ?_)
    exact w_X2_findLinks_p_19L kb2 hk2 C hx FU _ _ _ _ _ hw (lv_sub hl [1, 2, 0] rfl) h
set_option maxHeartbeats 4000000 in
set_option maxRecDepth 100000 in
theorem w_X2_findLinks_p_2L {gz : GM} (C : CX p s m args meth c RX2 yX2_findLinks cX2_findLinks 3 none D cA) (hx : HX hr ad) : ∀ (n : Nat) (x1 : Int32) (g : GM) (H : Heap) (locs : List Loc) (ls : Array Slot), WS D cA ev hr ad A (KX ++ tl) s H locs g → lv_has ls 3 [(0, .ref (ad 17)), (1, .int x1)] → fixN (F_X2_findLinks_p_2B) n (x1, g) = some gz → W p l e (RM 3 0 0) s m args below meth c H locs 0 0 (MQ below (QV D cA ev hr ad A (KX ++ tl) gz) args s 0 0 A) (F0 m 2 ls []) := by
  intro n
  induction n with
  | zero => intro x1 g H locs ls hw hl h; exact (fix_zero h).elim
  | succ n ih => intro x1 g H locs ls hw hl h; exact w_X2_findLinks_p_2 (fixN (F_X2_findLinks_p_2B) n) ih C hx hw hl h
set_option maxHeartbeats 4000000 in
set_option maxRecDepth 100000 in
theorem w_X2_findLinks_p_0 (C : CX p s m args meth c RX2 yX2_findLinks cX2_findLinks 3 none D cA) (hx : HX hr ad) {H : Heap} {locs : List Loc} {g : GM} (hw : WS D cA ev hr ad A (KX ++ tl) s H locs g) {ls : Array Slot} (hl : lv_has ls 3 [(0, .ref (ad 17))]) {gz : GM} (h : F_X2_findLinks_p g = some gz) : W p l e (RM 3 0 0) s m args below meth c H locs 0 0 (MQ below (QV D cA ev hr ad A (KX ++ tl) gz) args s 0 0 A) (F0 m 0 ls []) := by
  refine lv_iconst (v := 0) C.1.1 C.1.2.1 dX2_findLinks_0 (by decide) ?_
  refine lv_istore_n (lv' := [(1, .int 0), (0, .ref (ad 17))]) C.1.1 C.1.2.1 dX2_findLinks_1 rfl hl (by decide) rfl (fun ls hl => ?_)
  exact w_X2_findLinks_p_2L C hx FU _ _ _ _ _ hw (lv_sub hl [1, 0] rfl) h
set_option maxHeartbeats 4000000 in
set_option maxRecDepth 100000 in
theorem c_X2_findLinks_p (hx : HX hr ad) {g : GM} {gz : GM} (h : F_X2_findLinks_p g = some gz) (sz : Nat) : Met l yX2_findLinks (WSX yX2_findLinks cX2_findLinks 3 none) (RM 3 0 0) (va_Pc [.ref (ad 17)] (PX D cA ev hr ad (KX ++ tl) g sz)) (QV D cA ev hr ad (AX ad (KX ++ tl).length sz) (KX ++ tl) gz) 0 0 (AX ad (KX ++ tl).length sz) :=
  met_of (own := RX2) pnX2 rfl (Nat.le_of_ble_eq_true rfl) (fun p e s m below meth c ls C hw hsz hl => w_X2_findLinks_p_0 C hx hw hl h)
set_option maxHeartbeats 4000000 in
set_option maxRecDepth 100000 in
theorem w_X3_readAll_162 {g : GM} {r : Int32} {gz : GM} (C : CX p s m args meth c RX3 yX3_readAll cX3_readAll 3 (some .boolean) D cA) (hx : HS hr ad) {H : Heap} {locs : List Loc} (hw : WS D cA ev hr ad A (KX ++ [(3, 2)]) s H locs g) {ls : Array Slot} (hl : lv_has ls 3 [(0, .ref (ad 42))]) (h : F_X3_readAll_162 g = some (r, gz)) : W p l e (RM 12 0 0) s m args below meth c H locs 0 0 (MQ below (QI D cA ev hr ad A (KX ++ [(3, 2)]) r gz) args s 0 0 A) (F0 m 162 ls []) := by
  refine lv_aload_n C.1.1 C.1.2.1 dX3_readAll_162 rfl (lv_at hl 0 rfl) ?_
  refine r_getR (v := .ref (ad 1)) C hw kLS42 fX3_9 rfl hx.2.1 dX3_readAll_163 ?_
  refine r_getI C hw (kx1 _) fX3_30 rfl dX3_readAll_166 ?_
  refine lv_if_ne (tgt := 176) C.1.1 C.1.2.1 dX3_readAll_169 (by decide) (fun hc => ?_) (fun hc => ?_)
  · replace h := ite_neg' h hc
    refine lv_iconst (v := 0) C.1.1 C.1.2.1 dX3_readAll_176 (by decide) ?_
    cases h
    exact r_iret C hw (Or.inr ⟨rfl, Or.inl rfl⟩) dX3_readAll_177
  · replace h := ite_pos' h hc
    refine lv_iconst (v := 1) C.1.1 C.1.2.1 dX3_readAll_172 (by decide) ?_
    refine lv_goto (tgt := 177) C.1.1 C.1.2.1 dX3_readAll_173 (by decide) ?_
    cases h
    exact r_iret C hw (Or.inr ⟨rfl, Or.inr rfl⟩) dX3_readAll_177
set_option maxHeartbeats 4000000 in
set_option maxRecDepth 100000 in
theorem w_X3_readAll_145 {g : GM} {r : Int32} {gz : GM} (C : CX p s m args meth c RX3 yX3_readAll cX3_readAll 3 (some .boolean) D cA) (hx : HS hr ad) {H : Heap} {locs : List Loc} (hw : WS D cA ev hr ad A (KX ++ [(3, 2)]) s H locs g) {ls : Array Slot} (hl : lv_has ls 3 [(0, .ref (ad 42))]) (h : F_X3_readAll_145 g = some (r, gz)) : W p l e (RM 12 0 0) s m args below meth c H locs 0 0 (MQ below (QI D cA ev hr ad A (KX ++ [(3, 2)]) r gz) args s 0 0 A) (F0 m 145 ls []) := by
  refine lv_aload_n C.1.1 C.1.2.1 dX3_readAll_145 rfl (lv_at hl 0 rfl) ?_
  refine r_getR (v := .ref (ad 1)) C hw kLS42 fX3_9 rfl hx.2.1 dX3_readAll_146 ?_
  refine r_getI C hw (kx1 _) fX3_30 rfl dX3_readAll_149 ?_
  refine lv_if_ne (tgt := 162) C.1.1 C.1.2.1 dX3_readAll_152 (by decide) (fun hc => ?_) (fun hc => ?_)
  · replace h := ite_neg' h hc
    exact w_X3_readAll_162 C hx hw hl h
  · replace h := ite_pos' h hc
    refine lv_aload_n C.1.1 C.1.2.1 dX3_readAll_155 rfl (lv_at hl 0 rfl) ?_
    refine r_getR (v := .ref (ad 17)) C hw kLS42 fX3_15 rfl hx.2.2 dX3_readAll_156 ?_
    obtain ⟨g_1, hc, h⟩ := bnd_some h
    refine r_vV (dc := 3) (As := []) (rest := []) C hw vX3_56 (kx17 _) (by decide) rfl (fun sz => c_X2_findLinks_p hx.1 hc sz) (by decide) rfl rfl hl.1 (Nat.le_of_ble_eq_true rfl) dX3_readAll_159 ⟨Nat.le_refl _, Nat.le_refl _⟩ (fun H locs hw => ?_)
    exact w_X3_readAll_162 C hx hw hl h
set_option maxHeartbeats 4000000 in
set_option maxRecDepth 100000 in
theorem w_X3_readAll_131 {g : GM} {r : Int32} {gz : GM} (C : CX p s m args meth c RX3 yX3_readAll cX3_readAll 3 (some .boolean) D cA) (hx : HS hr ad) {H : Heap} {locs : List Loc} (hw : WS D cA ev hr ad A (KX ++ [(3, 2)]) s H locs g) {ls : Array Slot} (hl : lv_has ls 3 [(0, .ref (ad 42))]) (h : F_X3_readAll_131 g = some (r, gz)) : W p l e (RM 12 0 0) s m args below meth c H locs 0 0 (MQ below (QI D cA ev hr ad A (KX ++ [(3, 2)]) r gz) args s 0 0 A) (F0 m 131 ls []) := by
  refine lv_aload_n C.1.1 C.1.2.1 dX3_readAll_131 rfl (lv_at hl 0 rfl) ?_
  refine r_getR (v := .ref (ad 1)) C hw kLS42 fX3_9 rfl hx.2.1 dX3_readAll_132 ?_
  refine r_getI C hw (kx1 _) fX3_30 rfl dX3_readAll_135 ?_
  refine lv_if_ne (tgt := 145) C.1.1 C.1.2.1 dX3_readAll_138 (by decide) (fun hc => ?_) (fun hc => ?_)
  · replace h := ite_neg' h hc
    exact w_X3_readAll_145 C hx hw hl h
  · replace h := ite_pos' h hc
    refine lv_aload_n C.1.1 C.1.2.1 dX3_readAll_141 rfl (lv_at hl 0 rfl) ?_
    obtain ⟨g_2, hc, h⟩ := bnd_some h
    refine r_vV (dc := 3) (As := []) (rest := []) C hw vX3_53 kLS42 (by decide) rfl (fun sz => c_X3_joinLinks hx hc sz) (by decide) rfl rfl hl.1 (Nat.le_of_ble_eq_true rfl) dX3_readAll_142 ⟨Nat.le_refl _, Nat.le_refl _⟩ (fun H locs hw => ?_)
    exact w_X3_readAll_145 C hx hw hl h
set_option maxHeartbeats 4000000 in
set_option maxRecDepth 100000 in
theorem w_X3_readAll_125 {x1 : Int32} {x2 : Int32} {g : GM} {r : Int32} {gz : GM} (kb20 : Int32 × GM → Option (Int32 × GM)) (hk20 : ∀ (x2 : Int32) (g : GM) (H : Heap) (locs : List Loc) (ls : Array Slot), WS D cA ev hr ad A (KX ++ [(3, 2)]) s H locs g → lv_has ls 3 [(0, .ref (ad 42)), (1, .int x1), (2, .int x2)] → kb20 (x2, g) = some (r, gz) → W p l e (RM 12 0 0) s m args below meth c H locs 0 0 (MQ below (QI D cA ev hr ad A (KX ++ [(3, 2)]) r gz) args s 0 0 A) (F0 m 20 ls [])) (C : CX p s m args meth c RX3 yX3_readAll cX3_readAll 3 (some .boolean) D cA) (hx : HS hr ad) {H : Heap} {locs : List Loc} (hw : WS D cA ev hr ad A (KX ++ [(3, 2)]) s H locs g) {ls : Array Slot} (hl : lv_has ls 3 [(0, .ref (ad 42)), (1, .int x1), (2, .int x2)]) (h : F_X3_readAll_125 kb20 x1 x2 g = some (r, gz)) : W p l e (RM 12 0 0) s m args below meth c H locs 0 0 (MQ below (QI D cA ev hr ad A (KX ++ [(3, 2)]) r gz) args s 0 0 A) (F0 m 125 ls []) := by
  refine lv_iinc (v := x2 + 1) (lv' := [(2, .int (x2 + 1)), (0, .ref (ad 42)), (1, .int x1)]) C.1.1 C.1.2.1 dX3_readAll_125 hl (k := 2) rfl rfl (by decide) rfl (fun ls hl => ?_)
  refine lt_gen (P := fun x => lv_has ls 3 [(2, .int x), (0, .ref (ad 42)), (1, .int x1)]) h hl (fun x2_3 h hl => ?_)
  refine lv_goto (tgt := 20) C.1.1 C.1.2.1 dX3_readAll_128 (by decide) ?_
  exact hk20 _ _ _ _ _ hw (lv_sub hl [1, 2, 0] rfl) h
set_option maxHeartbeats 4000000 in
set_option maxRecDepth 100000 in
theorem w_X3_readAll_118 {x1 : Int32} {x2 : Int32} {g : GM} {r : Int32} {gz : GM} (kb20 : Int32 × GM → Option (Int32 × GM)) (hk20 : ∀ (x2 : Int32) (g : GM) (H : Heap) (locs : List Loc) (ls : Array Slot), WS D cA ev hr ad A (KX ++ [(3, 2)]) s H locs g → lv_has ls 3 [(0, .ref (ad 42)), (1, .int x1), (2, .int x2)] → kb20 (x2, g) = some (r, gz) → W p l e (RM 12 0 0) s m args below meth c H locs 0 0 (MQ below (QI D cA ev hr ad A (KX ++ [(3, 2)]) r gz) args s 0 0 A) (F0 m 20 ls [])) (C : CX p s m args meth c RX3 yX3_readAll cX3_readAll 3 (some .boolean) D cA) (hx : HS hr ad) {H : Heap} {locs : List Loc} (hw : WS D cA ev hr ad A (KX ++ [(3, 2)]) s H locs g) {ls : Array Slot} (hl : lv_has ls 3 [(0, .ref (ad 42)), (1, .int x1), (2, .int x2)]) (h : F_X3_readAll_118 kb20 x1 x2 g = some (r, gz)) : W p l e (RM 12 0 0) s m args below meth c H locs 0 0 (MQ below (QI D cA ev hr ad A (KX ++ [(3, 2)]) r gz) args s 0 0 A) (F0 m 118 ls []) := by
  refine lv_aload_n C.1.1 C.1.2.1 dX3_readAll_118 rfl (lv_at hl 0 rfl) ?_
  refine r_getR (v := .ref (ad 1)) C hw kLS42 fX3_9 rfl hx.2.1 dX3_readAll_119 ?_
  obtain ⟨g_4, hc, h⟩ := bnd_some h
  refine r_vV (dc := 2) (As := []) (rest := []) C hw vX3_50 (kx1 _) (by decide) rfl (fun sz => c_X4_refuseToken hx.1 hc sz) (by decide) rfl rfl hl.1 (Nat.le_of_ble_eq_true rfl) dX3_readAll_122 ⟨Nat.le_refl _, Nat.le_refl _⟩ (fun H locs hw => ?_)
  exact w_X3_readAll_125 kb20 hk20 C hx hw hl h
set_option maxHeartbeats 4000000 in
set_option maxRecDepth 100000 in
theorem w_X3_readAll_81 {x1 : Int32} {x2 : Int32} {g : GM} {r : Int32} {gz : GM} (kb20 : Int32 × GM → Option (Int32 × GM)) (hk20 : ∀ (x2 : Int32) (g : GM) (H : Heap) (locs : List Loc) (ls : Array Slot), WS D cA ev hr ad A (KX ++ [(3, 2)]) s H locs g → lv_has ls 3 [(0, .ref (ad 42)), (1, .int x1), (2, .int x2)] → kb20 (x2, g) = some (r, gz) → W p l e (RM 12 0 0) s m args below meth c H locs 0 0 (MQ below (QI D cA ev hr ad A (KX ++ [(3, 2)]) r gz) args s 0 0 A) (F0 m 20 ls [])) (C : CX p s m args meth c RX3 yX3_readAll cX3_readAll 3 (some .boolean) D cA) (hx : HS hr ad) {H : Heap} {locs : List Loc} (hw : WS D cA ev hr ad A (KX ++ [(3, 2)]) s H locs g) {ls : Array Slot} (hl : lv_has ls 3 [(0, .ref (ad 42)), (1, .int x1), (2, .int x2)]) (h : F_X3_readAll_81 kb20 x1 x2 g = some (r, gz)) : W p l e (RM 12 0 0) s m args below meth c H locs 0 0 (MQ below (QI D cA ev hr ad A (KX ++ [(3, 2)]) r gz) args s 0 0 A) (F0 m 81 ls []) := by
  refine lv_aload_n C.1.1 C.1.2.1 dX3_readAll_81 rfl (lv_at hl 0 rfl) ?_
  refine r_getR (v := .ref (ad 1)) C hw kLS42 fX3_9 rfl hx.2.1 dX3_readAll_82 ?_
  refine r_getI C hw (kx1 _) fX3_34 rfl dX3_readAll_85 ?_
  refine lv_iconst (v := 5) C.1.1 C.1.2.1 dX3_readAll_88 (by decide) ?_
  refine lv_icmp_ne (tgt := 118) C.1.1 C.1.2.1 dX3_readAll_89 (by decide) (fun hc => ?_) (fun hc => ?_)
  · replace h := ite_neg' h hc
    exact w_X3_readAll_118 kb20 hk20 C hx hw hl h
  · replace h := ite_pos' h hc
    refine lv_aload_n C.1.1 C.1.2.1 dX3_readAll_92 rfl (lv_at hl 0 rfl) ?_
    refine r_getR (v := .ref (ad 17)) C hw kLS42 fX3_15 rfl hx.2.2 dX3_readAll_93 ?_
    refine r_getI C hw (kx17 _) fX3_44 rfl dX3_readAll_96 ?_
    refine lv_bipush (v := 16) C.1.1 C.1.2.1 dX3_readAll_99 (by decide) ?_
    refine lv_icmp_ge (tgt := 118) C.1.1 C.1.2.1 dX3_readAll_101 (by decide) (fun hc => ?_) (fun hc => ?_)
    · replace h := ite_pos' h hc
      exact w_X3_readAll_118 kb20 hk20 C hx hw hl h
    · replace h := ite_neg' h hc
      refine lv_aload_n C.1.1 C.1.2.1 dX3_readAll_104 rfl (lv_at hl 0 rfl) ?_
      refine lv_aload_n C.1.1 C.1.2.1 dX3_readAll_105 rfl (lv_at hl 0 rfl) ?_
      refine r_getR (v := .ref (ad 17)) C hw kLS42 fX3_15 rfl hx.2.2 dX3_readAll_106 ?_
      refine r_getI C hw (kx17 _) fX3_44 rfl dX3_readAll_109 ?_
      obtain ⟨g_5, hc, h⟩ := bnd_some h
      refine r_vV (dc := 11) (As := [.int (gi g 17 6)]) (rest := []) C hw vX3_47 kLS42 (by decide) rfl (fun sz => c_X3_readRow hx hc sz) (by decide) rfl rfl hl.1 (Nat.le_of_ble_eq_true rfl) dX3_readAll_112 ⟨Nat.le_refl _, Nat.le_refl _⟩ (fun H locs hw => ?_)
      refine lv_goto (tgt := 125) C.1.1 C.1.2.1 dX3_readAll_115 (by decide) ?_
      exact w_X3_readAll_125 kb20 hk20 C hx hw hl h
set_option maxHeartbeats 4000000 in
set_option maxRecDepth 100000 in
theorem w_X3_readAll_20 {x1 : Int32} {r : Int32} {gz : GM} (kb20 : Int32 × GM → Option (Int32 × GM)) (hk20 : ∀ (x2 : Int32) (g : GM) (H : Heap) (locs : List Loc) (ls : Array Slot), WS D cA ev hr ad A (KX ++ [(3, 2)]) s H locs g → lv_has ls 3 [(0, .ref (ad 42)), (1, .int x1), (2, .int x2)] → kb20 (x2, g) = some (r, gz) → W p l e (RM 12 0 0) s m args below meth c H locs 0 0 (MQ below (QI D cA ev hr ad A (KX ++ [(3, 2)]) r gz) args s 0 0 A) (F0 m 20 ls [])) (C : CX p s m args meth c RX3 yX3_readAll cX3_readAll 3 (some .boolean) D cA) (hx : HS hr ad) {H : Heap} {locs : List Loc} {x2 : Int32} {g : GM} (hw : WS D cA ev hr ad A (KX ++ [(3, 2)]) s H locs g) {ls : Array Slot} (hl : lv_has ls 3 [(0, .ref (ad 42)), (1, .int x1), (2, .int x2)]) (h : F_X3_readAll_20B x1 kb20 (x2, g) = some (r, gz)) : W p l e (RM 12 0 0) s m args below meth c H locs 0 0 (MQ below (QI D cA ev hr ad A (KX ++ [(3, 2)]) r gz) args s 0 0 A) (F0 m 20 ls []) := by
  refine lv_iload_n C.1.1 C.1.2.1 dX3_readAll_20 rfl (lv_at hl 2 rfl) ?_
  refine lv_iload_n C.1.1 C.1.2.1 dX3_readAll_21 rfl (lv_at hl 1 rfl) ?_
  refine lv_icmp_ge (tgt := 131) C.1.1 C.1.2.1 dX3_readAll_22 (by decide) (fun hc => ?_) (fun hc => ?_)
  · replace h := ite_pos' h hc
    exact w_X3_readAll_131 C hx hw (lv_sub hl [0] rfl) h
  · replace h := ite_neg' h hc
    refine lv_aload_n C.1.1 C.1.2.1 dX3_readAll_25 rfl (lv_at hl 0 rfl) ?_
    refine r_getR (v := .ref (ad 1)) C hw kLS42 fX3_9 rfl hx.2.1 dX3_readAll_26 ?_
    refine r_getI C hw (kx1 _) fX3_30 rfl dX3_readAll_29 ?_
    refine lv_if_ne (tgt := 131) C.1.1 C.1.2.1 dX3_readAll_32 (by decide) (fun hc => ?_) (fun hc => ?_)
    · replace h := ite_neg' h hc
      exact w_X3_readAll_131 C hx hw (lv_sub hl [0] rfl) h
    · replace h := ite_pos' h hc
      refine lv_aload_n C.1.1 C.1.2.1 dX3_readAll_35 rfl (lv_at hl 0 rfl) ?_
      refine r_getR (v := .ref (ad 1)) C hw kLS42 fX3_9 rfl hx.2.1 dX3_readAll_36 ?_
      refine r_getI C hw (kx1 _) fX3_34 rfl dX3_readAll_39 ?_
      refine lv_if_eq (tgt := 131) C.1.1 C.1.2.1 dX3_readAll_42 (by decide) (fun hc => ?_) (fun hc => ?_)
      · replace h := ite_pos' h hc
        exact w_X3_readAll_131 C hx hw (lv_sub hl [0] rfl) h
      · replace h := ite_neg' h hc
        refine lv_aload_n C.1.1 C.1.2.1 dX3_readAll_45 rfl (lv_at hl 0 rfl) ?_
        refine r_getR (v := .ref (ad 1)) C hw kLS42 fX3_9 rfl hx.2.1 dX3_readAll_46 ?_
        refine r_getI C hw (kx1 _) fX3_34 rfl dX3_readAll_49 ?_
        refine lv_iconst (v := 4) C.1.1 C.1.2.1 dX3_readAll_52 (by decide) ?_
        refine lv_icmp_ne (tgt := 81) C.1.1 C.1.2.1 dX3_readAll_53 (by decide) (fun hc => ?_) (fun hc => ?_)
        · replace h := ite_neg' h hc
          exact w_X3_readAll_81 kb20 hk20 C hx hw hl h
        · replace h := ite_pos' h hc
          refine lv_aload_n C.1.1 C.1.2.1 dX3_readAll_56 rfl (lv_at hl 0 rfl) ?_
          refine r_getR (v := .ref (ad 17)) C hw kLS42 fX3_15 rfl hx.2.2 dX3_readAll_57 ?_
          refine r_getI C hw (kx17 _) fX3_37 rfl dX3_readAll_60 ?_
          refine lv_iconst (v := 5) C.1.1 C.1.2.1 dX3_readAll_63 (by decide) ?_
          refine lv_icmp_ge (tgt := 81) C.1.1 C.1.2.1 dX3_readAll_64 (by decide) (fun hc => ?_) (fun hc => ?_)
          · replace h := ite_pos' h hc
            exact w_X3_readAll_81 kb20 hk20 C hx hw hl h
          · replace h := ite_neg' h hc
            refine lv_aload_n C.1.1 C.1.2.1 dX3_readAll_67 rfl (lv_at hl 0 rfl) ?_
            refine lv_aload_n C.1.1 C.1.2.1 dX3_readAll_68 rfl (lv_at hl 0 rfl) ?_
            refine r_getR (v := .ref (ad 17)) C hw kLS42 fX3_15 rfl hx.2.2 dX3_readAll_69 ?_
            refine r_getI C hw (kx17 _) fX3_37 rfl dX3_readAll_72 ?_
            obtain ⟨g_6, hc, h⟩ := bnd_some h
            refine r_vV (dc := 11) (As := [.int (gi g 17 0)]) (rest := []) C hw vX3_40 kLS42 (by decide) rfl (fun sz => c_X3_readTable hx hc sz) (by decide) rfl rfl hl.1 (Nat.le_of_ble_eq_true rfl) dX3_readAll_75 ⟨Nat.le_refl _, Nat.le_refl _⟩ (fun H locs hw => ?_)
            refine lv_goto (tgt := 125) C.1.1 C.1.2.1 dX3_readAll_78 (by decide) ?_
            exact w_X3_readAll_125 kb20 hk20 C hx hw hl h
set_option maxHeartbeats 4000000 in
set_option maxRecDepth 100000 in
theorem w_X3_readAll_20L {x1 : Int32} {r : Int32} {gz : GM} (C : CX p s m args meth c RX3 yX3_readAll cX3_readAll 3 (some .boolean) D cA) (hx : HS hr ad) : ∀ (n : Nat) (x2 : Int32) (g : GM) (H : Heap) (locs : List Loc) (ls : Array Slot), WS D cA ev hr ad A (KX ++ [(3, 2)]) s H locs g → lv_has ls 3 [(0, .ref (ad 42)), (1, .int x1), (2, .int x2)] → fixN (F_X3_readAll_20B x1) n (x2, g) = some (r, gz) → W p l e (RM 12 0 0) s m args below meth c H locs 0 0 (MQ below (QI D cA ev hr ad A (KX ++ [(3, 2)]) r gz) args s 0 0 A) (F0 m 20 ls []) := by
  intro n
  induction n with
  | zero => intro x2 g H locs ls hw hl h; exact (fix_zero h).elim
  | succ n ih => intro x2 g H locs ls hw hl h; exact w_X3_readAll_20 (fixN (F_X3_readAll_20B x1) n) ih C hx hw hl h
set_option maxHeartbeats 4000000 in
set_option maxRecDepth 100000 in
theorem w_X3_readAll_0 (C : CX p s m args meth c RX3 yX3_readAll cX3_readAll 3 (some .boolean) D cA) (hx : HS hr ad) {H : Heap} {locs : List Loc} {g : GM} (hw : WS D cA ev hr ad A (KX ++ [(3, 2)]) s H locs g) {ls : Array Slot} (hl : lv_has ls 3 [(0, .ref (ad 42))]) {r : Int32} {gz : GM} (h : F_X3_readAll g = some (r, gz)) : W p l e (RM 12 0 0) s m args below meth c H locs 0 0 (MQ below (QI D cA ev hr ad A (KX ++ [(3, 2)]) r gz) args s 0 0 A) (F0 m 0 ls []) := by
  refine lv_aload_n C.1.1 C.1.2.1 dX3_readAll_0 rfl (lv_at hl 0 rfl) ?_
  refine r_getR (v := .ref (ad 17)) C hw kLS42 fX3_15 rfl hx.2.2 dX3_readAll_1 ?_
  obtain ⟨g_7, hc, h⟩ := bnd_some h
  refine r_vV (dc := 2) (As := []) (rest := []) C hw vX3_19 (kx17 _) (by decide) rfl (fun sz => c_X2_clear_p hx.1 hc sz) (by decide) rfl rfl hl.1 (Nat.le_of_ble_eq_true rfl) dX3_readAll_4 ⟨Nat.le_refl _, Nat.le_refl _⟩ (fun H locs hw => ?_)
  refine lv_aload_n C.1.1 C.1.2.1 dX3_readAll_7 rfl (lv_at hl 0 rfl) ?_
  refine r_getR (v := .ref (ad 1)) C hw kLS42 fX3_9 rfl hx.2.1 dX3_readAll_8 ?_
  refine lv_iconst (v := 0) C.1.1 C.1.2.1 dX3_readAll_11 (by decide) ?_
  obtain ⟨g_8, hc, h⟩ := bnd_some h
  refine r_vV (dc := 9) (As := [.int 0]) (rest := []) C hw vX3_24 (kx1 _) (by decide) rfl (fun sz => c_X4_open hx.1 hc sz) (by decide) rfl rfl hl.1 (Nat.le_of_ble_eq_true rfl) dX3_readAll_12 ⟨Nat.le_refl _, Nat.le_refl _⟩ (fun H locs hw => ?_)
  refine lv_bipush (v := 22) C.1.1 C.1.2.1 dX3_readAll_15 (by decide) ?_
  refine lv_istore_n (lv' := [(1, .int 22), (0, .ref (ad 42))]) C.1.1 C.1.2.1 dX3_readAll_17 rfl hl (by decide) rfl (fun ls hl => ?_)
  refine lv_iconst (v := 0) C.1.1 C.1.2.1 dX3_readAll_18 (by decide) ?_
  refine lv_istore_n (lv' := [(2, .int 0), (1, .int 22), (0, .ref (ad 42))]) C.1.1 C.1.2.1 dX3_readAll_19 rfl hl (by decide) rfl (fun ls hl => ?_)
  exact w_X3_readAll_20L C hx FU _ _ _ _ _ hw (lv_sub hl [2, 1, 0] rfl) h
set_option maxHeartbeats 4000000 in
set_option maxRecDepth 100000 in
theorem c_X3_readAll (hx : HS hr ad) {g : GM} {r : Int32} {gz : GM} (h : F_X3_readAll g = some (r, gz)) (sz : Nat) : Met l yX3_readAll (WSX yX3_readAll cX3_readAll 3 (some .boolean)) (RM 12 0 0) (va_Pc [.ref (ad 42)] (PX D cA ev hr ad (KX ++ [(3, 2)]) g sz)) (QI D cA ev hr ad (AX ad (KX ++ [(3, 2)]).length sz) (KX ++ [(3, 2)]) r gz) 0 0 (AX ad (KX ++ [(3, 2)]).length sz) :=
  met_of (own := RX3) pnX3 rfl (Nat.le_of_ble_eq_true rfl) (fun p e s m below meth c ls C hw hsz hl => w_X3_readAll_0 C hx hw hl h)
set_option maxHeartbeats 4000000 in
set_option maxRecDepth 100000 in
theorem w_X1_binds_d_20 {g : GM} {r : Int32} (C : CX p s m args meth c RX1 yX1_binds cX1_binds 3 (some .boolean) D cA) (hx : HX hr ad) {H : Heap} {locs : List Loc} (hw : WS D cA ev hr ad A (KX ++ tl) s H locs g) {ls : Array Slot} (hl : lv_has ls 3 []) (h : F_X1_binds_d_20 g = some r) : W p l e (RM 1 0 0) s m args below meth c H locs 0 0 (MQ below (QI D cA ev hr ad A (KX ++ tl) r g) args s 0 0 A) (F0 m 20 ls []) := by
  refine lv_iconst (v := 1) C.1.1 C.1.2.1 dX1_binds_20 (by decide) ?_
  refine lv_goto (tgt := 25) C.1.1 C.1.2.1 dX1_binds_21 (by decide) ?_
  cases h
  exact r_iret C hw (Or.inr ⟨rfl, Or.inr rfl⟩) dX1_binds_25
set_option maxHeartbeats 4000000 in
set_option maxRecDepth 100000 in
theorem w_X1_binds_d_0 (C : CX p s m args meth c RX1 yX1_binds cX1_binds 3 (some .boolean) D cA) (hx : HX hr ad) {H : Heap} {locs : List Loc} {g : GM} (hw : WS D cA ev hr ad A (KX ++ tl) s H locs g) {a1 : Int32} {a2 : Int32} {ls : Array Slot} (hl : lv_has ls 3 [(0, .ref (ad 28)), (1, .int a1), (2, .int a2)]) {r : Int32} (h : F_X1_binds_d a1 a2 g = some r) : W p l e (RM 1 0 0) s m args below meth c H locs 0 0 (MQ below (QI D cA ev hr ad A (KX ++ tl) r g) args s 0 0 A) (F0 m 0 ls []) := by
  refine lv_aload_n C.1.1 C.1.2.1 dX1_binds_0 rfl (lv_at hl 0 rfl) ?_
  refine r_getR (v := .ref (ad 32)) C hw (kx28 _) fX1_22 rfl (hx28_5 hx) dX1_binds_1 ?_
  refine lv_iload_n C.1.1 C.1.2.1 dX1_binds_4 rfl (lv_at hl 1 rfl) ?_
  obtain ⟨hz, h⟩ := ck_some h
  refine r_iald C hw (kx32 _) (inB_in hz) dX1_binds_5 ?_
  refine lv_if_eq (tgt := 20) C.1.1 C.1.2.1 dX1_binds_6 (by decide) (fun hc => ?_) (fun hc => ?_)
  · replace h := ite_pos' h hc
    exact w_X1_binds_d_20 C hx hw (lv_sub hl [] rfl) h
  · replace h := ite_neg' h hc
    refine lv_aload_n C.1.1 C.1.2.1 dX1_binds_9 rfl (lv_at hl 0 rfl) ?_
    refine r_getR (v := .ref (ad 32)) C hw (kx28 _) fX1_22 rfl (hx28_5 hx) dX1_binds_10 ?_
    refine lv_iload_n C.1.1 C.1.2.1 dX1_binds_13 rfl (lv_at hl 1 rfl) ?_
    obtain ⟨hz, h⟩ := ck_some h
    refine r_iald C hw (kx32 _) (inB_in hz) dX1_binds_14 ?_
    refine lv_iload_n C.1.1 C.1.2.1 dX1_binds_15 rfl (lv_at hl 2 rfl) ?_
    refine lv_iand C.1.1 C.1.2.1 dX1_binds_16 ?_
    refine lv_if_eq (tgt := 24) C.1.1 C.1.2.1 dX1_binds_17 (by decide) (fun hc => ?_) (fun hc => ?_)
    · replace h := ite_pos' h hc
      refine lv_iconst (v := 0) C.1.1 C.1.2.1 dX1_binds_24 (by decide) ?_
      cases h
      exact r_iret C hw (Or.inr ⟨rfl, Or.inl rfl⟩) dX1_binds_25
    · replace h := ite_neg' h hc
      exact w_X1_binds_d_20 C hx hw (lv_sub hl [] rfl) h
set_option maxHeartbeats 4000000 in
set_option maxRecDepth 100000 in
theorem c_X1_binds_d (hx : HX hr ad) {a1 : Int32} {a2 : Int32} {g : GM} {r : Int32} (h : F_X1_binds_d a1 a2 g = some r) (sz : Nat) : Met l yX1_binds (WSX yX1_binds cX1_binds 3 (some .boolean)) (RM 1 0 0) (va_Pc [.ref (ad 28), .int a1, .int a2] (PX D cA ev hr ad (KX ++ tl) g sz)) (QI D cA ev hr ad (AX ad (KX ++ tl).length sz) (KX ++ tl) r g) 0 0 (AX ad (KX ++ tl).length sz) :=
  met_of (own := RX1) pnX1 rfl (Nat.le_of_ble_eq_true rfl) (fun p e s m below meth c ls C hw hsz hl => w_X1_binds_d_0 C hx hw hl h)
set_option maxHeartbeats 4000000 in
set_option maxRecDepth 100000 in
theorem w_X0_isPiece_111 {x1 : Int32} {x2 : Int32} {g : GM} {r : Int32} (kb58 : Int32 → Option (Int32)) (hk58 : ∀ (x2 : Int32) (H : Heap) (locs : List Loc) (ls : Array Slot), WS D cA ev hr ad A (KX ++ [(0, 6)]) s H locs g → lv_has ls 4 [(0, .ref (ad 42)), (1, .int x1), (2, .int x2)] → kb58 x2 = some r → W p l e (RM 2 0 0) s m args below meth c H locs 0 0 (MQ below (QI D cA ev hr ad A (KX ++ [(0, 6)]) r g) args s 0 0 A) (F0 m 58 ls [])) (C : CX p s m args meth c RX0 yX0_isPiece cX0_isPiece 4 (some .boolean) D cA) (hx : HC hr ad) {H : Heap} {locs : List Loc} (hw : WS D cA ev hr ad A (KX ++ [(0, 6)]) s H locs g) {ls : Array Slot} (hl : lv_has ls 4 [(0, .ref (ad 42)), (1, .int x1), (2, .int x2)]) (h : F_X0_isPiece_111 kb58 x1 x2 g = some r) : W p l e (RM 2 0 0) s m args below meth c H locs 0 0 (MQ below (QI D cA ev hr ad A (KX ++ [(0, 6)]) r g) args s 0 0 A) (F0 m 111 ls []) := by
  refine lv_iinc (v := x2 + 1) (lv' := [(2, .int (x2 + 1)), (0, .ref (ad 42)), (1, .int x1)]) C.1.1 C.1.2.1 dX0_isPiece_111 hl (k := 2) rfl rfl (by decide) rfl (fun ls hl => ?_)
  refine lt_gen (P := fun x => lv_has ls 4 [(2, .int x), (0, .ref (ad 42)), (1, .int x1)]) h hl (fun x2_1 h hl => ?_)
  refine lv_goto (tgt := 58) C.1.1 C.1.2.1 dX0_isPiece_114 (by decide) ?_
  exact hk58 _ _ _ _ hw (lv_sub hl [1, 2, 0] rfl) h
set_option maxHeartbeats 4000000 in
set_option maxRecDepth 100000 in
theorem w_X0_isPiece_58 {x1 : Int32} {g : GM} {r : Int32} (kb58 : Int32 → Option (Int32)) (hk58 : ∀ (x2 : Int32) (H : Heap) (locs : List Loc) (ls : Array Slot), WS D cA ev hr ad A (KX ++ [(0, 6)]) s H locs g → lv_has ls 4 [(0, .ref (ad 42)), (1, .int x1), (2, .int x2)] → kb58 x2 = some r → W p l e (RM 2 0 0) s m args below meth c H locs 0 0 (MQ below (QI D cA ev hr ad A (KX ++ [(0, 6)]) r g) args s 0 0 A) (F0 m 58 ls [])) (C : CX p s m args meth c RX0 yX0_isPiece cX0_isPiece 4 (some .boolean) D cA) (hx : HC hr ad) {H : Heap} {locs : List Loc} {x2 : Int32} (hw : WS D cA ev hr ad A (KX ++ [(0, 6)]) s H locs g) {ls : Array Slot} (hl : lv_has ls 4 [(0, .ref (ad 42)), (1, .int x1), (2, .int x2)]) (h : F_X0_isPiece_58B x1 g kb58 x2 = some r) : W p l e (RM 2 0 0) s m args below meth c H locs 0 0 (MQ below (QI D cA ev hr ad A (KX ++ [(0, 6)]) r g) args s 0 0 A) (F0 m 58 ls []) := by
  refine lv_iload_n C.1.1 C.1.2.1 dX0_isPiece_58 rfl (lv_at hl 2 rfl) ?_
  refine lv_aload_n C.1.1 C.1.2.1 dX0_isPiece_59 rfl (lv_at hl 0 rfl) ?_
  refine r_getR (v := .ref (ad 28)) C hw kLC42 fX0_15 rfl hx.2.2 dX0_isPiece_60 ?_
  refine r_getI C hw (kx28 _) fX0_39 rfl dX0_isPiece_63 ?_
  refine lv_icmp_ge (tgt := 117) C.1.1 C.1.2.1 dX0_isPiece_66 (by decide) (fun hc => ?_) (fun hc => ?_)
  · replace h := ite_pos' h hc
    refine lv_iconst (v := 1) C.1.1 C.1.2.1 dX0_isPiece_117 (by decide) ?_
    cases h
    exact r_iret C hw (Or.inr ⟨rfl, Or.inr rfl⟩) dX0_isPiece_118
  · replace h := ite_neg' h hc
    refine lv_aload_n C.1.1 C.1.2.1 dX0_isPiece_69 rfl (lv_at hl 0 rfl) ?_
    refine r_getR (v := .ref (ad 28)) C hw kLC42 fX0_15 rfl hx.2.2 dX0_isPiece_70 ?_
    refine r_getR (v := .ref (ad 34)) C hw (kx28 _) fX0_44 rfl (hx28_7 hx.1) dX0_isPiece_73 ?_
    refine lv_iload_n C.1.1 C.1.2.1 dX0_isPiece_76 rfl (lv_at hl 2 rfl) ?_
    obtain ⟨hz, h⟩ := ck_some h
    refine r_iald C hw (kx34 _) (inB_in hz) dX0_isPiece_77 ?_
    refine lv_iload_n C.1.1 C.1.2.1 dX0_isPiece_78 rfl (lv_at hl 1 rfl) ?_
    refine lv_iand C.1.1 C.1.2.1 dX0_isPiece_79 ?_
    obtain ⟨r_2, hc, h⟩ := bnd_some h
    refine r_sI (dc := 1) (As := [.int ((gi g 34 x2.toNatClampNeg) &&& x1)]) (rest := []) C hw sX0_47 (fun sz => c_J6_bitCount_0f7a4 trivial hc sz) (by decide) rfl rfl hl.1 (Nat.le_of_ble_eq_true rfl) dX0_isPiece_80 ⟨Nat.le_refl _, Nat.le_refl _⟩ (fun H locs hw => ?_)
    refine lv_istore_n (lv' := [(3, .int r_2), (0, .ref (ad 42)), (1, .int x1), (2, .int x2)]) C.1.1 C.1.2.1 dX0_isPiece_83 rfl hl (by decide) rfl (fun ls hl => ?_)
    refine lt_gen (P := fun x => lv_has ls 4 [(3, .int x), (0, .ref (ad 42)), (1, .int x1), (2, .int x2)]) h hl (fun x3_3 h hl => ?_)
    refine lv_aload_n C.1.1 C.1.2.1 dX0_isPiece_84 rfl (lv_at hl 1 rfl) ?_
    refine r_getR (v := .ref (ad 28)) C hw kLC42 fX0_15 rfl hx.2.2 dX0_isPiece_85 ?_
    refine lv_iload_n C.1.1 C.1.2.1 dX0_isPiece_88 rfl (lv_at hl 3 rfl) ?_
    refine lv_iload_n C.1.1 C.1.2.1 dX0_isPiece_89 rfl (lv_at hl 2 rfl) ?_
    obtain ⟨r_4, hc, h⟩ := bnd_some h
    refine r_vI (dc := 1) (As := [.int x2, .int x1]) (rest := []) C hw vX0_53 (kx28 _) (by decide) rfl (fun sz => c_X1_binds_d hx.1 hc sz) (by decide) rfl rfl hl.1 (Nat.le_of_ble_eq_true rfl) dX0_isPiece_90 ⟨Nat.le_refl _, Nat.le_refl _⟩ (fun H locs hw => ?_)
    refine lv_if_eq (tgt := 111) C.1.1 C.1.2.1 dX0_isPiece_93 (by decide) (fun hc => ?_) (fun hc => ?_)
    · replace h := ite_pos' h hc
      exact w_X0_isPiece_111 kb58 hk58 C hx hw (lv_sub hl [1, 2, 3] rfl) h
    · replace h := ite_neg' h hc
      refine lv_iload_n C.1.1 C.1.2.1 dX0_isPiece_96 rfl (lv_at hl 0 rfl) ?_
      refine lv_aload_n C.1.1 C.1.2.1 dX0_isPiece_97 rfl (lv_at hl 1 rfl) ?_
      refine r_getR (v := .ref (ad 28)) C hw kLC42 fX0_15 rfl hx.2.2 dX0_isPiece_98 ?_
      refine r_getR (v := .ref (ad 33)) C hw (kx28 _) fX0_56 rfl (hx28_6 hx.1) dX0_isPiece_101 ?_
      refine lv_iload_n C.1.1 C.1.2.1 dX0_isPiece_104 rfl (lv_at hl 3 rfl) ?_
      obtain ⟨hz, h⟩ := ck_some h
      refine r_iald C hw (kx33 _) (inB_in hz) dX0_isPiece_105 ?_
      refine lv_icmp_ge (tgt := 111) C.1.1 C.1.2.1 dX0_isPiece_106 (by decide) (fun hc => ?_) (fun hc => ?_)
      · replace h := ite_pos' h hc
        exact w_X0_isPiece_111 kb58 hk58 C hx hw (lv_sub hl [1, 2, 3] rfl) h
      · replace h := ite_neg' h hc
        refine lv_iconst (v := 0) C.1.1 C.1.2.1 dX0_isPiece_109 (by decide) ?_
        cases h
        exact r_iret C hw (Or.inr ⟨rfl, Or.inl rfl⟩) dX0_isPiece_110
set_option maxHeartbeats 4000000 in
set_option maxRecDepth 100000 in
theorem w_X0_isPiece_58L {x1 : Int32} {g : GM} {r : Int32} (C : CX p s m args meth c RX0 yX0_isPiece cX0_isPiece 4 (some .boolean) D cA) (hx : HC hr ad) : ∀ (n : Nat) (x2 : Int32) (H : Heap) (locs : List Loc) (ls : Array Slot), WS D cA ev hr ad A (KX ++ [(0, 6)]) s H locs g → lv_has ls 4 [(0, .ref (ad 42)), (1, .int x1), (2, .int x2)] → fixN (F_X0_isPiece_58B x1 g) n x2 = some r → W p l e (RM 2 0 0) s m args below meth c H locs 0 0 (MQ below (QI D cA ev hr ad A (KX ++ [(0, 6)]) r g) args s 0 0 A) (F0 m 58 ls []) := by
  intro n
  induction n with
  | zero => intro x2 H locs ls hw hl h; exact (fix_zero h).elim
  | succ n ih => intro x2 H locs ls hw hl h; exact w_X0_isPiece_58 (fixN (F_X0_isPiece_58B x1 g) n) ih C hx hw hl h
set_option maxHeartbeats 4000000 in
set_option maxRecDepth 100000 in
theorem w_X0_isPiece_50 {x1 : Int32} {x2 : Int32} {g : GM} {r : Int32} (kb13 : Int32 → Option (Int32)) (hk13 : ∀ (x2 : Int32) (H : Heap) (locs : List Loc) (ls : Array Slot), WS D cA ev hr ad A (KX ++ [(0, 6)]) s H locs g → lv_has ls 4 [(0, .ref (ad 42)), (1, .int x1), (2, .int x2)] → kb13 x2 = some r → W p l e (RM 2 0 0) s m args below meth c H locs 0 0 (MQ below (QI D cA ev hr ad A (KX ++ [(0, 6)]) r g) args s 0 0 A) (F0 m 13 ls [])) (C : CX p s m args meth c RX0 yX0_isPiece cX0_isPiece 4 (some .boolean) D cA) (hx : HC hr ad) {H : Heap} {locs : List Loc} (hw : WS D cA ev hr ad A (KX ++ [(0, 6)]) s H locs g) {ls : Array Slot} (hl : lv_has ls 4 [(0, .ref (ad 42)), (1, .int x1), (2, .int x2)]) (h : F_X0_isPiece_50 kb13 x1 x2 g = some r) : W p l e (RM 2 0 0) s m args below meth c H locs 0 0 (MQ below (QI D cA ev hr ad A (KX ++ [(0, 6)]) r g) args s 0 0 A) (F0 m 50 ls []) := by
  refine lv_iinc (v := x2 + 1) (lv' := [(2, .int (x2 + 1)), (0, .ref (ad 42)), (1, .int x1)]) C.1.1 C.1.2.1 dX0_isPiece_50 hl (k := 2) rfl rfl (by decide) rfl (fun ls hl => ?_)
  refine lt_gen (P := fun x => lv_has ls 4 [(2, .int x), (0, .ref (ad 42)), (1, .int x1)]) h hl (fun x2_5 h hl => ?_)
  refine lv_goto (tgt := 13) C.1.1 C.1.2.1 dX0_isPiece_53 (by decide) ?_
  exact hk13 _ _ _ _ hw (lv_sub hl [1, 2, 0] rfl) h
set_option maxHeartbeats 4000000 in
set_option maxRecDepth 100000 in
theorem w_X0_isPiece_13 {x1 : Int32} {g : GM} {r : Int32} (kb13 : Int32 → Option (Int32)) (hk13 : ∀ (x2 : Int32) (H : Heap) (locs : List Loc) (ls : Array Slot), WS D cA ev hr ad A (KX ++ [(0, 6)]) s H locs g → lv_has ls 4 [(0, .ref (ad 42)), (1, .int x1), (2, .int x2)] → kb13 x2 = some r → W p l e (RM 2 0 0) s m args below meth c H locs 0 0 (MQ below (QI D cA ev hr ad A (KX ++ [(0, 6)]) r g) args s 0 0 A) (F0 m 13 ls [])) (C : CX p s m args meth c RX0 yX0_isPiece cX0_isPiece 4 (some .boolean) D cA) (hx : HC hr ad) {H : Heap} {locs : List Loc} {x2 : Int32} (hw : WS D cA ev hr ad A (KX ++ [(0, 6)]) s H locs g) {ls : Array Slot} (hl : lv_has ls 4 [(0, .ref (ad 42)), (1, .int x1), (2, .int x2)]) (h : F_X0_isPiece_13B x1 g kb13 x2 = some r) : W p l e (RM 2 0 0) s m args below meth c H locs 0 0 (MQ below (QI D cA ev hr ad A (KX ++ [(0, 6)]) r g) args s 0 0 A) (F0 m 13 ls []) := by
  refine lv_iload_n C.1.1 C.1.2.1 dX0_isPiece_13 rfl (lv_at hl 2 rfl) ?_
  refine lv_aload_n C.1.1 C.1.2.1 dX0_isPiece_14 rfl (lv_at hl 0 rfl) ?_
  refine r_getR (v := .ref (ad 6)) C hw kLC42 fX0_9 rfl hx.2.1 dX0_isPiece_15 ?_
  refine r_getI C hw (kx6 _) fX0_26 rfl dX0_isPiece_18 ?_
  refine lv_icmp_ge (tgt := 56) C.1.1 C.1.2.1 dX0_isPiece_21 (by decide) (fun hc => ?_) (fun hc => ?_)
  · replace h := ite_pos' h hc
    refine lv_iconst (v := 0) C.1.1 C.1.2.1 dX0_isPiece_56 (by decide) ?_
    refine lv_istore_n (lv' := [(2, .int 0), (0, .ref (ad 42)), (1, .int x1)]) C.1.1 C.1.2.1 dX0_isPiece_57 rfl hl (by decide) rfl (fun ls hl => ?_)
    exact w_X0_isPiece_58L C hx FU _ _ _ _ hw (lv_sub hl [1, 2, 0] rfl) h
  · replace h := ite_neg' h hc
    refine lv_iload_n C.1.1 C.1.2.1 dX0_isPiece_24 rfl (lv_at hl 1 rfl) ?_
    refine lv_iload_n C.1.1 C.1.2.1 dX0_isPiece_25 rfl (lv_at hl 2 rfl) ?_
    obtain ⟨r_6, hc, h⟩ := bnd_some h
    refine r_nI (dc := 1) (As := [.int x1, .int x2]) (rest := []) C hw nX0_31 (fun sz => c_X6_has hx.1 hc sz) (by decide) rfl rfl hl.1 (Nat.le_of_ble_eq_true rfl) dX0_isPiece_26 ⟨Nat.le_refl _, Nat.le_refl _⟩ (fun H locs hw => ?_)
    refine lv_if_eq (tgt := 50) C.1.1 C.1.2.1 dX0_isPiece_29 (by decide) (fun hc => ?_) (fun hc => ?_)
    · replace h := ite_pos' h hc
      exact w_X0_isPiece_50 kb13 hk13 C hx hw hl h
    · replace h := ite_neg' h hc
      refine lv_aload_n C.1.1 C.1.2.1 dX0_isPiece_32 rfl (lv_at hl 0 rfl) ?_
      refine r_getR (v := .ref (ad 6)) C hw kLC42 fX0_9 rfl hx.2.1 dX0_isPiece_33 ?_
      refine r_getR (v := .ref (ad 16)) C hw (kx6 _) fX0_35 rfl (hx6_11 hx.1) dX0_isPiece_36 ?_
      refine lv_iload_n C.1.1 C.1.2.1 dX0_isPiece_39 rfl (lv_at hl 2 rfl) ?_
      obtain ⟨hz, h⟩ := ck_some h
      refine r_iald C hw (kx16 _) (inB_in hz) dX0_isPiece_40 ?_
      refine lv_iload_n C.1.1 C.1.2.1 dX0_isPiece_41 rfl (lv_at hl 1 rfl) ?_
      refine lv_iconst (v := (-1)) C.1.1 C.1.2.1 dX0_isPiece_42 (by decide) ?_
      refine lv_ixor C.1.1 C.1.2.1 dX0_isPiece_43 ?_
      refine lv_iand C.1.1 C.1.2.1 dX0_isPiece_44 ?_
      refine lv_if_eq (tgt := 50) C.1.1 C.1.2.1 dX0_isPiece_45 (by decide) (fun hc => ?_) (fun hc => ?_)
      · replace h := ite_pos' h hc
        exact w_X0_isPiece_50 kb13 hk13 C hx hw hl h
      · replace h := ite_neg' h hc
        refine lv_iconst (v := 0) C.1.1 C.1.2.1 dX0_isPiece_48 (by decide) ?_
        cases h
        exact r_iret C hw (Or.inr ⟨rfl, Or.inl rfl⟩) dX0_isPiece_49
set_option maxHeartbeats 4000000 in
set_option maxRecDepth 100000 in
theorem w_X0_isPiece_13L {x1 : Int32} {g : GM} {r : Int32} (C : CX p s m args meth c RX0 yX0_isPiece cX0_isPiece 4 (some .boolean) D cA) (hx : HC hr ad) : ∀ (n : Nat) (x2 : Int32) (H : Heap) (locs : List Loc) (ls : Array Slot), WS D cA ev hr ad A (KX ++ [(0, 6)]) s H locs g → lv_has ls 4 [(0, .ref (ad 42)), (1, .int x1), (2, .int x2)] → fixN (F_X0_isPiece_13B x1 g) n x2 = some r → W p l e (RM 2 0 0) s m args below meth c H locs 0 0 (MQ below (QI D cA ev hr ad A (KX ++ [(0, 6)]) r g) args s 0 0 A) (F0 m 13 ls []) := by
  intro n
  induction n with
  | zero => intro x2 H locs ls hw hl h; exact (fix_zero h).elim
  | succ n ih => intro x2 H locs ls hw hl h; exact w_X0_isPiece_13 (fixN (F_X0_isPiece_13B x1 g) n) ih C hx hw hl h
set_option maxHeartbeats 4000000 in
set_option maxRecDepth 100000 in
theorem w_X0_isPiece_0 (C : CX p s m args meth c RX0 yX0_isPiece cX0_isPiece 4 (some .boolean) D cA) (hx : HC hr ad) {H : Heap} {locs : List Loc} {g : GM} (hw : WS D cA ev hr ad A (KX ++ [(0, 6)]) s H locs g) {a1 : Int32} {ls : Array Slot} (hl : lv_has ls 4 [(0, .ref (ad 42)), (1, .int a1)]) {r : Int32} (h : F_X0_isPiece a1 g = some r) : W p l e (RM 2 0 0) s m args below meth c H locs 0 0 (MQ below (QI D cA ev hr ad A (KX ++ [(0, 6)]) r g) args s 0 0 A) (F0 m 0 ls []) := by
  refine lv_iload_n C.1.1 C.1.2.1 dX0_isPiece_0 rfl (lv_at hl 1 rfl) ?_
  refine lv_aload_n C.1.1 C.1.2.1 dX0_isPiece_1 rfl (lv_at hl 0 rfl) ?_
  refine r_getI C hw kLC42 fX0_19 rfl dX0_isPiece_2 ?_
  refine lv_iand C.1.1 C.1.2.1 dX0_isPiece_5 ?_
  refine lv_if_eq (tgt := 11) C.1.1 C.1.2.1 dX0_isPiece_6 (by decide) (fun hc => ?_) (fun hc => ?_)
  · replace h := ite_pos' h hc
    refine lv_iconst (v := 0) C.1.1 C.1.2.1 dX0_isPiece_11 (by decide) ?_
    refine lv_istore_n (lv' := [(2, .int 0), (0, .ref (ad 42)), (1, .int a1)]) C.1.1 C.1.2.1 dX0_isPiece_12 rfl hl (by decide) rfl (fun ls hl => ?_)
    exact w_X0_isPiece_13L C hx FU _ _ _ _ hw (lv_sub hl [1, 2, 0] rfl) h
  · replace h := ite_neg' h hc
    refine lv_iconst (v := 0) C.1.1 C.1.2.1 dX0_isPiece_9 (by decide) ?_
    cases h
    exact r_iret C hw (Or.inr ⟨rfl, Or.inl rfl⟩) dX0_isPiece_10
set_option maxHeartbeats 4000000 in
set_option maxRecDepth 100000 in
theorem c_X0_isPiece (hx : HC hr ad) {a1 : Int32} {g : GM} {r : Int32} (h : F_X0_isPiece a1 g = some r) (sz : Nat) : Met l yX0_isPiece (WSX yX0_isPiece cX0_isPiece 4 (some .boolean)) (RM 2 0 0) (va_Pc [.ref (ad 42), .int a1] (PX D cA ev hr ad (KX ++ [(0, 6)]) g sz)) (QI D cA ev hr ad (AX ad (KX ++ [(0, 6)]).length sz) (KX ++ [(0, 6)]) r g) 0 0 (AX ad (KX ++ [(0, 6)]).length sz) :=
  met_of (own := RX0) pnX0 rfl (Nat.le_of_ble_eq_true rfl) (fun p e s m below meth c ls C hw hsz hl => w_X0_isPiece_0 C hx hw hl h)
set_option maxHeartbeats 4000000 in
set_option maxRecDepth 100000 in
theorem w_X0_withLastHelpers_81 {x2 : Int32} {x3 : Int32} {x4 : Int32} {g : GM} {r : Int32} (kb5 : Int32 × Int32 → Option (Int32)) (hk5 : ∀ (x3 : Int32) (x4 : Int32) (H : Heap) (locs : List Loc) (ls : Array Slot), WS D cA ev hr ad A (KX ++ [(0, 6)]) s H locs g → lv_has ls 7 [(0, .ref (ad 42)), (2, .int x2), (3, .int x3), (4, .int x4)] → kb5 (x3, x4) = some r → W p l e (RM 2 0 0) s m args below meth c H locs 0 0 (MQ below (QI D cA ev hr ad A (KX ++ [(0, 6)]) r g) args s 0 0 A) (F0 m 5 ls [])) (C : CX p s m args meth c RX0 yX0_withLastHelpers cX0_withLastHelpers 7 (some .int) D cA) (hx : HC hr ad) {H : Heap} {locs : List Loc} (hw : WS D cA ev hr ad A (KX ++ [(0, 6)]) s H locs g) {ls : Array Slot} (hl : lv_has ls 7 [(0, .ref (ad 42)), (2, .int x2), (3, .int x3), (4, .int x4)]) (h : F_X0_withLastHelpers_81 kb5 x2 x3 x4 g = some r) : W p l e (RM 2 0 0) s m args below meth c H locs 0 0 (MQ below (QI D cA ev hr ad A (KX ++ [(0, 6)]) r g) args s 0 0 A) (F0 m 81 ls []) := by
  refine lv_iinc (v := x4 + 1) (lv' := [(4, .int (x4 + 1)), (0, .ref (ad 42)), (2, .int x2), (3, .int x3)]) C.1.1 C.1.2.1 dX0_withLastHelpers_81 hl (k := 3) rfl rfl (by decide) rfl (fun ls hl => ?_)
  refine lt_gen (P := fun x => lv_has ls 7 [(4, .int x), (0, .ref (ad 42)), (2, .int x2), (3, .int x3)]) h hl (fun x4_1 h hl => ?_)
  refine lv_goto (tgt := 5) C.1.1 C.1.2.1 dX0_withLastHelpers_84 (by decide) ?_
  exact hk5 _ _ _ _ _ hw (lv_sub hl [1, 2, 3, 0] rfl) h
set_option maxHeartbeats 4000000 in
set_option maxRecDepth 100000 in
theorem w_X0_withLastHelpers_5 {x2 : Int32} {g : GM} {r : Int32} (kb5 : Int32 × Int32 → Option (Int32)) (hk5 : ∀ (x3 : Int32) (x4 : Int32) (H : Heap) (locs : List Loc) (ls : Array Slot), WS D cA ev hr ad A (KX ++ [(0, 6)]) s H locs g → lv_has ls 7 [(0, .ref (ad 42)), (2, .int x2), (3, .int x3), (4, .int x4)] → kb5 (x3, x4) = some r → W p l e (RM 2 0 0) s m args below meth c H locs 0 0 (MQ below (QI D cA ev hr ad A (KX ++ [(0, 6)]) r g) args s 0 0 A) (F0 m 5 ls [])) (C : CX p s m args meth c RX0 yX0_withLastHelpers cX0_withLastHelpers 7 (some .int) D cA) (hx : HC hr ad) {H : Heap} {locs : List Loc} {x3 : Int32} {x4 : Int32} (hw : WS D cA ev hr ad A (KX ++ [(0, 6)]) s H locs g) {ls : Array Slot} (hl : lv_has ls 7 [(0, .ref (ad 42)), (2, .int x2), (3, .int x3), (4, .int x4)]) (h : F_X0_withLastHelpers_5B x2 g kb5 (x3, x4) = some r) : W p l e (RM 2 0 0) s m args below meth c H locs 0 0 (MQ below (QI D cA ev hr ad A (KX ++ [(0, 6)]) r g) args s 0 0 A) (F0 m 5 ls []) := by
  refine lv_iload C.1.1 C.1.2.1 dX0_withLastHelpers_5 (lv_at hl 3 rfl) ?_
  refine lv_aload_n C.1.1 C.1.2.1 dX0_withLastHelpers_7 rfl (lv_at hl 0 rfl) ?_
  refine r_getR (v := .ref (ad 28)) C hw kLC42 fX0_15 rfl hx.2.2 dX0_withLastHelpers_8 ?_
  refine r_getI C hw (kx28 _) fX0_39 rfl dX0_withLastHelpers_11 ?_
  refine lv_icmp_ge (tgt := 87) C.1.1 C.1.2.1 dX0_withLastHelpers_14 (by decide) (fun hc => ?_) (fun hc => ?_)
  · replace h := ite_pos' h hc
    refine lv_iload_n C.1.1 C.1.2.1 dX0_withLastHelpers_87 rfl (lv_at hl 2 rfl) ?_
    cases h
    exact r_iret C hw (Or.inl rfl) dX0_withLastHelpers_88
  · replace h := ite_neg' h hc
    refine lv_aload_n C.1.1 C.1.2.1 dX0_withLastHelpers_17 rfl (lv_at hl 0 rfl) ?_
    refine r_getR (v := .ref (ad 28)) C hw kLC42 fX0_15 rfl hx.2.2 dX0_withLastHelpers_18 ?_
    refine r_getR (v := .ref (ad 34)) C hw (kx28 _) fX0_44 rfl (hx28_7 hx.1) dX0_withLastHelpers_21 ?_
    refine lv_iload C.1.1 C.1.2.1 dX0_withLastHelpers_24 (lv_at hl 3 rfl) ?_
    obtain ⟨hz, h⟩ := ck_some h
    refine r_iald C hw (kx34 _) (inB_in hz) dX0_withLastHelpers_26 ?_
    refine lv_iload_n C.1.1 C.1.2.1 dX0_withLastHelpers_27 rfl (lv_at hl 1 rfl) ?_
    refine lv_iconst (v := (-1)) C.1.1 C.1.2.1 dX0_withLastHelpers_28 (by decide) ?_
    refine lv_ixor C.1.1 C.1.2.1 dX0_withLastHelpers_29 ?_
    refine lv_iand C.1.1 C.1.2.1 dX0_withLastHelpers_30 ?_
    refine lv_istore (lv' := [(5, .int ((gi g 34 x4.toNatClampNeg) &&& (x2 ^^^ ((-1))))), (0, .ref (ad 42)), (2, .int x2), (3, .int x3), (4, .int x4)]) C.1.1 C.1.2.1 dX0_withLastHelpers_31 hl (by decide) rfl (fun ls hl => ?_)
    refine lt_gen (P := fun x => lv_has ls 7 [(5, .int x), (0, .ref (ad 42)), (2, .int x2), (3, .int x3), (4, .int x4)]) h hl (fun x5_2 h hl => ?_)
    refine lv_iload C.1.1 C.1.2.1 dX0_withLastHelpers_33 (lv_at hl 0 rfl) ?_
    obtain ⟨r_3, hc, h⟩ := bnd_some h
    refine r_sI (dc := 1) (As := [.int x5_2]) (rest := []) C hw sX0_47 (fun sz => c_J6_bitCount_0f7a4 trivial hc sz) (by decide) rfl rfl hl.1 (Nat.le_of_ble_eq_true rfl) dX0_withLastHelpers_35 ⟨Nat.le_refl _, Nat.le_refl _⟩ (fun H locs hw => ?_)
    refine lv_aload_n C.1.1 C.1.2.1 dX0_withLastHelpers_38 rfl (lv_at hl 1 rfl) ?_
    refine r_getR (v := .ref (ad 28)) C hw kLC42 fX0_15 rfl hx.2.2 dX0_withLastHelpers_39 ?_
    refine r_getR (v := .ref (ad 33)) C hw (kx28 _) fX0_56 rfl (hx28_6 hx.1) dX0_withLastHelpers_42 ?_
    refine lv_iload C.1.1 C.1.2.1 dX0_withLastHelpers_45 (lv_at hl 4 rfl) ?_
    obtain ⟨hz, h⟩ := ck_some h
    refine r_iald C hw (kx33 _) (inB_in hz) dX0_withLastHelpers_47 ?_
    refine lv_isub C.1.1 C.1.2.1 dX0_withLastHelpers_48 ?_
    refine lv_istore (lv' := [(6, .int (r_3 - (gi g 33 x4.toNatClampNeg))), (5, .int x5_2), (0, .ref (ad 42)), (2, .int x2), (3, .int x3), (4, .int x4)]) C.1.1 C.1.2.1 dX0_withLastHelpers_49 hl (by decide) rfl (fun ls hl => ?_)
    refine lt_gen (P := fun x => lv_has ls 7 [(6, .int x), (5, .int x5_2), (0, .ref (ad 42)), (2, .int x2), (3, .int x3), (4, .int x4)]) h hl (fun x6_4 h hl => ?_)
    refine lv_iload C.1.1 C.1.2.1 dX0_withLastHelpers_51 (lv_at hl 0 rfl) ?_
    refine lv_if_gt (tgt := 81) C.1.1 C.1.2.1 dX0_withLastHelpers_53 (by decide) (fun hc => ?_) (fun hc => ?_)
    · replace h := ite_pos' h hc
      exact w_X0_withLastHelpers_81 kb5 hk5 C hx hw (lv_sub hl [2, 3, 4, 5] rfl) h
    · replace h := ite_neg' h hc
      refine lv_aload_n C.1.1 C.1.2.1 dX0_withLastHelpers_56 rfl (lv_at hl 2 rfl) ?_
      refine r_getR (v := .ref (ad 28)) C hw kLC42 fX0_15 rfl hx.2.2 dX0_withLastHelpers_57 ?_
      refine lv_iload C.1.1 C.1.2.1 dX0_withLastHelpers_60 (lv_at hl 5 rfl) ?_
      refine lv_iload_n C.1.1 C.1.2.1 dX0_withLastHelpers_62 rfl (lv_at hl 4 rfl) ?_
      obtain ⟨r_5, hc, h⟩ := bnd_some h
      refine r_vI (dc := 1) (As := [.int x4, .int x3]) (rest := []) C hw vX0_53 (kx28 _) (by decide) rfl (fun sz => c_X1_binds_d hx.1 hc sz) (by decide) rfl rfl hl.1 (Nat.le_of_ble_eq_true rfl) dX0_withLastHelpers_63 ⟨Nat.le_refl _, Nat.le_refl _⟩ (fun H locs hw => ?_)
      refine lv_if_eq (tgt := 81) C.1.1 C.1.2.1 dX0_withLastHelpers_66 (by decide) (fun hc => ?_) (fun hc => ?_)
      · replace h := ite_pos' h hc
        exact w_X0_withLastHelpers_81 kb5 hk5 C hx hw (lv_sub hl [2, 3, 4, 5] rfl) h
      · replace h := ite_neg' h hc
        refine lv_iload C.1.1 C.1.2.1 dX0_withLastHelpers_69 (lv_at hl 0 rfl) ?_
        refine lv_if_ge (tgt := 76) C.1.1 C.1.2.1 dX0_withLastHelpers_71 (by decide) (fun hc => ?_) (fun hc => ?_)
        · replace h := ite_pos' h hc
          refine lv_iload_n C.1.1 C.1.2.1 dX0_withLastHelpers_76 rfl (lv_at hl 4 rfl) ?_
          refine lv_iload C.1.1 C.1.2.1 dX0_withLastHelpers_77 (lv_at hl 1 rfl) ?_
          refine lv_ior C.1.1 C.1.2.1 dX0_withLastHelpers_79 ?_
          refine lv_istore_n (lv' := [(3, .int (x3 ||| x5_2)), (6, .int x6_4), (5, .int x5_2), (0, .ref (ad 42)), (2, .int x2), (4, .int x4)]) C.1.1 C.1.2.1 dX0_withLastHelpers_80 rfl hl (by decide) rfl (fun ls hl => ?_)
          refine lt_gen (P := fun x => lv_has ls 7 [(3, .int x), (6, .int x6_4), (5, .int x5_2), (0, .ref (ad 42)), (2, .int x2), (4, .int x4)]) h hl (fun x3_6 h hl => ?_)
          exact w_X0_withLastHelpers_81 kb5 hk5 C hx hw (lv_sub hl [3, 4, 0, 5] rfl) h
        · replace h := ite_neg' h hc
          refine lv_iconst (v := (-1)) C.1.1 C.1.2.1 dX0_withLastHelpers_74 (by decide) ?_
          cases h
          exact r_iret C hw (Or.inl rfl) dX0_withLastHelpers_75
set_option maxHeartbeats 4000000 in
set_option maxRecDepth 100000 in
theorem w_X0_withLastHelpers_5L {x2 : Int32} {g : GM} {r : Int32} (C : CX p s m args meth c RX0 yX0_withLastHelpers cX0_withLastHelpers 7 (some .int) D cA) (hx : HC hr ad) : ∀ (n : Nat) (x3 : Int32) (x4 : Int32) (H : Heap) (locs : List Loc) (ls : Array Slot), WS D cA ev hr ad A (KX ++ [(0, 6)]) s H locs g → lv_has ls 7 [(0, .ref (ad 42)), (2, .int x2), (3, .int x3), (4, .int x4)] → fixN (F_X0_withLastHelpers_5B x2 g) n (x3, x4) = some r → W p l e (RM 2 0 0) s m args below meth c H locs 0 0 (MQ below (QI D cA ev hr ad A (KX ++ [(0, 6)]) r g) args s 0 0 A) (F0 m 5 ls []) := by
  intro n
  induction n with
  | zero => intro x3 x4 H locs ls hw hl h; exact (fix_zero h).elim
  | succ n ih => intro x3 x4 H locs ls hw hl h; exact w_X0_withLastHelpers_5 (fixN (F_X0_withLastHelpers_5B x2 g) n) ih C hx hw hl h
set_option maxHeartbeats 4000000 in
set_option maxRecDepth 100000 in
theorem w_X0_withLastHelpers_0 (C : CX p s m args meth c RX0 yX0_withLastHelpers cX0_withLastHelpers 7 (some .int) D cA) (hx : HC hr ad) {H : Heap} {locs : List Loc} {g : GM} (hw : WS D cA ev hr ad A (KX ++ [(0, 6)]) s H locs g) {a1 : Int32} {a2 : Int32} {ls : Array Slot} (hl : lv_has ls 7 [(0, .ref (ad 42)), (1, .int a1), (2, .int a2)]) {r : Int32} (h : F_X0_withLastHelpers a1 a2 g = some r) : W p l e (RM 2 0 0) s m args below meth c H locs 0 0 (MQ below (QI D cA ev hr ad A (KX ++ [(0, 6)]) r g) args s 0 0 A) (F0 m 0 ls []) := by
  refine lv_iload_n C.1.1 C.1.2.1 dX0_withLastHelpers_0 rfl (lv_at hl 1 rfl) ?_
  refine lv_istore_n (lv' := [(3, .int a1), (0, .ref (ad 42)), (1, .int a1), (2, .int a2)]) C.1.1 C.1.2.1 dX0_withLastHelpers_1 rfl hl (by decide) rfl (fun ls hl => ?_)
  refine lv_iconst (v := 0) C.1.1 C.1.2.1 dX0_withLastHelpers_2 (by decide) ?_
  refine lv_istore (lv' := [(4, .int 0), (3, .int a1), (0, .ref (ad 42)), (1, .int a1), (2, .int a2)]) C.1.1 C.1.2.1 dX0_withLastHelpers_3 hl (by decide) rfl (fun ls hl => ?_)
  exact w_X0_withLastHelpers_5L C hx FU _ _ _ _ _ hw (lv_sub hl [2, 4, 1, 0] rfl) h
set_option maxHeartbeats 4000000 in
set_option maxRecDepth 100000 in
theorem c_X0_withLastHelpers (hx : HC hr ad) {a1 : Int32} {a2 : Int32} {g : GM} {r : Int32} (h : F_X0_withLastHelpers a1 a2 g = some r) (sz : Nat) : Met l yX0_withLastHelpers (WSX yX0_withLastHelpers cX0_withLastHelpers 7 (some .int)) (RM 2 0 0) (va_Pc [.ref (ad 42), .int a1, .int a2] (PX D cA ev hr ad (KX ++ [(0, 6)]) g sz)) (QI D cA ev hr ad (AX ad (KX ++ [(0, 6)]).length sz) (KX ++ [(0, 6)]) r g) 0 0 (AX ad (KX ++ [(0, 6)]).length sz) :=
  met_of (own := RX0) pnX0 rfl (Nat.le_of_ble_eq_true rfl) (fun p e s m below meth c ls C hw hsz hl => w_X0_withLastHelpers_0 C hx hw hl h)
set_option maxHeartbeats 4000000 in
set_option maxRecDepth 100000 in
theorem w_X0_settled_54 {x2 : Int32} {x4 : Int32} {x5 : Int32} {x6 : Int32} {s0 : Int32} {s1 : Int32} {g : GM} {r : Int32} (kb5 : Int32 × Int32 → Option (Int32)) (hk5 : ∀ (x3 : Int32) (x4 : Int32) (H : Heap) (locs : List Loc) (ls : Array Slot), WS D cA ev hr ad A (KX ++ [(0, 6)]) s H locs g → lv_has ls 7 [(0, .ref (ad 42)), (2, .int x2), (3, .int x3), (4, .int x4)] → kb5 (x3, x4) = some r → W p l e (RM 3 0 0) s m args below meth c H locs 0 0 (MQ below (QI D cA ev hr ad A (KX ++ [(0, 6)]) r g) args s 0 0 A) (F0 m 5 ls [])) (kb18 : Int32 × Int32 → Option (Int32)) (hk18 : ∀ (x3 : Int32) (x6 : Int32) (H : Heap) (locs : List Loc) (ls : Array Slot), WS D cA ev hr ad A (KX ++ [(0, 6)]) s H locs g → lv_has ls 7 [(0, .ref (ad 42)), (2, .int x2), (3, .int x3), (4, .int x4), (5, .int x5), (6, .int x6)] → kb18 (x3, x6) = some r → W p l e (RM 3 0 0) s m args below meth c H locs 0 0 (MQ below (QI D cA ev hr ad A (KX ++ [(0, 6)]) r g) args s 0 0 A) (F0 m 18 ls [])) (C : CX p s m args meth c RX0 yX0_settled cX0_settled 7 (some .int) D cA) (hx : HC hr ad) {H : Heap} {locs : List Loc} (hw : WS D cA ev hr ad A (KX ++ [(0, 6)]) s H locs g) {ls : Array Slot} (hl : lv_has ls 7 [(0, .ref (ad 42)), (2, .int x2), (4, .int x4), (5, .int x5), (6, .int x6)]) (h : F_X0_settled_54 kb5 kb18 x2 x4 x5 x6 s0 s1 g = some r) : W p l e (RM 3 0 0) s m args below meth c H locs 0 0 (MQ below (QI D cA ev hr ad A (KX ++ [(0, 6)]) r g) args s 0 0 A) (F0 m 54 ls [.int s0, .int s1]) := by
  refine lv_ior C.1.1 C.1.2.1 dX0_settled_54 ?_
  refine lv_istore_n (lv' := [(3, .int (s1 ||| s0)), (0, .ref (ad 42)), (2, .int x2), (4, .int x4), (5, .int x5), (6, .int x6)]) C.1.1 C.1.2.1 dX0_settled_55 rfl hl (by decide) rfl (fun ls hl => ?_)
  refine lt_gen (P := fun x => lv_has ls 7 [(3, .int x), (0, .ref (ad 42)), (2, .int x2), (4, .int x4), (5, .int x5), (6, .int x6)]) h hl (fun x3_1 h hl => ?_)
  refine lv_iinc (v := x6 + 1) (lv' := [(6, .int (x6 + 1)), (3, .int x3_1), (0, .ref (ad 42)), (2, .int x2), (4, .int x4), (5, .int x5)]) C.1.1 C.1.2.1 dX0_settled_56 hl (k := 5) rfl rfl (by decide) rfl (fun ls hl => ?_)
  refine lt_gen (P := fun x => lv_has ls 7 [(6, .int x), (3, .int x3_1), (0, .ref (ad 42)), (2, .int x2), (4, .int x4), (5, .int x5)]) h hl (fun x6_2 h hl => ?_)
  refine lv_goto (tgt := 18) C.1.1 C.1.2.1 dX0_settled_59 (by decide) ?_
  exact hk18 _ _ _ _ _ hw (lv_sub hl [2, 3, 1, 4, 5, 0] rfl) h
set_option maxHeartbeats 4000000 in
set_option maxRecDepth 100000 in
theorem w_X0_settled_18 {x2 : Int32} {x4 : Int32} {x5 : Int32} {g : GM} {r : Int32} (kb5 : Int32 × Int32 → Option (Int32)) (hk5 : ∀ (x3 : Int32) (x4 : Int32) (H : Heap) (locs : List Loc) (ls : Array Slot), WS D cA ev hr ad A (KX ++ [(0, 6)]) s H locs g → lv_has ls 7 [(0, .ref (ad 42)), (2, .int x2), (3, .int x3), (4, .int x4)] → kb5 (x3, x4) = some r → W p l e (RM 3 0 0) s m args below meth c H locs 0 0 (MQ below (QI D cA ev hr ad A (KX ++ [(0, 6)]) r g) args s 0 0 A) (F0 m 5 ls [])) (kb18 : Int32 × Int32 → Option (Int32)) (hk18 : ∀ (x3 : Int32) (x6 : Int32) (H : Heap) (locs : List Loc) (ls : Array Slot), WS D cA ev hr ad A (KX ++ [(0, 6)]) s H locs g → lv_has ls 7 [(0, .ref (ad 42)), (2, .int x2), (3, .int x3), (4, .int x4), (5, .int x5), (6, .int x6)] → kb18 (x3, x6) = some r → W p l e (RM 3 0 0) s m args below meth c H locs 0 0 (MQ below (QI D cA ev hr ad A (KX ++ [(0, 6)]) r g) args s 0 0 A) (F0 m 18 ls [])) (C : CX p s m args meth c RX0 yX0_settled cX0_settled 7 (some .int) D cA) (hx : HC hr ad) {H : Heap} {locs : List Loc} {x3 : Int32} {x6 : Int32} (hw : WS D cA ev hr ad A (KX ++ [(0, 6)]) s H locs g) {ls : Array Slot} (hl : lv_has ls 7 [(0, .ref (ad 42)), (2, .int x2), (3, .int x3), (4, .int x4), (5, .int x5), (6, .int x6)]) (h : F_X0_settled_18B kb5 x2 x4 x5 g kb18 (x3, x6) = some r) : W p l e (RM 3 0 0) s m args below meth c H locs 0 0 (MQ below (QI D cA ev hr ad A (KX ++ [(0, 6)]) r g) args s 0 0 A) (F0 m 18 ls []) := by
  refine lv_iload C.1.1 C.1.2.1 dX0_settled_18 (lv_at hl 5 rfl) ?_
  refine lv_aload_n C.1.1 C.1.2.1 dX0_settled_20 rfl (lv_at hl 0 rfl) ?_
  refine r_getR (v := .ref (ad 6)) C hw kLC42 fX0_9 rfl hx.2.1 dX0_settled_21 ?_
  refine r_getI C hw (kx6 _) fX0_26 rfl dX0_settled_24 ?_
  refine lv_icmp_ge (tgt := 62) C.1.1 C.1.2.1 dX0_settled_27 (by decide) (fun hc => ?_) (fun hc => ?_)
  · replace h := ite_pos' h hc
    refine lv_aload_n C.1.1 C.1.2.1 dX0_settled_62 rfl (lv_at hl 0 rfl) ?_
    refine lv_iload_n C.1.1 C.1.2.1 dX0_settled_63 rfl (lv_at hl 2 rfl) ?_
    refine lv_iload_n C.1.1 C.1.2.1 dX0_settled_64 rfl (lv_at hl 1 rfl) ?_
    obtain ⟨r_3, hc, h⟩ := bnd_some h
    refine r_vI (dc := 2) (As := [.int x3, .int x2]) (rest := []) C hw vX0_84 kLC42 (by decide) rfl (fun sz => c_X0_withLastHelpers hx hc sz) (by decide) rfl rfl hl.1 (Nat.le_of_ble_eq_true rfl) dX0_settled_65 ⟨Nat.le_refl _, Nat.le_refl _⟩ (fun H locs hw => ?_)
    refine lv_istore_n (lv' := [(3, .int r_3), (0, .ref (ad 42)), (2, .int x2), (4, .int x4), (5, .int x5), (6, .int x6)]) C.1.1 C.1.2.1 dX0_settled_68 rfl hl (by decide) rfl (fun ls hl => ?_)
    refine lt_gen (P := fun x => lv_has ls 7 [(3, .int x), (0, .ref (ad 42)), (2, .int x2), (4, .int x4), (5, .int x5), (6, .int x6)]) h hl (fun x3_4 h hl => ?_)
    refine lv_iload_n C.1.1 C.1.2.1 dX0_settled_69 rfl (lv_at hl 0 rfl) ?_
    refine lv_iconst (v := (-1)) C.1.1 C.1.2.1 dX0_settled_70 (by decide) ?_
    refine lv_icmp_eq (tgt := 80) C.1.1 C.1.2.1 dX0_settled_71 (by decide) (fun hc => ?_) (fun hc => ?_)
    · replace h := ite_pos' h hc
      refine lv_iconst (v := (-1)) C.1.1 C.1.2.1 dX0_settled_80 (by decide) ?_
      cases h
      exact r_iret C hw (Or.inl rfl) dX0_settled_81
    · replace h := ite_neg' h hc
      refine lv_iload_n C.1.1 C.1.2.1 dX0_settled_74 rfl (lv_at hl 0 rfl) ?_
      refine lv_iload_n C.1.1 C.1.2.1 dX0_settled_75 rfl (lv_at hl 2 rfl) ?_
      refine lv_iand C.1.1 C.1.2.1 dX0_settled_76 ?_
      refine lv_if_eq (tgt := 82) C.1.1 C.1.2.1 dX0_settled_77 (by decide) (fun hc => ?_) (fun hc => ?_)
      · replace h := ite_pos' h hc
        refine lv_iload_n C.1.1 C.1.2.1 dX0_settled_82 rfl (lv_at hl 0 rfl) ?_
        refine lv_iload C.1.1 C.1.2.1 dX0_settled_83 (lv_at hl 4 rfl) ?_
        refine lv_icmp_ne (tgt := 90) C.1.1 C.1.2.1 dX0_settled_85 (by decide) (fun hc => ?_) (fun hc => ?_)
        · replace h := ite_neg' h hc
          refine lv_iinc (v := x4 + 1) (lv' := [(4, .int (x4 + 1)), (3, .int x3_4), (0, .ref (ad 42)), (2, .int x2), (5, .int x5), (6, .int x6)]) C.1.1 C.1.2.1 dX0_settled_90 hl (k := 3) rfl rfl (by decide) rfl (fun ls hl => ?_)
          refine lt_gen (P := fun x => lv_has ls 7 [(4, .int x), (3, .int x3_4), (0, .ref (ad 42)), (2, .int x2), (5, .int x5), (6, .int x6)]) h hl (fun x4_5 h hl => ?_)
          refine lv_goto (tgt := 5) C.1.1 C.1.2.1 dX0_settled_93 (by decide) ?_
          exact hk5 _ _ _ _ _ hw (lv_sub hl [2, 3, 1, 0] rfl) h
        · replace h := ite_pos' h hc
          refine lv_iload_n C.1.1 C.1.2.1 dX0_settled_88 rfl (lv_at hl 0 rfl) ?_
          cases h
          exact r_iret C hw (Or.inl rfl) dX0_settled_89
      · replace h := ite_neg' h hc
        refine lv_iconst (v := (-1)) C.1.1 C.1.2.1 dX0_settled_80 (by decide) ?_
        cases h
        exact r_iret C hw (Or.inl rfl) dX0_settled_81
  · replace h := ite_neg' h hc
    refine lv_iload_n C.1.1 C.1.2.1 dX0_settled_30 rfl (lv_at hl 2 rfl) ?_
    refine lv_iload_n C.1.1 C.1.2.1 dX0_settled_31 rfl (lv_at hl 2 rfl) ?_
    refine lv_iload C.1.1 C.1.2.1 dX0_settled_32 (lv_at hl 5 rfl) ?_
    obtain ⟨r_6, hc, h⟩ := bnd_some h
    refine r_nI (dc := 1) (As := [.int x3, .int x6]) (rest := [.int x3]) C hw nX0_31 (fun sz => c_X6_has hx.1 hc sz) (by decide) rfl rfl hl.1 (Nat.le_of_ble_eq_true rfl) dX0_settled_34 ⟨Nat.le_refl _, Nat.le_refl _⟩ (fun H locs hw => ?_)
    refine lv_if_eq (tgt := 53) C.1.1 C.1.2.1 dX0_settled_37 (by decide) (fun hc => ?_) (fun hc => ?_)
    · replace h := ite_pos' h hc
      refine lv_iconst (v := 0) C.1.1 C.1.2.1 dX0_settled_53 (by decide) ?_
      exact w_X0_settled_54 kb5 hk5 kb18 hk18 C hx hw (lv_sub hl [0, 1, 3, 4, 5] rfl) h
    · replace h := ite_neg' h hc
      refine lv_aload_n C.1.1 C.1.2.1 dX0_settled_40 rfl (lv_at hl 0 rfl) ?_
      refine r_getR (v := .ref (ad 6)) C hw kLC42 fX0_9 rfl hx.2.1 dX0_settled_41 ?_
      refine r_getR (v := .ref (ad 16)) C hw (kx6 _) fX0_35 rfl (hx6_11 hx.1) dX0_settled_44 ?_
      refine lv_iload C.1.1 C.1.2.1 dX0_settled_47 (lv_at hl 5 rfl) ?_
      obtain ⟨hz, h⟩ := ck_some h
      refine r_iald C hw (kx16 _) (inB_in hz) dX0_settled_49 ?_
      refine lv_goto (tgt := 54) C.1.1 C.1.2.1 dX0_settled_50 (by decide) ?_
      exact w_X0_settled_54 kb5 hk5 kb18 hk18 C hx hw (lv_sub hl [0, 1, 3, 4, 5] rfl) h
set_option maxHeartbeats 4000000 in
set_option maxRecDepth 100000 in
theorem w_X0_settled_18L {x2 : Int32} {x4 : Int32} {x5 : Int32} {g : GM} {r : Int32} (kb5 : Int32 × Int32 → Option (Int32)) (hk5 : ∀ (x3 : Int32) (x4 : Int32) (H : Heap) (locs : List Loc) (ls : Array Slot), WS D cA ev hr ad A (KX ++ [(0, 6)]) s H locs g → lv_has ls 7 [(0, .ref (ad 42)), (2, .int x2), (3, .int x3), (4, .int x4)] → kb5 (x3, x4) = some r → W p l e (RM 3 0 0) s m args below meth c H locs 0 0 (MQ below (QI D cA ev hr ad A (KX ++ [(0, 6)]) r g) args s 0 0 A) (F0 m 5 ls [])) (C : CX p s m args meth c RX0 yX0_settled cX0_settled 7 (some .int) D cA) (hx : HC hr ad) : ∀ (n : Nat) (x3 : Int32) (x6 : Int32) (H : Heap) (locs : List Loc) (ls : Array Slot), WS D cA ev hr ad A (KX ++ [(0, 6)]) s H locs g → lv_has ls 7 [(0, .ref (ad 42)), (2, .int x2), (3, .int x3), (4, .int x4), (5, .int x5), (6, .int x6)] → fixN (F_X0_settled_18B kb5 x2 x4 x5 g) n (x3, x6) = some r → W p l e (RM 3 0 0) s m args below meth c H locs 0 0 (MQ below (QI D cA ev hr ad A (KX ++ [(0, 6)]) r g) args s 0 0 A) (F0 m 18 ls []) := by
  intro n
  induction n with
  | zero => intro x3 x6 H locs ls hw hl h; exact (fix_zero h).elim
  | succ n ih => intro x3 x6 H locs ls hw hl h; exact w_X0_settled_18 kb5 hk5 (fixN (F_X0_settled_18B kb5 x2 x4 x5 g) n) ih C hx hw hl h
set_option maxHeartbeats 4000000 in
set_option maxRecDepth 100000 in
theorem w_X0_settled_5 {x2 : Int32} {g : GM} {r : Int32} (kb5 : Int32 × Int32 → Option (Int32)) (hk5 : ∀ (x3 : Int32) (x4 : Int32) (H : Heap) (locs : List Loc) (ls : Array Slot), WS D cA ev hr ad A (KX ++ [(0, 6)]) s H locs g → lv_has ls 7 [(0, .ref (ad 42)), (2, .int x2), (3, .int x3), (4, .int x4)] → kb5 (x3, x4) = some r → W p l e (RM 3 0 0) s m args below meth c H locs 0 0 (MQ below (QI D cA ev hr ad A (KX ++ [(0, 6)]) r g) args s 0 0 A) (F0 m 5 ls [])) (C : CX p s m args meth c RX0 yX0_settled cX0_settled 7 (some .int) D cA) (hx : HC hr ad) {H : Heap} {locs : List Loc} {x3 : Int32} {x4 : Int32} (hw : WS D cA ev hr ad A (KX ++ [(0, 6)]) s H locs g) {ls : Array Slot} (hl : lv_has ls 7 [(0, .ref (ad 42)), (2, .int x2), (3, .int x3), (4, .int x4)]) (h : F_X0_settled_5B x2 g kb5 (x3, x4) = some r) : W p l e (RM 3 0 0) s m args below meth c H locs 0 0 (MQ below (QI D cA ev hr ad A (KX ++ [(0, 6)]) r g) args s 0 0 A) (F0 m 5 ls []) := by
  refine lv_iload C.1.1 C.1.2.1 dX0_settled_5 (lv_at hl 3 rfl) ?_
  refine lv_bipush (v := 16) C.1.1 C.1.2.1 dX0_settled_7 (by decide) ?_
  refine lv_icmp_gt (tgt := 96) C.1.1 C.1.2.1 dX0_settled_9 (by decide) (fun hc => ?_) (fun hc => ?_)
  · replace h := ite_pos' h hc
    refine lv_iconst (v := (-1)) C.1.1 C.1.2.1 dX0_settled_96 (by decide) ?_
    cases h
    exact r_iret C hw (Or.inl rfl) dX0_settled_97
  · replace h := ite_neg' h hc
    refine lv_iload_n C.1.1 C.1.2.1 dX0_settled_12 rfl (lv_at hl 2 rfl) ?_
    refine lv_istore (lv' := [(5, .int x3), (0, .ref (ad 42)), (2, .int x2), (3, .int x3), (4, .int x4)]) C.1.1 C.1.2.1 dX0_settled_13 hl (by decide) rfl (fun ls hl => ?_)
    refine lv_iconst (v := 0) C.1.1 C.1.2.1 dX0_settled_15 (by decide) ?_
    refine lv_istore (lv' := [(6, .int 0), (5, .int x3), (0, .ref (ad 42)), (2, .int x2), (3, .int x3), (4, .int x4)]) C.1.1 C.1.2.1 dX0_settled_16 hl (by decide) rfl (fun ls hl => ?_)
    exact w_X0_settled_18L kb5 hk5 C hx FU _ _ _ _ _ hw (lv_sub hl [2, 3, 4, 5, 1, 0] rfl) h
set_option maxHeartbeats 4000000 in
set_option maxRecDepth 100000 in
theorem w_X0_settled_5L {x2 : Int32} {g : GM} {r : Int32} (C : CX p s m args meth c RX0 yX0_settled cX0_settled 7 (some .int) D cA) (hx : HC hr ad) : ∀ (n : Nat) (x3 : Int32) (x4 : Int32) (H : Heap) (locs : List Loc) (ls : Array Slot), WS D cA ev hr ad A (KX ++ [(0, 6)]) s H locs g → lv_has ls 7 [(0, .ref (ad 42)), (2, .int x2), (3, .int x3), (4, .int x4)] → fixN (F_X0_settled_5B x2 g) n (x3, x4) = some r → W p l e (RM 3 0 0) s m args below meth c H locs 0 0 (MQ below (QI D cA ev hr ad A (KX ++ [(0, 6)]) r g) args s 0 0 A) (F0 m 5 ls []) := by
  intro n
  induction n with
  | zero => intro x3 x4 H locs ls hw hl h; exact (fix_zero h).elim
  | succ n ih => intro x3 x4 H locs ls hw hl h; exact w_X0_settled_5 (fixN (F_X0_settled_5B x2 g) n) ih C hx hw hl h
set_option maxHeartbeats 4000000 in
set_option maxRecDepth 100000 in
theorem w_X0_settled_0 (C : CX p s m args meth c RX0 yX0_settled cX0_settled 7 (some .int) D cA) (hx : HC hr ad) {H : Heap} {locs : List Loc} {g : GM} (hw : WS D cA ev hr ad A (KX ++ [(0, 6)]) s H locs g) {a1 : Int32} {a2 : Int32} {ls : Array Slot} (hl : lv_has ls 7 [(0, .ref (ad 42)), (1, .int a1), (2, .int a2)]) {r : Int32} (h : F_X0_settled a1 a2 g = some r) : W p l e (RM 3 0 0) s m args below meth c H locs 0 0 (MQ below (QI D cA ev hr ad A (KX ++ [(0, 6)]) r g) args s 0 0 A) (F0 m 0 ls []) := by
  refine lv_iload_n C.1.1 C.1.2.1 dX0_settled_0 rfl (lv_at hl 1 rfl) ?_
  refine lv_istore_n (lv' := [(3, .int a1), (0, .ref (ad 42)), (1, .int a1), (2, .int a2)]) C.1.1 C.1.2.1 dX0_settled_1 rfl hl (by decide) rfl (fun ls hl => ?_)
  refine lv_iconst (v := 0) C.1.1 C.1.2.1 dX0_settled_2 (by decide) ?_
  refine lv_istore (lv' := [(4, .int 0), (3, .int a1), (0, .ref (ad 42)), (1, .int a1), (2, .int a2)]) C.1.1 C.1.2.1 dX0_settled_3 hl (by decide) rfl (fun ls hl => ?_)
  exact w_X0_settled_5L C hx FU _ _ _ _ _ hw (lv_sub hl [2, 4, 1, 0] rfl) h
set_option maxHeartbeats 4000000 in
set_option maxRecDepth 100000 in
theorem c_X0_settled (hx : HC hr ad) {a1 : Int32} {a2 : Int32} {g : GM} {r : Int32} (h : F_X0_settled a1 a2 g = some r) (sz : Nat) : Met l yX0_settled (WSX yX0_settled cX0_settled 7 (some .int)) (RM 3 0 0) (va_Pc [.ref (ad 42), .int a1, .int a2] (PX D cA ev hr ad (KX ++ [(0, 6)]) g sz)) (QI D cA ev hr ad (AX ad (KX ++ [(0, 6)]).length sz) (KX ++ [(0, 6)]) r g) 0 0 (AX ad (KX ++ [(0, 6)]).length sz) :=
  met_of (own := RX0) pnX0 rfl (Nat.le_of_ble_eq_true rfl) (fun p e s m below meth c ls C hw hsz hl => w_X0_settled_0 C hx hw hl h)
set_option maxHeartbeats 4000000 in
set_option maxRecDepth 100000 in
theorem w_X0_lacking_117 {x1 : Int32} {x2 : Int32} {x3 : Int32} {x4 : Int32} {x5 : Int32} {x6 : Int32} {x7 : Int32} {g : GM} {r : Int32} (kb12 : Int32 × Int32 × Int32 × Int32 → Option (Int32)) (hk12 : ∀ (x4 : Int32) (x5 : Int32) (x6 : Int32) (x7 : Int32) (H : Heap) (locs : List Loc) (ls : Array Slot), WS D cA ev hr ad A (KX ++ [(0, 6)]) s H locs g → lv_has ls 10 [(0, .ref (ad 42)), (1, .int x1), (2, .int x2), (3, .int x3), (4, .int x4), (5, .int x5), (6, .int x6), (7, .int x7)] → kb12 (x4, x5, x6, x7) = some r → W p l e (RM 2 0 0) s m args below meth c H locs 0 0 (MQ below (QI D cA ev hr ad A (KX ++ [(0, 6)]) r g) args s 0 0 A) (F0 m 12 ls [])) (C : CX p s m args meth c RX0 yX0_lacking cX0_lacking 10 (some .int) D cA) (hx : HC hr ad) {H : Heap} {locs : List Loc} (hw : WS D cA ev hr ad A (KX ++ [(0, 6)]) s H locs g) {ls : Array Slot} (hl : lv_has ls 10 [(0, .ref (ad 42)), (1, .int x1), (2, .int x2), (3, .int x3), (4, .int x4), (5, .int x5), (6, .int x6), (7, .int x7)]) (h : F_X0_lacking_117 kb12 x1 x2 x3 x4 x5 x6 x7 g = some r) : W p l e (RM 2 0 0) s m args below meth c H locs 0 0 (MQ below (QI D cA ev hr ad A (KX ++ [(0, 6)]) r g) args s 0 0 A) (F0 m 117 ls []) := by
  refine lv_iinc (v := x7 + 1) (lv' := [(7, .int (x7 + 1)), (0, .ref (ad 42)), (1, .int x1), (2, .int x2), (3, .int x3), (4, .int x4), (5, .int x5), (6, .int x6)]) C.1.1 C.1.2.1 dX0_lacking_117 hl (k := 7) rfl rfl (by decide) rfl (fun ls hl => ?_)
  refine lt_gen (P := fun x => lv_has ls 10 [(7, .int x), (0, .ref (ad 42)), (1, .int x1), (2, .int x2), (3, .int x3), (4, .int x4), (5, .int x5), (6, .int x6)]) h hl (fun x7_1 h hl => ?_)
  refine lv_goto (tgt := 12) C.1.1 C.1.2.1 dX0_lacking_120 (by decide) ?_
  exact hk12 _ _ _ _ _ _ _ hw (lv_sub hl [1, 2, 3, 4, 5, 6, 7, 0] rfl) h
set_option maxHeartbeats 4000000 in
set_option maxRecDepth 100000 in
theorem w_X0_lacking_12 {x1 : Int32} {x2 : Int32} {x3 : Int32} {g : GM} {r : Int32} (kb12 : Int32 × Int32 × Int32 × Int32 → Option (Int32)) (hk12 : ∀ (x4 : Int32) (x5 : Int32) (x6 : Int32) (x7 : Int32) (H : Heap) (locs : List Loc) (ls : Array Slot), WS D cA ev hr ad A (KX ++ [(0, 6)]) s H locs g → lv_has ls 10 [(0, .ref (ad 42)), (1, .int x1), (2, .int x2), (3, .int x3), (4, .int x4), (5, .int x5), (6, .int x6), (7, .int x7)] → kb12 (x4, x5, x6, x7) = some r → W p l e (RM 2 0 0) s m args below meth c H locs 0 0 (MQ below (QI D cA ev hr ad A (KX ++ [(0, 6)]) r g) args s 0 0 A) (F0 m 12 ls [])) (C : CX p s m args meth c RX0 yX0_lacking cX0_lacking 10 (some .int) D cA) (hx : HC hr ad) {H : Heap} {locs : List Loc} {x4 : Int32} {x5 : Int32} {x6 : Int32} {x7 : Int32} (hw : WS D cA ev hr ad A (KX ++ [(0, 6)]) s H locs g) {ls : Array Slot} (hl : lv_has ls 10 [(0, .ref (ad 42)), (1, .int x1), (2, .int x2), (3, .int x3), (4, .int x4), (5, .int x5), (6, .int x6), (7, .int x7)]) (h : F_X0_lacking_12B x1 x2 x3 g kb12 (x4, x5, x6, x7) = some r) : W p l e (RM 2 0 0) s m args below meth c H locs 0 0 (MQ below (QI D cA ev hr ad A (KX ++ [(0, 6)]) r g) args s 0 0 A) (F0 m 12 ls []) := by
  refine lv_iload C.1.1 C.1.2.1 dX0_lacking_12 (lv_at hl 7 rfl) ?_
  refine lv_aload_n C.1.1 C.1.2.1 dX0_lacking_14 rfl (lv_at hl 0 rfl) ?_
  refine r_getR (v := .ref (ad 28)) C hw kLC42 fX0_15 rfl hx.2.2 dX0_lacking_15 ?_
  refine r_getI C hw (kx28 _) fX0_39 rfl dX0_lacking_18 ?_
  refine lv_icmp_ge (tgt := 123) C.1.1 C.1.2.1 dX0_lacking_21 (by decide) (fun hc => ?_) (fun hc => ?_)
  · replace h := ite_pos' h hc
    refine lv_iload C.1.1 C.1.2.1 dX0_lacking_123 (lv_at hl 4 rfl) ?_
    refine lv_iload C.1.1 C.1.2.1 dX0_lacking_125 (lv_at hl 5 rfl) ?_
    obtain ⟨r_2, hc, h⟩ := bnd_some h
    refine r_sI (dc := 1) (As := [.int x4, .int x5]) (rest := []) C hw sX0_90 (fun sz => c_J9_max_7cf53 trivial hc sz) (by decide) rfl rfl hl.1 (Nat.le_of_ble_eq_true rfl) dX0_lacking_127 ⟨Nat.le_refl _, Nat.le_refl _⟩ (fun H locs hw => ?_)
    cases h
    exact r_iret C hw (Or.inl rfl) dX0_lacking_130
  · replace h := ite_neg' h hc
    refine lv_aload_n C.1.1 C.1.2.1 dX0_lacking_24 rfl (lv_at hl 0 rfl) ?_
    refine r_getR (v := .ref (ad 28)) C hw kLC42 fX0_15 rfl hx.2.2 dX0_lacking_25 ?_
    refine r_getR (v := .ref (ad 34)) C hw (kx28 _) fX0_44 rfl (hx28_7 hx.1) dX0_lacking_28 ?_
    refine lv_iload C.1.1 C.1.2.1 dX0_lacking_31 (lv_at hl 7 rfl) ?_
    obtain ⟨hz, h⟩ := ck_some h
    refine r_iald C hw (kx34 _) (inB_in hz) dX0_lacking_33 ?_
    refine lv_iload_n C.1.1 C.1.2.1 dX0_lacking_34 rfl (lv_at hl 2 rfl) ?_
    refine lv_iconst (v := (-1)) C.1.1 C.1.2.1 dX0_lacking_35 (by decide) ?_
    refine lv_ixor C.1.1 C.1.2.1 dX0_lacking_36 ?_
    refine lv_iand C.1.1 C.1.2.1 dX0_lacking_37 ?_
    refine lv_istore (lv' := [(8, .int ((gi g 34 x7.toNatClampNeg) &&& (x2 ^^^ ((-1))))), (0, .ref (ad 42)), (1, .int x1), (2, .int x2), (3, .int x3), (4, .int x4), (5, .int x5), (6, .int x6), (7, .int x7)]) C.1.1 C.1.2.1 dX0_lacking_38 hl (by decide) rfl (fun ls hl => ?_)
    refine lt_gen (P := fun x => lv_has ls 10 [(8, .int x), (0, .ref (ad 42)), (1, .int x1), (2, .int x2), (3, .int x3), (4, .int x4), (5, .int x5), (6, .int x6), (7, .int x7)]) h hl (fun x8_3 h hl => ?_)
    refine lv_aload_n C.1.1 C.1.2.1 dX0_lacking_40 rfl (lv_at hl 1 rfl) ?_
    refine r_getR (v := .ref (ad 28)) C hw kLC42 fX0_15 rfl hx.2.2 dX0_lacking_41 ?_
    refine r_getR (v := .ref (ad 33)) C hw (kx28 _) fX0_56 rfl (hx28_6 hx.1) dX0_lacking_44 ?_
    refine lv_iload C.1.1 C.1.2.1 dX0_lacking_47 (lv_at hl 8 rfl) ?_
    obtain ⟨hz, h⟩ := ck_some h
    refine r_iald C hw (kx33 _) (inB_in hz) dX0_lacking_49 ?_
    refine lv_iload C.1.1 C.1.2.1 dX0_lacking_50 (lv_at hl 0 rfl) ?_
    refine lv_iload_n C.1.1 C.1.2.1 dX0_lacking_52 rfl (lv_at hl 4 rfl) ?_
    refine lv_iand C.1.1 C.1.2.1 dX0_lacking_53 ?_
    obtain ⟨r_4, hc, h⟩ := bnd_some h
    refine r_sI (dc := 1) (As := [.int (x8_3 &&& x3)]) (rest := [.int (gi g 33 x7.toNatClampNeg)]) C hw sX0_47 (fun sz => c_J6_bitCount_0f7a4 trivial hc sz) (by decide) rfl rfl hl.1 (Nat.le_of_ble_eq_true rfl) dX0_lacking_54 ⟨Nat.le_refl _, Nat.le_refl _⟩ (fun H locs hw => ?_)
    refine lv_isub C.1.1 C.1.2.1 dX0_lacking_57 ?_
    refine lv_istore (lv' := [(9, .int ((gi g 33 x7.toNatClampNeg) - r_4)), (8, .int x8_3), (0, .ref (ad 42)), (1, .int x1), (2, .int x2), (3, .int x3), (4, .int x4), (5, .int x5), (6, .int x6), (7, .int x7)]) C.1.1 C.1.2.1 dX0_lacking_58 hl (by decide) rfl (fun ls hl => ?_)
    refine lt_gen (P := fun x => lv_has ls 10 [(9, .int x), (8, .int x8_3), (0, .ref (ad 42)), (1, .int x1), (2, .int x2), (3, .int x3), (4, .int x4), (5, .int x5), (6, .int x6), (7, .int x7)]) h hl (fun x9_5 h hl => ?_)
    refine lv_iload C.1.1 C.1.2.1 dX0_lacking_60 (lv_at hl 0 rfl) ?_
    refine lv_if_le (tgt := 117) C.1.1 C.1.2.1 dX0_lacking_62 (by decide) (fun hc => ?_) (fun hc => ?_)
    · replace h := ite_pos' h hc
      exact w_X0_lacking_117 kb12 hk12 C hx hw (lv_sub hl [2, 3, 4, 5, 6, 7, 8, 9] rfl) h
    · replace h := ite_neg' h hc
      refine lv_aload_n C.1.1 C.1.2.1 dX0_lacking_65 rfl (lv_at hl 2 rfl) ?_
      refine r_getR (v := .ref (ad 28)) C hw kLC42 fX0_15 rfl hx.2.2 dX0_lacking_66 ?_
      refine lv_iload C.1.1 C.1.2.1 dX0_lacking_69 (lv_at hl 9 rfl) ?_
      refine lv_iload_n C.1.1 C.1.2.1 dX0_lacking_71 rfl (lv_at hl 3 rfl) ?_
      obtain ⟨r_6, hc, h⟩ := bnd_some h
      refine r_vI (dc := 1) (As := [.int x7, .int x1]) (rest := []) C hw vX0_53 (kx28 _) (by decide) rfl (fun sz => c_X1_binds_d hx.1 hc sz) (by decide) rfl rfl hl.1 (Nat.le_of_ble_eq_true rfl) dX0_lacking_72 ⟨Nat.le_refl _, Nat.le_refl _⟩ (fun H locs hw => ?_)
      refine lv_if_eq (tgt := 117) C.1.1 C.1.2.1 dX0_lacking_75 (by decide) (fun hc => ?_) (fun hc => ?_)
      · replace h := ite_pos' h hc
        exact w_X0_lacking_117 kb12 hk12 C hx hw (lv_sub hl [2, 3, 4, 5, 6, 7, 8, 9] rfl) h
      · replace h := ite_neg' h hc
        refine lv_iload C.1.1 C.1.2.1 dX0_lacking_78 (lv_at hl 6 rfl) ?_
        refine lv_iload C.1.1 C.1.2.1 dX0_lacking_80 (lv_at hl 0 rfl) ?_
        obtain ⟨r_7, hc, h⟩ := bnd_some h
        refine r_sI (dc := 1) (As := [.int x4, .int x9_5]) (rest := []) C hw sX0_90 (fun sz => c_J9_max_7cf53 trivial hc sz) (by decide) rfl rfl hl.1 (Nat.le_of_ble_eq_true rfl) dX0_lacking_82 ⟨Nat.le_refl _, Nat.le_refl _⟩ (fun H locs hw => ?_)
        refine lv_istore (lv' := [(4, .int r_7), (9, .int x9_5), (8, .int x8_3), (0, .ref (ad 42)), (1, .int x1), (2, .int x2), (3, .int x3), (5, .int x5), (6, .int x6), (7, .int x7)]) C.1.1 C.1.2.1 dX0_lacking_85 hl (by decide) rfl (fun ls hl => ?_)
        refine lt_gen (P := fun x => lv_has ls 10 [(4, .int x), (9, .int x9_5), (8, .int x8_3), (0, .ref (ad 42)), (1, .int x1), (2, .int x2), (3, .int x3), (5, .int x5), (6, .int x6), (7, .int x7)]) h hl (fun x4_8 h hl => ?_)
        refine lv_iload C.1.1 C.1.2.1 dX0_lacking_87 (lv_at hl 2 rfl) ?_
        refine lv_iload_n C.1.1 C.1.2.1 dX0_lacking_89 rfl (lv_at hl 6 rfl) ?_
        refine lv_iconst (v := (-1)) C.1.1 C.1.2.1 dX0_lacking_90 (by decide) ?_
        refine lv_ixor C.1.1 C.1.2.1 dX0_lacking_91 ?_
        refine lv_iand C.1.1 C.1.2.1 dX0_lacking_92 ?_
        refine lv_iload C.1.1 C.1.2.1 dX0_lacking_93 (lv_at hl 8 rfl) ?_
        refine lv_iand C.1.1 C.1.2.1 dX0_lacking_95 ?_
        refine lv_if_ne (tgt := 117) C.1.1 C.1.2.1 dX0_lacking_96 (by decide) (fun hc => ?_) (fun hc => ?_)
        · replace h := ite_neg' h hc
          exact w_X0_lacking_117 kb12 hk12 C hx hw (lv_sub hl [3, 4, 5, 6, 0, 7, 8, 9] rfl) h
        · replace h := ite_pos' h hc
          refine lv_iload C.1.1 C.1.2.1 dX0_lacking_99 (lv_at hl 7 rfl) ?_
          refine lv_iload C.1.1 C.1.2.1 dX0_lacking_101 (lv_at hl 1 rfl) ?_
          refine lv_iadd C.1.1 C.1.2.1 dX0_lacking_103 ?_
          refine lv_istore (lv' := [(5, .int (x5 + x9_5)), (4, .int x4_8), (9, .int x9_5), (8, .int x8_3), (0, .ref (ad 42)), (1, .int x1), (2, .int x2), (3, .int x3), (6, .int x6), (7, .int x7)]) C.1.1 C.1.2.1 dX0_lacking_104 hl (by decide) rfl (fun ls hl => ?_)
          refine lt_gen (P := fun x => lv_has ls 10 [(5, .int x), (4, .int x4_8), (9, .int x9_5), (8, .int x8_3), (0, .ref (ad 42)), (1, .int x1), (2, .int x2), (3, .int x3), (6, .int x6), (7, .int x7)]) h hl (fun x5_9 h hl => ?_)
          refine lv_iload C.1.1 C.1.2.1 dX0_lacking_106 (lv_at hl 8 rfl) ?_
          refine lv_iload C.1.1 C.1.2.1 dX0_lacking_108 (lv_at hl 3 rfl) ?_
          refine lv_iload_n C.1.1 C.1.2.1 dX0_lacking_110 rfl (lv_at hl 7 rfl) ?_
          refine lv_iconst (v := (-1)) C.1.1 C.1.2.1 dX0_lacking_111 (by decide) ?_
          refine lv_ixor C.1.1 C.1.2.1 dX0_lacking_112 ?_
          refine lv_iand C.1.1 C.1.2.1 dX0_lacking_113 ?_
          refine lv_ior C.1.1 C.1.2.1 dX0_lacking_114 ?_
          refine lv_istore (lv' := [(6, .int (x6 ||| (x8_3 &&& (x3 ^^^ ((-1)))))), (5, .int x5_9), (4, .int x4_8), (9, .int x9_5), (8, .int x8_3), (0, .ref (ad 42)), (1, .int x1), (2, .int x2), (3, .int x3), (7, .int x7)]) C.1.1 C.1.2.1 dX0_lacking_115 hl (by decide) rfl (fun ls hl => ?_)
          refine lt_gen (P := fun x => lv_has ls 10 [(6, .int x), (5, .int x5_9), (4, .int x4_8), (9, .int x9_5), (8, .int x8_3), (0, .ref (ad 42)), (1, .int x1), (2, .int x2), (3, .int x3), (7, .int x7)]) h hl (fun x6_10 h hl => ?_)
          exact w_X0_lacking_117 kb12 hk12 C hx hw (lv_sub hl [5, 6, 7, 8, 2, 1, 0, 9] rfl) h
set_option maxHeartbeats 4000000 in
set_option maxRecDepth 100000 in
theorem w_X0_lacking_12L {x1 : Int32} {x2 : Int32} {x3 : Int32} {g : GM} {r : Int32} (C : CX p s m args meth c RX0 yX0_lacking cX0_lacking 10 (some .int) D cA) (hx : HC hr ad) : ∀ (n : Nat) (x4 : Int32) (x5 : Int32) (x6 : Int32) (x7 : Int32) (H : Heap) (locs : List Loc) (ls : Array Slot), WS D cA ev hr ad A (KX ++ [(0, 6)]) s H locs g → lv_has ls 10 [(0, .ref (ad 42)), (1, .int x1), (2, .int x2), (3, .int x3), (4, .int x4), (5, .int x5), (6, .int x6), (7, .int x7)] → fixN (F_X0_lacking_12B x1 x2 x3 g) n (x4, x5, x6, x7) = some r → W p l e (RM 2 0 0) s m args below meth c H locs 0 0 (MQ below (QI D cA ev hr ad A (KX ++ [(0, 6)]) r g) args s 0 0 A) (F0 m 12 ls []) := by
  intro n
  induction n with
  | zero => intro x4 x5 x6 x7 H locs ls hw hl h; exact (fix_zero h).elim
  | succ n ih => intro x4 x5 x6 x7 H locs ls hw hl h; exact w_X0_lacking_12 (fixN (F_X0_lacking_12B x1 x2 x3 g) n) ih C hx hw hl h
set_option maxHeartbeats 4000000 in
set_option maxRecDepth 100000 in
theorem w_X0_lacking_0 (C : CX p s m args meth c RX0 yX0_lacking cX0_lacking 10 (some .int) D cA) (hx : HC hr ad) {H : Heap} {locs : List Loc} {g : GM} (hw : WS D cA ev hr ad A (KX ++ [(0, 6)]) s H locs g) {a1 : Int32} {a2 : Int32} {a3 : Int32} {ls : Array Slot} (hl : lv_has ls 10 [(0, .ref (ad 42)), (1, .int a1), (2, .int a2), (3, .int a3)]) {r : Int32} (h : F_X0_lacking a1 a2 a3 g = some r) : W p l e (RM 2 0 0) s m args below meth c H locs 0 0 (MQ below (QI D cA ev hr ad A (KX ++ [(0, 6)]) r g) args s 0 0 A) (F0 m 0 ls []) := by
  refine lv_iconst (v := 0) C.1.1 C.1.2.1 dX0_lacking_0 (by decide) ?_
  refine lv_istore (lv' := [(4, .int 0), (0, .ref (ad 42)), (1, .int a1), (2, .int a2), (3, .int a3)]) C.1.1 C.1.2.1 dX0_lacking_1 hl (by decide) rfl (fun ls hl => ?_)
  refine lv_iconst (v := 0) C.1.1 C.1.2.1 dX0_lacking_3 (by decide) ?_
  refine lv_istore (lv' := [(5, .int 0), (4, .int 0), (0, .ref (ad 42)), (1, .int a1), (2, .int a2), (3, .int a3)]) C.1.1 C.1.2.1 dX0_lacking_4 hl (by decide) rfl (fun ls hl => ?_)
  refine lv_iconst (v := 0) C.1.1 C.1.2.1 dX0_lacking_6 (by decide) ?_
  refine lv_istore (lv' := [(6, .int 0), (5, .int 0), (4, .int 0), (0, .ref (ad 42)), (1, .int a1), (2, .int a2), (3, .int a3)]) C.1.1 C.1.2.1 dX0_lacking_7 hl (by decide) rfl (fun ls hl => ?_)
  refine lv_iconst (v := 0) C.1.1 C.1.2.1 dX0_lacking_9 (by decide) ?_
  refine lv_istore (lv' := [(7, .int 0), (6, .int 0), (5, .int 0), (4, .int 0), (0, .ref (ad 42)), (1, .int a1), (2, .int a2), (3, .int a3)]) C.1.1 C.1.2.1 dX0_lacking_10 hl (by decide) rfl (fun ls hl => ?_)
  exact w_X0_lacking_12L C hx FU _ _ _ _ _ _ _ hw (lv_sub hl [4, 5, 6, 7, 3, 2, 1, 0] rfl) h
set_option maxHeartbeats 4000000 in
set_option maxRecDepth 100000 in
theorem c_X0_lacking (hx : HC hr ad) {a1 : Int32} {a2 : Int32} {a3 : Int32} {g : GM} {r : Int32} (h : F_X0_lacking a1 a2 a3 g = some r) (sz : Nat) : Met l yX0_lacking (WSX yX0_lacking cX0_lacking 10 (some .int)) (RM 2 0 0) (va_Pc [.ref (ad 42), .int a1, .int a2, .int a3] (PX D cA ev hr ad (KX ++ [(0, 6)]) g sz)) (QI D cA ev hr ad (AX ad (KX ++ [(0, 6)]).length sz) (KX ++ [(0, 6)]) r g) 0 0 (AX ad (KX ++ [(0, 6)]).length sz) :=
  met_of (own := RX0) pnX0 rfl (Nat.le_of_ble_eq_true rfl) (fun p e s m below meth c ls C hw hsz hl => w_X0_lacking_0 C hx hw hl h)
set_option maxHeartbeats 4000000 in
set_option maxRecDepth 100000 in
theorem w_X0_isWithinLimits_66 {g : GM} {r : Int32} (C : CX p s m args meth c RX0 yX0_isWithinLimits cX0_isWithinLimits 4 (some .boolean) D cA) (hx : HC hr ad) {H : Heap} {locs : List Loc} (hw : WS D cA ev hr ad A (KX ++ [(0, 6)]) s H locs g) {ls : Array Slot} (hl : lv_has ls 4 []) (h : F_X0_isWithinLimits_66 g = some r) : W p l e (RM 3 0 0) s m args below meth c H locs 0 0 (MQ below (QI D cA ev hr ad A (KX ++ [(0, 6)]) r g) args s 0 0 A) (F0 m 66 ls []) := by
  refine lv_iconst (v := 0) C.1.1 C.1.2.1 dX0_isWithinLimits_66 (by decide) ?_
  cases h
  exact r_iret C hw (Or.inr ⟨rfl, Or.inl rfl⟩) dX0_isWithinLimits_67
set_option maxHeartbeats 4000000 in
set_option maxRecDepth 100000 in
theorem w_X0_isWithinLimits_0 (C : CX p s m args meth c RX0 yX0_isWithinLimits cX0_isWithinLimits 4 (some .boolean) D cA) (hx : HC hr ad) {H : Heap} {locs : List Loc} {g : GM} (hw : WS D cA ev hr ad A (KX ++ [(0, 6)]) s H locs g) {a1 : Int32} {a2 : Int32} {ls : Array Slot} (hl : lv_has ls 4 [(0, .ref (ad 42)), (1, .int a1), (2, .int a2)]) {r : Int32} (h : F_X0_isWithinLimits a1 a2 g = some r) : W p l e (RM 3 0 0) s m args below meth c H locs 0 0 (MQ below (QI D cA ev hr ad A (KX ++ [(0, 6)]) r g) args s 0 0 A) (F0 m 0 ls []) := by
  refine lv_iload_n C.1.1 C.1.2.1 dX0_isWithinLimits_0 rfl (lv_at hl 1 rfl) ?_
  refine lv_aload_n C.1.1 C.1.2.1 dX0_isWithinLimits_1 rfl (lv_at hl 0 rfl) ?_
  refine r_getI C hw kLC42 fX0_23 rfl dX0_isWithinLimits_2 ?_
  refine lv_iconst (v := (-1)) C.1.1 C.1.2.1 dX0_isWithinLimits_5 (by decide) ?_
  refine lv_ixor C.1.1 C.1.2.1 dX0_isWithinLimits_6 ?_
  refine lv_iand C.1.1 C.1.2.1 dX0_isWithinLimits_7 ?_
  obtain ⟨r_1, hc, h⟩ := bnd_some h
  refine r_sI (dc := 1) (As := [.int (a1 &&& ((gi g 42 3) ^^^ ((-1))))]) (rest := []) C hw sX0_47 (fun sz => c_J6_bitCount_0f7a4 trivial hc sz) (by decide) rfl rfl hl.1 (Nat.le_of_ble_eq_true rfl) dX0_isWithinLimits_8 ⟨Nat.le_refl _, Nat.le_refl _⟩ (fun H locs hw => ?_)
  refine lv_aload_n C.1.1 C.1.2.1 dX0_isWithinLimits_11 rfl (lv_at hl 0 rfl) ?_
  refine r_getI C hw kLC42 fX0_23 rfl dX0_isWithinLimits_12 ?_
  refine lv_iload_n C.1.1 C.1.2.1 dX0_isWithinLimits_15 rfl (lv_at hl 2 rfl) ?_
  refine lv_iand C.1.1 C.1.2.1 dX0_isWithinLimits_16 ?_
  obtain ⟨r_2, hc, h⟩ := bnd_some h
  refine r_sI (dc := 1) (As := [.int ((gi g 42 3) &&& a2)]) (rest := [.int r_1]) C hw sX0_47 (fun sz => c_J6_bitCount_0f7a4 trivial hc sz) (by decide) rfl rfl hl.1 (Nat.le_of_ble_eq_true rfl) dX0_isWithinLimits_17 ⟨Nat.le_refl _, Nat.le_refl _⟩ (fun H locs hw => ?_)
  refine lv_iadd C.1.1 C.1.2.1 dX0_isWithinLimits_20 ?_
  refine lv_istore_n (lv' := [(3, .int (r_1 + r_2)), (0, .ref (ad 42)), (1, .int a1), (2, .int a2)]) C.1.1 C.1.2.1 dX0_isWithinLimits_21 rfl hl (by decide) rfl (fun ls hl => ?_)
  refine lt_gen (P := fun x => lv_has ls 4 [(3, .int x), (0, .ref (ad 42)), (1, .int a1), (2, .int a2)]) h hl (fun x3_3 h hl => ?_)
  refine lv_iload_n C.1.1 C.1.2.1 dX0_isWithinLimits_22 rfl (lv_at hl 2 rfl) ?_
  obtain ⟨r_4, hc, h⟩ := bnd_some h
  refine r_sI (dc := 1) (As := [.int a1]) (rest := []) C hw sX0_47 (fun sz => c_J6_bitCount_0f7a4 trivial hc sz) (by decide) rfl rfl hl.1 (Nat.le_of_ble_eq_true rfl) dX0_isWithinLimits_23 ⟨Nat.le_refl _, Nat.le_refl _⟩ (fun H locs hw => ?_)
  refine lv_aload_n C.1.1 C.1.2.1 dX0_isWithinLimits_26 rfl (lv_at hl 1 rfl) ?_
  refine lv_iload_n C.1.1 C.1.2.1 dX0_isWithinLimits_27 rfl (lv_at hl 2 rfl) ?_
  refine lv_iload_n C.1.1 C.1.2.1 dX0_isWithinLimits_28 rfl (lv_at hl 3 rfl) ?_
  refine lv_iload_n C.1.1 C.1.2.1 dX0_isWithinLimits_29 rfl (lv_at hl 2 rfl) ?_
  obtain ⟨r_5, hc, h⟩ := bnd_some h
  refine r_vI (dc := 2) (As := [.int a1, .int a2, .int a1]) (rest := [.int r_4]) C hw vX0_87 kLC42 (by decide) rfl (fun sz => c_X0_lacking hx hc sz) (by decide) rfl rfl hl.1 (Nat.le_of_ble_eq_true rfl) dX0_isWithinLimits_30 ⟨Nat.le_refl _, Nat.le_refl _⟩ (fun H locs hw => ?_)
  refine lv_iadd C.1.1 C.1.2.1 dX0_isWithinLimits_33 ?_
  refine lv_aload_n C.1.1 C.1.2.1 dX0_isWithinLimits_34 rfl (lv_at hl 1 rfl) ?_
  refine r_getI C hw kLC42 fX0_67 rfl dX0_isWithinLimits_35 ?_
  refine lv_icmp_gt (tgt := 66) C.1.1 C.1.2.1 dX0_isWithinLimits_38 (by decide) (fun hc => ?_) (fun hc => ?_)
  · replace h := ite_pos' h hc
    exact w_X0_isWithinLimits_66 C hx hw (lv_sub hl [] rfl) h
  · replace h := ite_neg' h hc
    refine lv_iload_n C.1.1 C.1.2.1 dX0_isWithinLimits_41 rfl (lv_at hl 0 rfl) ?_
    refine lv_aload_n C.1.1 C.1.2.1 dX0_isWithinLimits_42 rfl (lv_at hl 1 rfl) ?_
    refine lv_iload_n C.1.1 C.1.2.1 dX0_isWithinLimits_43 rfl (lv_at hl 2 rfl) ?_
    refine lv_iload_n C.1.1 C.1.2.1 dX0_isWithinLimits_44 rfl (lv_at hl 3 rfl) ?_
    refine lv_iload_n C.1.1 C.1.2.1 dX0_isWithinLimits_45 rfl (lv_at hl 2 rfl) ?_
    refine lv_aload_n C.1.1 C.1.2.1 dX0_isWithinLimits_46 rfl (lv_at hl 1 rfl) ?_
    refine r_getI C hw kLC42 fX0_23 rfl dX0_isWithinLimits_47 ?_
    refine lv_ior C.1.1 C.1.2.1 dX0_isWithinLimits_50 ?_
    obtain ⟨r_6, hc, h⟩ := bnd_some h
    refine r_vI (dc := 2) (As := [.int a1, .int a2, .int (a1 ||| (gi g 42 3))]) (rest := [.int x3_3]) C hw vX0_87 kLC42 (by decide) rfl (fun sz => c_X0_lacking hx hc sz) (by decide) rfl rfl hl.1 (Nat.le_of_ble_eq_true rfl) dX0_isWithinLimits_51 ⟨Nat.le_refl _, Nat.le_refl _⟩ (fun H locs hw => ?_)
    refine lv_iadd C.1.1 C.1.2.1 dX0_isWithinLimits_54 ?_
    refine lv_aload_n C.1.1 C.1.2.1 dX0_isWithinLimits_55 rfl (lv_at hl 1 rfl) ?_
    refine r_getI C hw kLC42 fX0_70 rfl dX0_isWithinLimits_56 ?_
    refine lv_icmp_gt (tgt := 66) C.1.1 C.1.2.1 dX0_isWithinLimits_59 (by decide) (fun hc => ?_) (fun hc => ?_)
    · replace h := ite_pos' h hc
      exact w_X0_isWithinLimits_66 C hx hw (lv_sub hl [] rfl) h
    · replace h := ite_neg' h hc
      refine lv_iconst (v := 1) C.1.1 C.1.2.1 dX0_isWithinLimits_62 (by decide) ?_
      refine lv_goto (tgt := 67) C.1.1 C.1.2.1 dX0_isWithinLimits_63 (by decide) ?_
      cases h
      exact r_iret C hw (Or.inr ⟨rfl, Or.inr rfl⟩) dX0_isWithinLimits_67
set_option maxHeartbeats 4000000 in
set_option maxRecDepth 100000 in
theorem c_X0_isWithinLimits (hx : HC hr ad) {a1 : Int32} {a2 : Int32} {g : GM} {r : Int32} (h : F_X0_isWithinLimits a1 a2 g = some r) (sz : Nat) : Met l yX0_isWithinLimits (WSX yX0_isWithinLimits cX0_isWithinLimits 4 (some .boolean)) (RM 3 0 0) (va_Pc [.ref (ad 42), .int a1, .int a2] (PX D cA ev hr ad (KX ++ [(0, 6)]) g sz)) (QI D cA ev hr ad (AX ad (KX ++ [(0, 6)]).length sz) (KX ++ [(0, 6)]) r g) 0 0 (AX ad (KX ++ [(0, 6)]).length sz) :=
  met_of (own := RX0) pnX0 rfl (Nat.le_of_ble_eq_true rfl) (fun p e s m below meth c ls C hw hsz hl => w_X0_isWithinLimits_0 C hx hw hl h)
set_option maxHeartbeats 4000000 in
set_option maxRecDepth 100000 in
theorem w_X5_readNeed_46 {x1 : Int32} {g : GM} {r : Int32} {gz : GM} (C : CX p s m args meth c RX5 yX5_readNeed cX5_readNeed 2 (some .int) D cA) (hx : HW hr ad) {H : Heap} {locs : List Loc} (hw : WS D cA ev hr ad A (KX ++ [(5, 7), (8, 4)]) s H locs g) {ls : Array Slot} (hl : lv_has ls 2 [(0, .ref (ad 42)), (1, .int x1)]) (h : F_X5_readNeed_46 x1 g = some (r, gz)) : W p l e (RM 10 0 0) s m args below meth c H locs 0 0 (MQ below (QI D cA ev hr ad A (KX ++ [(5, 7), (8, 4)]) r gz) args s 0 0 A) (F0 m 46 ls []) := by
  refine lv_aload_n C.1.1 C.1.2.1 dX5_readNeed_46 rfl (lv_at hl 0 rfl) ?_
  refine r_getR (v := .ref (ad 1)) C hw kLW42 fX5_9 rfl hx.2.1 dX5_readNeed_47 ?_
  refine lv_iconst (v := 3) C.1.1 C.1.2.1 dX5_readNeed_50 (by decide) ?_
  obtain ⟨⟨r_1, g_2⟩, hc, h⟩ := bnd_some h
  refine r_vI (dc := 9) (As := [.int 3]) (rest := []) C hw vX5_77 (kx1 _) (by decide) rfl (fun sz => c_X4_take hx.1 hc sz) (by decide) rfl rfl hl.1 (Nat.le_of_ble_eq_true rfl) dX5_readNeed_51 ⟨Nat.le_refl _, Nat.le_refl _⟩ (fun H locs hw => ?_)
  refine lv_if_eq (tgt := 61) C.1.1 C.1.2.1 dX5_readNeed_54 (by decide) (fun hc => ?_) (fun hc => ?_)
  · replace h := ite_pos' h hc
    refine lv_iconst (v := 0) C.1.1 C.1.2.1 dX5_readNeed_61 (by decide) ?_
    cases h
    exact r_iret C hw (Or.inl rfl) dX5_readNeed_62
  · replace h := ite_neg' h hc
    refine lv_iload_n C.1.1 C.1.2.1 dX5_readNeed_57 rfl (lv_at hl 1 rfl) ?_
    refine lv_goto (tgt := 62) C.1.1 C.1.2.1 dX5_readNeed_58 (by decide) ?_
    cases h
    exact r_iret C hw (Or.inl rfl) dX5_readNeed_62
set_option maxHeartbeats 4000000 in
set_option maxRecDepth 100000 in
theorem w_X5_readNeed_30 {x1 : Int32} {g : GM} {r : Int32} {gz : GM} (C : CX p s m args meth c RX5 yX5_readNeed cX5_readNeed 2 (some .int) D cA) (hx : HW hr ad) {H : Heap} {locs : List Loc} (hw : WS D cA ev hr ad A (KX ++ [(5, 7), (8, 4)]) s H locs g) {ls : Array Slot} (hl : lv_has ls 2 [(0, .ref (ad 42)), (1, .int x1)]) (h : F_X5_readNeed_30 x1 g = some (r, gz)) : W p l e (RM 10 0 0) s m args below meth c H locs 0 0 (MQ below (QI D cA ev hr ad A (KX ++ [(5, 7), (8, 4)]) r gz) args s 0 0 A) (F0 m 30 ls []) := by
  refine lv_aload_n C.1.1 C.1.2.1 dX5_readNeed_30 rfl (lv_at hl 0 rfl) ?_
  refine r_getR (v := .ref (ad 1)) C hw kLW42 fX5_9 rfl hx.2.1 dX5_readNeed_31 ?_
  refine lv_bipush (v := 6) C.1.1 C.1.2.1 dX5_readNeed_34 (by decide) ?_
  refine lv_aload_n C.1.1 C.1.2.1 dX5_readNeed_36 rfl (lv_at hl 0 rfl) ?_
  refine r_getR (v := .ref (ad 1)) C hw kLW42 fX5_9 rfl hx.2.1 dX5_readNeed_37 ?_
  refine r_getI C hw (kx1 _) fX5_97 rfl dX5_readNeed_40 ?_
  obtain ⟨g_3, hc, h⟩ := bnd_some h
  refine r_vV (dc := 1) (As := [.int 6, .int (gi g 1 6)]) (rest := []) C hw vX5_100 (kx1 _) (by decide) rfl (fun sz => c_X4_refuse hx.1 hc sz) (by decide) rfl rfl hl.1 (Nat.le_of_ble_eq_true rfl) dX5_readNeed_43 ⟨Nat.le_refl _, Nat.le_refl _⟩ (fun H locs hw => ?_)
  exact w_X5_readNeed_46 C hx hw hl h
set_option maxHeartbeats 4000000 in
set_option maxRecDepth 100000 in
theorem w_X5_readNeed_0 (C : CX p s m args meth c RX5 yX5_readNeed cX5_readNeed 2 (some .int) D cA) (hx : HW hr ad) {H : Heap} {locs : List Loc} {g : GM} (hw : WS D cA ev hr ad A (KX ++ [(5, 7), (8, 4)]) s H locs g) {ls : Array Slot} (hl : lv_has ls 2 [(0, .ref (ad 42))]) {r : Int32} {gz : GM} (h : F_X5_readNeed g = some (r, gz)) : W p l e (RM 10 0 0) s m args below meth c H locs 0 0 (MQ below (QI D cA ev hr ad A (KX ++ [(5, 7), (8, 4)]) r gz) args s 0 0 A) (F0 m 0 ls []) := by
  refine lv_aload_n C.1.1 C.1.2.1 dX5_readNeed_0 rfl (lv_at hl 0 rfl) ?_
  refine r_getR (v := .ref (ad 1)) C hw kLW42 fX5_9 rfl hx.2.1 dX5_readNeed_1 ?_
  refine r_getI C hw (kx1 _) fX5_108 rfl dX5_readNeed_4 ?_
  refine lv_istore_n (lv' := [(1, .int (gi g 1 7)), (0, .ref (ad 42))]) C.1.1 C.1.2.1 dX5_readNeed_7 rfl hl (by decide) rfl (fun ls hl => ?_)
  refine lt_gen (P := fun x => lv_has ls 2 [(1, .int x), (0, .ref (ad 42))]) h hl (fun x1_4 h hl => ?_)
  refine lv_aload_n C.1.1 C.1.2.1 dX5_readNeed_8 rfl (lv_at hl 1 rfl) ?_
  refine r_getR (v := .ref (ad 1)) C hw kLW42 fX5_9 rfl hx.2.1 dX5_readNeed_9 ?_
  refine r_getI C hw (kx1 _) fX5_42 rfl dX5_readNeed_12 ?_
  refine lv_iconst (v := 3) C.1.1 C.1.2.1 dX5_readNeed_15 (by decide) ?_
  refine lv_icmp_ne (tgt := 46) C.1.1 C.1.2.1 dX5_readNeed_16 (by decide) (fun hc => ?_) (fun hc => ?_)
  · replace h := ite_neg' h hc
    exact w_X5_readNeed_46 C hx hw (lv_sub hl [1, 0] rfl) h
  · replace h := ite_pos' h hc
    refine lv_iload_n C.1.1 C.1.2.1 dX5_readNeed_19 rfl (lv_at hl 0 rfl) ?_
    refine lv_iconst (v := 1) C.1.1 C.1.2.1 dX5_readNeed_20 (by decide) ?_
    refine lv_icmp_lt (tgt := 30) C.1.1 C.1.2.1 dX5_readNeed_21 (by decide) (fun hc => ?_) (fun hc => ?_)
    · replace h := ite_pos' h hc
      exact w_X5_readNeed_30 C hx hw (lv_sub hl [1, 0] rfl) h
    · replace h := ite_neg' h hc
      refine lv_iload_n C.1.1 C.1.2.1 dX5_readNeed_24 rfl (lv_at hl 0 rfl) ?_
      refine lv_bipush (v := 16) C.1.1 C.1.2.1 dX5_readNeed_25 (by decide) ?_
      refine lv_icmp_le (tgt := 46) C.1.1 C.1.2.1 dX5_readNeed_27 (by decide) (fun hc => ?_) (fun hc => ?_)
      · replace h := ite_pos' h hc
        exact w_X5_readNeed_46 C hx hw (lv_sub hl [1, 0] rfl) h
      · replace h := ite_neg' h hc
        exact w_X5_readNeed_30 C hx hw (lv_sub hl [1, 0] rfl) h
set_option maxHeartbeats 4000000 in
set_option maxRecDepth 100000 in
theorem c_X5_readNeed (hx : HW hr ad) {g : GM} {r : Int32} {gz : GM} (h : F_X5_readNeed g = some (r, gz)) (sz : Nat) : Met l yX5_readNeed (WSX yX5_readNeed cX5_readNeed 2 (some .int)) (RM 10 0 0) (va_Pc [.ref (ad 42)] (PX D cA ev hr ad (KX ++ [(5, 7), (8, 4)]) g sz)) (QI D cA ev hr ad (AX ad (KX ++ [(5, 7), (8, 4)]).length sz) (KX ++ [(5, 7), (8, 4)]) r gz) 0 0 (AX ad (KX ++ [(5, 7), (8, 4)]).length sz) :=
  met_of (own := RX5) pnX5 rfl (Nat.le_of_ble_eq_true rfl) (fun p e s m below meth c ls C hw hsz hl => w_X5_readNeed_0 C hx hw hl h)
set_option maxHeartbeats 4000000 in
set_option maxRecDepth 100000 in
theorem w_X2_columnNamed_s_3 {x1 : Int32} {x2 : Int64} {g : GM} {r : Int32} (kb3 : Int32 → Option (Int32)) (hk3 : ∀ (x4 : Int32) (H : Heap) (locs : List Loc) (ls : Array Slot), WS D cA ev hr ad A (KX ++ tl) s H locs g → lv_has ls 5 [(0, .ref (ad 6)), (1, .int x1), (2, .long x2), (4, .int x4)] → kb3 x4 = some r → W p l e (RM 2 0 0) s m args below meth c H locs 0 0 (MQ below (QI D cA ev hr ad A (KX ++ tl) r g) args s 0 0 A) (F0 m 3 ls [])) (C : CX p s m args meth c RX2 yX2_columnNamed cX2_columnNamed 5 (some .int) D cA) (hx : HX hr ad) {H : Heap} {locs : List Loc} {x4 : Int32} (hw : WS D cA ev hr ad A (KX ++ tl) s H locs g) {ls : Array Slot} (hl : lv_has ls 5 [(0, .ref (ad 6)), (1, .int x1), (2, .long x2), (4, .int x4)]) (h : F_X2_columnNamed_s_3B x1 x2 g kb3 x4 = some r) : W p l e (RM 2 0 0) s m args below meth c H locs 0 0 (MQ below (QI D cA ev hr ad A (KX ++ tl) r g) args s 0 0 A) (F0 m 3 ls []) := by
  refine lv_iload C.1.1 C.1.2.1 dX2_columnNamed_3 (lv_at hl 3 rfl) ?_
  refine lv_iconst (v := 5) C.1.1 C.1.2.1 dX2_columnNamed_5 (by decide) ?_
  refine lv_icmp_ge (tgt := 44) C.1.1 C.1.2.1 dX2_columnNamed_6 (by decide) (fun hc => ?_) (fun hc => ?_)
  · replace h := ite_pos' h hc
    refine lv_iconst (v := (-1)) C.1.1 C.1.2.1 dX2_columnNamed_44 (by decide) ?_
    cases h
    exact r_iret C hw (Or.inl rfl) dX2_columnNamed_45
  · replace h := ite_neg' h hc
    refine lv_aload_n C.1.1 C.1.2.1 dX2_columnNamed_9 rfl (lv_at hl 0 rfl) ?_
    refine lv_iload_n C.1.1 C.1.2.1 dX2_columnNamed_10 rfl (lv_at hl 1 rfl) ?_
    refine lv_iload C.1.1 C.1.2.1 dX2_columnNamed_11 (lv_at hl 3 rfl) ?_
    obtain ⟨r_1, hc, h⟩ := bnd_some h
    refine r_vI (dc := 1) (As := [.int x1, .int x4]) (rest := []) C hw vX2_56 (kx6 _) (by decide) rfl (fun sz => c_X2_hasColumn_s hx hc sz) (by decide) rfl rfl hl.1 (Nat.le_of_ble_eq_true rfl) dX2_columnNamed_13 ⟨Nat.le_refl _, Nat.le_refl _⟩ (fun H locs hw => ?_)
    refine lv_if_eq (tgt := 44) C.1.1 C.1.2.1 dX2_columnNamed_16 (by decide) (fun hc => ?_) (fun hc => ?_)
    · replace h := ite_pos' h hc
      refine lv_iconst (v := (-1)) C.1.1 C.1.2.1 dX2_columnNamed_44 (by decide) ?_
      cases h
      exact r_iret C hw (Or.inl rfl) dX2_columnNamed_45
    · replace h := ite_neg' h hc
      refine lv_aload_n C.1.1 C.1.2.1 dX2_columnNamed_19 rfl (lv_at hl 0 rfl) ?_
      refine r_getR (v := .ref (ad 10)) C hw (kx6 _) fX2_22 rfl (hx6_4 hx) dX2_columnNamed_20 ?_
      refine lv_iload_n C.1.1 C.1.2.1 dX2_columnNamed_23 rfl (lv_at hl 1 rfl) ?_
      refine lv_iload C.1.1 C.1.2.1 dX2_columnNamed_24 (lv_at hl 3 rfl) ?_
      obtain ⟨r_2, hc, h⟩ := bnd_some h
      refine r_nI (dc := 1) (As := [.int x1, .int x4]) (rest := [.ref (ad 10)]) C hw nX2_60 (fun sz => c_X6_slot hx hc sz) (by decide) rfl rfl hl.1 (Nat.le_of_ble_eq_true rfl) dX2_columnNamed_26 ⟨Nat.le_refl _, Nat.le_refl _⟩ (fun H locs hw => ?_)
      obtain ⟨hz, h⟩ := ck_some h
      refine r_lald C hw (kx10 _) (inB_in hz) dX2_columnNamed_29 ?_
      refine lv_lload_n C.1.1 C.1.2.1 dX2_columnNamed_30 rfl (lv_at hl 2 rfl) ?_
      refine W.lcmp C.1.1 C.1.2.1 dX2_columnNamed_31 ?_
      refine lv_if_ne (tgt := 38) C.1.1 C.1.2.1 dX2_columnNamed_32 (by decide) (fun hc => ?_) (fun hc => ?_)
      · replace h := ite_neg' h hc
        refine lv_iinc (v := x4 + 1) (lv' := [(4, .int (x4 + 1)), (0, .ref (ad 6)), (1, .int x1), (2, .long x2)]) C.1.1 C.1.2.1 dX2_columnNamed_38 hl (k := 3) rfl rfl (by decide) rfl (fun ls hl => ?_)
        refine lt_gen (P := fun x => lv_has ls 5 [(4, .int x), (0, .ref (ad 6)), (1, .int x1), (2, .long x2)]) h hl (fun x4_3 h hl => ?_)
        refine lv_goto (tgt := 3) C.1.1 C.1.2.1 dX2_columnNamed_41 (by decide) ?_
        exact hk3 _ _ _ _ hw (lv_sub hl [1, 2, 3, 0] rfl) h
      · replace h := ite_pos' h hc
        refine lv_iload C.1.1 C.1.2.1 dX2_columnNamed_35 (lv_at hl 3 rfl) ?_
        cases h
        exact r_iret C hw (Or.inl rfl) dX2_columnNamed_37
set_option maxHeartbeats 4000000 in
set_option maxRecDepth 100000 in
theorem w_X2_columnNamed_s_3L {x1 : Int32} {x2 : Int64} {g : GM} {r : Int32} (C : CX p s m args meth c RX2 yX2_columnNamed cX2_columnNamed 5 (some .int) D cA) (hx : HX hr ad) : ∀ (n : Nat) (x4 : Int32) (H : Heap) (locs : List Loc) (ls : Array Slot), WS D cA ev hr ad A (KX ++ tl) s H locs g → lv_has ls 5 [(0, .ref (ad 6)), (1, .int x1), (2, .long x2), (4, .int x4)] → fixN (F_X2_columnNamed_s_3B x1 x2 g) n x4 = some r → W p l e (RM 2 0 0) s m args below meth c H locs 0 0 (MQ below (QI D cA ev hr ad A (KX ++ tl) r g) args s 0 0 A) (F0 m 3 ls []) := by
  intro n
  induction n with
  | zero => intro x4 H locs ls hw hl h; exact (fix_zero h).elim
  | succ n ih => intro x4 H locs ls hw hl h; exact w_X2_columnNamed_s_3 (fixN (F_X2_columnNamed_s_3B x1 x2 g) n) ih C hx hw hl h
set_option maxHeartbeats 4000000 in
set_option maxRecDepth 100000 in
theorem w_X2_columnNamed_s_0 (C : CX p s m args meth c RX2 yX2_columnNamed cX2_columnNamed 5 (some .int) D cA) (hx : HX hr ad) {H : Heap} {locs : List Loc} {g : GM} (hw : WS D cA ev hr ad A (KX ++ tl) s H locs g) {a1 : Int32} {a2 : Int64} {ls : Array Slot} (hl : lv_has ls 5 [(0, .ref (ad 6)), (1, .int a1), (2, .long a2)]) {r : Int32} (h : F_X2_columnNamed_s a1 a2 g = some r) : W p l e (RM 2 0 0) s m args below meth c H locs 0 0 (MQ below (QI D cA ev hr ad A (KX ++ tl) r g) args s 0 0 A) (F0 m 0 ls []) := by
  refine lv_iconst (v := 0) C.1.1 C.1.2.1 dX2_columnNamed_0 (by decide) ?_
  refine lv_istore (lv' := [(4, .int 0), (0, .ref (ad 6)), (1, .int a1), (2, .long a2)]) C.1.1 C.1.2.1 dX2_columnNamed_1 hl (by decide) rfl (fun ls hl => ?_)
  exact w_X2_columnNamed_s_3L C hx FU _ _ _ _ hw (lv_sub hl [1, 2, 3, 0] rfl) h
set_option maxHeartbeats 4000000 in
set_option maxRecDepth 100000 in
theorem c_X2_columnNamed_s (hx : HX hr ad) {a1 : Int32} {a2 : Int64} {g : GM} {r : Int32} (h : F_X2_columnNamed_s a1 a2 g = some r) (sz : Nat) : Met l yX2_columnNamed (WSX yX2_columnNamed cX2_columnNamed 5 (some .int)) (RM 2 0 0) (va_Pc [.ref (ad 6), .int a1, .long a2] (PX D cA ev hr ad (KX ++ tl) g sz)) (QI D cA ev hr ad (AX ad (KX ++ tl).length sz) (KX ++ tl) r g) 0 0 (AX ad (KX ++ tl).length sz) :=
  met_of (own := RX2) pnX2 rfl (Nat.le_of_ble_eq_true rfl) (fun p e s m below meth c ls C hw hsz hl => w_X2_columnNamed_s_0 C hx hw hl h)
set_option maxHeartbeats 4000000 in
set_option maxRecDepth 100000 in
theorem w_X2_target_s_0 (C : CX p s m args meth c RX2 yX2_target cX2_target 3 (some .int) D cA) (hx : HX hr ad) {H : Heap} {locs : List Loc} {g : GM} (hw : WS D cA ev hr ad A (KX ++ tl) s H locs g) {a1 : Int32} {a2 : Int32} {ls : Array Slot} (hl : lv_has ls 3 [(0, .ref (ad 6)), (1, .int a1), (2, .int a2)]) {r : Int32} (h : F_X2_target_s a1 a2 g = some r) : W p l e (RM 2 0 0) s m args below meth c H locs 0 0 (MQ below (QI D cA ev hr ad A (KX ++ tl) r g) args s 0 0 A) (F0 m 0 ls []) := by
  refine lv_aload_n C.1.1 C.1.2.1 dX2_target_0 rfl (lv_at hl 0 rfl) ?_
  refine lv_iload_n C.1.1 C.1.2.1 dX2_target_1 rfl (lv_at hl 1 rfl) ?_
  refine lv_iload_n C.1.1 C.1.2.1 dX2_target_2 rfl (lv_at hl 2 rfl) ?_
  obtain ⟨r_1, hc, h⟩ := bnd_some h
  refine r_vI (dc := 1) (As := [.int a1, .int a2]) (rest := []) C hw vX2_56 (kx6 _) (by decide) rfl (fun sz => c_X2_hasColumn_s hx hc sz) (by decide) rfl rfl hl.1 (Nat.le_of_ble_eq_true rfl) dX2_target_3 ⟨Nat.le_refl _, Nat.le_refl _⟩ (fun H locs hw => ?_)
  refine lv_if_eq (tgt := 22) C.1.1 C.1.2.1 dX2_target_6 (by decide) (fun hc => ?_) (fun hc => ?_)
  · replace h := ite_pos' h hc
    refine lv_iconst (v := (-1)) C.1.1 C.1.2.1 dX2_target_22 (by decide) ?_
    cases h
    exact r_iret C hw (Or.inl rfl) dX2_target_23
  · replace h := ite_neg' h hc
    refine lv_aload_n C.1.1 C.1.2.1 dX2_target_9 rfl (lv_at hl 0 rfl) ?_
    refine r_getR (v := .ref (ad 11)) C hw (kx6 _) fX2_25 rfl (hx6_5 hx) dX2_target_10 ?_
    refine lv_iload_n C.1.1 C.1.2.1 dX2_target_13 rfl (lv_at hl 1 rfl) ?_
    refine lv_iload_n C.1.1 C.1.2.1 dX2_target_14 rfl (lv_at hl 2 rfl) ?_
    obtain ⟨r_2, hc, h⟩ := bnd_some h
    refine r_nI (dc := 1) (As := [.int a1, .int a2]) (rest := [.ref (ad 11)]) C hw nX2_60 (fun sz => c_X6_slot hx hc sz) (by decide) rfl rfl hl.1 (Nat.le_of_ble_eq_true rfl) dX2_target_15 ⟨Nat.le_refl _, Nat.le_refl _⟩ (fun H locs hw => ?_)
    obtain ⟨hz, h⟩ := ck_some h
    refine r_iald C hw (kx11 _) (inB_in hz) dX2_target_18 ?_
    refine lv_goto (tgt := 23) C.1.1 C.1.2.1 dX2_target_19 (by decide) ?_
    cases h
    exact r_iret C hw (Or.inl rfl) dX2_target_23
set_option maxHeartbeats 4000000 in
set_option maxRecDepth 100000 in
theorem c_X2_target_s (hx : HX hr ad) {a1 : Int32} {a2 : Int32} {g : GM} {r : Int32} (h : F_X2_target_s a1 a2 g = some r) (sz : Nat) : Met l yX2_target (WSX yX2_target cX2_target 3 (some .int)) (RM 2 0 0) (va_Pc [.ref (ad 6), .int a1, .int a2] (PX D cA ev hr ad (KX ++ tl) g sz)) (QI D cA ev hr ad (AX ad (KX ++ tl).length sz) (KX ++ tl) r g) 0 0 (AX ad (KX ++ tl).length sz) :=
  met_of (own := RX2) pnX2 rfl (Nat.le_of_ble_eq_true rfl) (fun p e s m below meth c ls C hw hsz hl => w_X2_target_s_0 C hx hw hl h)
set_option maxHeartbeats 4000000 in
set_option maxRecDepth 100000 in
theorem w_X5_readPath_186 {g : GM} {gz : GM} (C : CX p s m args meth c RX5 yX5_readPath cX5_readPath 4 none D cA) (hx : HW hr ad) {H : Heap} {locs : List Loc} (hw : WS D cA ev hr ad A (KX ++ [(5, 7), (8, 4)]) s H locs g) {ls : Array Slot} (hl : lv_has ls 4 [(0, .ref (ad 42))]) (h : F_X5_readPath_186 g = some gz) : W p l e (RM 9 0 0) s m args below meth c H locs 0 0 (MQ below (QV D cA ev hr ad A (KX ++ [(5, 7), (8, 4)]) gz) args s 0 0 A) (F0 m 186 ls []) := by
  refine lv_aload_n C.1.1 C.1.2.1 dX5_readPath_186 rfl (lv_at hl 0 rfl) ?_
  refine r_getR (v := .ref (ad 1)) C hw kLW42 fX5_9 rfl hx.2.1 dX5_readPath_187 ?_
  obtain ⟨g_1, hc, h⟩ := bnd_some h
  refine r_vV (dc := 2) (As := []) (rest := []) C hw vX5_51 (kx1 _) (by decide) rfl (fun sz => c_X4_refuseToken hx.1 hc sz) (by decide) rfl rfl hl.1 (Nat.le_of_ble_eq_true rfl) dX5_readPath_190 ⟨Nat.le_refl _, Nat.le_refl _⟩ (fun H locs hw => ?_)
  cases h
  exact r_vret C hw rfl dX5_readPath_193
set_option maxHeartbeats 4000000 in
set_option maxRecDepth 100000 in
theorem w_X5_readPath_170 {x1 : Int32} {g : GM} {gz : GM} (kb36 : Int32 × GM → Option (GM)) (hk36 : ∀ (x1 : Int32) (g : GM) (H : Heap) (locs : List Loc) (ls : Array Slot), WS D cA ev hr ad A (KX ++ [(5, 7), (8, 4)]) s H locs g → lv_has ls 4 [(0, .ref (ad 42)), (1, .int x1)] → kb36 (x1, g) = some gz → W p l e (RM 9 0 0) s m args below meth c H locs 0 0 (MQ below (QV D cA ev hr ad A (KX ++ [(5, 7), (8, 4)]) gz) args s 0 0 A) (F0 m 36 ls [])) (C : CX p s m args meth c RX5 yX5_readPath cX5_readPath 4 none D cA) (hx : HW hr ad) {H : Heap} {locs : List Loc} (hw : WS D cA ev hr ad A (KX ++ [(5, 7), (8, 4)]) s H locs g) {ls : Array Slot} (hl : lv_has ls 4 [(0, .ref (ad 42)), (1, .int x1)]) (h : F_X5_readPath_170 kb36 x1 g = some gz) : W p l e (RM 9 0 0) s m args below meth c H locs 0 0 (MQ below (QV D cA ev hr ad A (KX ++ [(5, 7), (8, 4)]) gz) args s 0 0 A) (F0 m 170 ls []) := by
  refine lv_iload_n C.1.1 C.1.2.1 dX5_readPath_170 rfl (lv_at hl 1 rfl) ?_
  refine lv_iconst (v := (-1)) C.1.1 C.1.2.1 dX5_readPath_171 (by decide) ?_
  refine lv_icmp_ne (tgt := 176) C.1.1 C.1.2.1 dX5_readPath_172 (by decide) (fun hc => ?_) (fun hc => ?_)
  · replace h := ite_neg' h hc
    refine lv_aload_n C.1.1 C.1.2.1 dX5_readPath_176 rfl (lv_at hl 0 rfl) ?_
    refine r_getR (v := .ref (ad 1)) C hw kLW42 fX5_9 rfl hx.2.1 dX5_readPath_177 ?_
    obtain ⟨g_2, hc, h⟩ := bnd_some h
    refine r_vV (dc := 8) (As := []) (rest := []) C hw vX5_54 (kx1 _) (by decide) rfl (fun sz => c_X4_advance hx.1 hc sz) (by decide) rfl rfl hl.1 (Nat.le_of_ble_eq_true rfl) dX5_readPath_180 ⟨Nat.le_refl _, Nat.le_refl _⟩ (fun H locs hw => ?_)
    refine lv_goto (tgt := 36) C.1.1 C.1.2.1 dX5_readPath_183 (by decide) ?_
    exact hk36 _ _ _ _ _ hw hl h
  · replace h := ite_pos' h hc
    cases h
    exact r_vret C hw rfl dX5_readPath_175
set_option maxHeartbeats 4000000 in
set_option maxRecDepth 100000 in
theorem w_X5_readPath_161 {x1 : Int32} {x2 : Int32} {g : GM} {gz : GM} (kb36 : Int32 × GM → Option (GM)) (hk36 : ∀ (x1 : Int32) (g : GM) (H : Heap) (locs : List Loc) (ls : Array Slot), WS D cA ev hr ad A (KX ++ [(5, 7), (8, 4)]) s H locs g → lv_has ls 4 [(0, .ref (ad 42)), (1, .int x1)] → kb36 (x1, g) = some gz → W p l e (RM 9 0 0) s m args below meth c H locs 0 0 (MQ below (QV D cA ev hr ad A (KX ++ [(5, 7), (8, 4)]) gz) args s 0 0 A) (F0 m 36 ls [])) (C : CX p s m args meth c RX5 yX5_readPath cX5_readPath 4 none D cA) (hx : HW hr ad) {H : Heap} {locs : List Loc} (hw : WS D cA ev hr ad A (KX ++ [(5, 7), (8, 4)]) s H locs g) {ls : Array Slot} (hl : lv_has ls 4 [(0, .ref (ad 42)), (1, .int x1), (2, .int x2)]) (h : F_X5_readPath_161 kb36 x1 x2 g = some gz) : W p l e (RM 9 0 0) s m args below meth c H locs 0 0 (MQ below (QV D cA ev hr ad A (KX ++ [(5, 7), (8, 4)]) gz) args s 0 0 A) (F0 m 161 ls []) := by
  refine lv_aload_n C.1.1 C.1.2.1 dX5_readPath_161 rfl (lv_at hl 0 rfl) ?_
  refine r_getR (v := .ref (ad 1)) C hw kLW42 fX5_9 rfl hx.2.1 dX5_readPath_162 ?_
  refine lv_iconst (v := 4) C.1.1 C.1.2.1 dX5_readPath_165 (by decide) ?_
  refine lv_iload_n C.1.1 C.1.2.1 dX5_readPath_166 rfl (lv_at hl 2 rfl) ?_
  obtain ⟨g_3, hc, h⟩ := bnd_some h
  refine r_vV (dc := 1) (As := [.int 4, .int x2]) (rest := []) C hw vX5_100 (kx1 _) (by decide) rfl (fun sz => c_X4_refuse hx.1 hc sz) (by decide) rfl rfl hl.1 (Nat.le_of_ble_eq_true rfl) dX5_readPath_167 ⟨Nat.le_refl _, Nat.le_refl _⟩ (fun H locs hw => ?_)
  exact w_X5_readPath_170 kb36 hk36 C hx hw (lv_sub hl [0, 1] rfl) h
set_option maxHeartbeats 4000000 in
set_option maxRecDepth 100000 in
theorem w_X5_readPath_158 {x1 : Int32} {x2 : Int32} {s0 : Int32} {s1 : Int32} {g : GM} {gz : GM} (kb36 : Int32 × GM → Option (GM)) (hk36 : ∀ (x1 : Int32) (g : GM) (H : Heap) (locs : List Loc) (ls : Array Slot), WS D cA ev hr ad A (KX ++ [(5, 7), (8, 4)]) s H locs g → lv_has ls 4 [(0, .ref (ad 42)), (1, .int x1)] → kb36 (x1, g) = some gz → W p l e (RM 9 0 0) s m args below meth c H locs 0 0 (MQ below (QV D cA ev hr ad A (KX ++ [(5, 7), (8, 4)]) gz) args s 0 0 A) (F0 m 36 ls [])) (C : CX p s m args meth c RX5 yX5_readPath cX5_readPath 4 none D cA) (hx : HW hr ad) {H : Heap} {locs : List Loc} (hw : WS D cA ev hr ad A (KX ++ [(5, 7), (8, 4)]) s H locs g) {ls : Array Slot} (hl : lv_has ls 4 [(0, .ref (ad 42)), (1, .int x1), (2, .int x2)]) (h : F_X5_readPath_158 kb36 x1 x2 s0 s1 g = some gz) : W p l e (RM 9 0 0) s m args below meth c H locs 0 0 (MQ below (QV D cA ev hr ad A (KX ++ [(5, 7), (8, 4)]) gz) args s 0 0 A) (F0 m 158 ls [.int s0, .int s1]) := by
  refine lv_icmp_eq (tgt := 170) C.1.1 C.1.2.1 dX5_readPath_158 (by decide) (fun hc => ?_) (fun hc => ?_)
  · replace h := ite_pos' h hc
    exact w_X5_readPath_170 kb36 hk36 C hx hw (lv_sub hl [0, 1] rfl) h
  · replace h := ite_neg' h hc
    exact w_X5_readPath_161 kb36 hk36 C hx hw hl h
set_option maxHeartbeats 4000000 in
set_option maxRecDepth 100000 in
theorem w_X5_readPath_141 {x1 : Int32} {x2 : Int32} {s0 : Int32} {g : GM} {gz : GM} (kb36 : Int32 × GM → Option (GM)) (hk36 : ∀ (x1 : Int32) (g : GM) (H : Heap) (locs : List Loc) (ls : Array Slot), WS D cA ev hr ad A (KX ++ [(5, 7), (8, 4)]) s H locs g → lv_has ls 4 [(0, .ref (ad 42)), (1, .int x1)] → kb36 (x1, g) = some gz → W p l e (RM 9 0 0) s m args below meth c H locs 0 0 (MQ below (QV D cA ev hr ad A (KX ++ [(5, 7), (8, 4)]) gz) args s 0 0 A) (F0 m 36 ls [])) (C : CX p s m args meth c RX5 yX5_readPath cX5_readPath 4 none D cA) (hx : HW hr ad) {H : Heap} {locs : List Loc} (hw : WS D cA ev hr ad A (KX ++ [(5, 7), (8, 4)]) s H locs g) {ls : Array Slot} (hl : lv_has ls 4 [(0, .ref (ad 42)), (1, .int x1), (2, .int x2)]) (h : F_X5_readPath_141 kb36 x1 x2 s0 g = some gz) : W p l e (RM 9 0 0) s m args below meth c H locs 0 0 (MQ below (QV D cA ev hr ad A (KX ++ [(5, 7), (8, 4)]) gz) args s 0 0 A) (F0 m 141 ls [.int s0]) := by
  refine lv_aload_n C.1.1 C.1.2.1 dX5_readPath_141 rfl (lv_at hl 0 rfl) ?_
  refine r_getR (v := .ref (ad 1)) C hw kLW42 fX5_9 rfl hx.2.1 dX5_readPath_142 ?_
  refine r_getI C hw (kx1 _) fX5_42 rfl dX5_readPath_145 ?_
  refine lv_bipush (v := 46) C.1.1 C.1.2.1 dX5_readPath_148 (by decide) ?_
  refine lv_icmp_ne (tgt := 157) C.1.1 C.1.2.1 dX5_readPath_150 (by decide) (fun hc => ?_) (fun hc => ?_)
  · replace h := ite_neg' h hc
    refine lv_iconst (v := 0) C.1.1 C.1.2.1 dX5_readPath_157 (by decide) ?_
    exact w_X5_readPath_158 kb36 hk36 C hx hw hl h
  · replace h := ite_pos' h hc
    refine lv_iconst (v := 1) C.1.1 C.1.2.1 dX5_readPath_153 (by decide) ?_
    refine lv_goto (tgt := 158) C.1.1 C.1.2.1 dX5_readPath_154 (by decide) ?_
    exact w_X5_readPath_158 kb36 hk36 C hx hw hl h
set_option maxHeartbeats 4000000 in
set_option maxRecDepth 100000 in
theorem w_X5_readPath_36 {gz : GM} (kb36 : Int32 × GM → Option (GM)) (hk36 : ∀ (x1 : Int32) (g : GM) (H : Heap) (locs : List Loc) (ls : Array Slot), WS D cA ev hr ad A (KX ++ [(5, 7), (8, 4)]) s H locs g → lv_has ls 4 [(0, .ref (ad 42)), (1, .int x1)] → kb36 (x1, g) = some gz → W p l e (RM 9 0 0) s m args below meth c H locs 0 0 (MQ below (QV D cA ev hr ad A (KX ++ [(5, 7), (8, 4)]) gz) args s 0 0 A) (F0 m 36 ls [])) (C : CX p s m args meth c RX5 yX5_readPath cX5_readPath 4 none D cA) (hx : HW hr ad) {H : Heap} {locs : List Loc} {x1 : Int32} {g : GM} (hw : WS D cA ev hr ad A (KX ++ [(5, 7), (8, 4)]) s H locs g) {ls : Array Slot} (hl : lv_has ls 4 [(0, .ref (ad 42)), (1, .int x1)]) (h : F_X5_readPath_36B kb36 (x1, g) = some gz) : W p l e (RM 9 0 0) s m args below meth c H locs 0 0 (MQ below (QV D cA ev hr ad A (KX ++ [(5, 7), (8, 4)]) gz) args s 0 0 A) (F0 m 36 ls []) := by
  refine lv_aload_n C.1.1 C.1.2.1 dX5_readPath_36 rfl (lv_at hl 0 rfl) ?_
  refine r_getR (v := .ref (ad 1)) C hw kLW42 fX5_9 rfl hx.2.1 dX5_readPath_37 ?_
  refine r_getI C hw (kx1 _) fX5_38 rfl dX5_readPath_40 ?_
  refine lv_if_ne (tgt := 186) C.1.1 C.1.2.1 dX5_readPath_43 (by decide) (fun hc => ?_) (fun hc => ?_)
  · replace h := ite_neg' h hc
    exact w_X5_readPath_186 C hx hw (lv_sub hl [0] rfl) h
  · replace h := ite_pos' h hc
    refine lv_aload_n C.1.1 C.1.2.1 dX5_readPath_46 rfl (lv_at hl 0 rfl) ?_
    refine r_getI C hw kLW42 fX5_123 rfl dX5_readPath_47 ?_
    refine lv_iconst (v := 4) C.1.1 C.1.2.1 dX5_readPath_50 (by decide) ?_
    refine lv_icmp_ge (tgt := 186) C.1.1 C.1.2.1 dX5_readPath_51 (by decide) (fun hc => ?_) (fun hc => ?_)
    · replace h := ite_pos' h hc
      exact w_X5_readPath_186 C hx hw (lv_sub hl [0] rfl) h
    · replace h := ite_neg' h hc
      refine lv_aload_n C.1.1 C.1.2.1 dX5_readPath_54 rfl (lv_at hl 0 rfl) ?_
      refine r_getR (v := .ref (ad 1)) C hw kLW42 fX5_9 rfl hx.2.1 dX5_readPath_55 ?_
      refine r_getI C hw (kx1 _) fX5_42 rfl dX5_readPath_58 ?_
      refine lv_iconst (v := 2) C.1.1 C.1.2.1 dX5_readPath_61 (by decide) ?_
      refine lv_icmp_ne (tgt := 186) C.1.1 C.1.2.1 dX5_readPath_62 (by decide) (fun hc => ?_) (fun hc => ?_)
      · replace h := ite_neg' h hc
        exact w_X5_readPath_186 C hx hw (lv_sub hl [0] rfl) h
      · replace h := ite_pos' h hc
        refine lv_aload_n C.1.1 C.1.2.1 dX5_readPath_65 rfl (lv_at hl 0 rfl) ?_
        refine r_getR (v := .ref (ad 1)) C hw kLW42 fX5_9 rfl hx.2.1 dX5_readPath_66 ?_
        refine r_getI C hw (kx1 _) fX5_97 rfl dX5_readPath_69 ?_
        refine lv_istore_n (lv' := [(2, .int (gi g 1 6)), (0, .ref (ad 42)), (1, .int x1)]) C.1.1 C.1.2.1 dX5_readPath_72 rfl hl (by decide) rfl (fun ls hl => ?_)
        refine lt_gen (P := fun x => lv_has ls 4 [(2, .int x), (0, .ref (ad 42)), (1, .int x1)]) h hl (fun x2_4 h hl => ?_)
        refine lv_aload_n C.1.1 C.1.2.1 dX5_readPath_73 rfl (lv_at hl 1 rfl) ?_
        refine r_getR (v := .ref (ad 6)) C hw kLW42 fX5_15 rfl hx.2.2.1 dX5_readPath_74 ?_
        refine lv_iload_n C.1.1 C.1.2.1 dX5_readPath_77 rfl (lv_at hl 2 rfl) ?_
        refine lv_aload_n C.1.1 C.1.2.1 dX5_readPath_78 rfl (lv_at hl 1 rfl) ?_
        refine r_getR (v := .ref (ad 1)) C hw kLW42 fX5_9 rfl hx.2.1 dX5_readPath_79 ?_
        refine r_getL C hw (kx1 _) fX5_85 rfl dX5_readPath_82 ?_
        obtain ⟨r_5, hc, h⟩ := bnd_some h
        refine r_vI (dc := 2) (As := [.int x1, .long (gl g 1 8)]) (rest := []) C hw vX5_89 (kx6 _) (by decide) rfl (fun sz => c_X2_columnNamed_s hx.1 hc sz) (by decide) rfl rfl hl.1 (Nat.le_of_ble_eq_true rfl) dX5_readPath_85 ⟨Nat.le_refl _, Nat.le_refl _⟩ (fun H locs hw => ?_)
        refine lv_istore_n (lv' := [(3, .int r_5), (2, .int x2_4), (0, .ref (ad 42)), (1, .int x1)]) C.1.1 C.1.2.1 dX5_readPath_88 rfl hl (by decide) rfl (fun ls hl => ?_)
        refine lt_gen (P := fun x => lv_has ls 4 [(3, .int x), (2, .int x2_4), (0, .ref (ad 42)), (1, .int x1)]) h hl (fun x3_6 h hl => ?_)
        refine lv_aload_n C.1.1 C.1.2.1 dX5_readPath_89 rfl (lv_at hl 2 rfl) ?_
        refine r_getR (v := .ref (ad 43)) C hw kLW42 fX5_23 rfl hx.2.2.2.2 dX5_readPath_90 ?_
        refine lv_aload_n C.1.1 C.1.2.1 dX5_readPath_93 rfl (lv_at hl 2 rfl) ?_
        refine r_getI C hw kLW42 fX5_123 rfl dX5_readPath_94 ?_
        refine lv_iload_n C.1.1 C.1.2.1 dX5_readPath_97 rfl (lv_at hl 0 rfl) ?_
        obtain ⟨hz, h⟩ := ck_some h
        refine r_iast C hw kLW43 (inB_in hz) dX5_readPath_98 (fun H locs hw => ?_)
        refine lt_gen (P := fun g => WS D cA ev hr ad A (KX ++ [(5, 7), (8, 4)]) s H locs g) h hw (fun g_7 h hw => ?_)
        refine lv_aload_n C.1.1 C.1.2.1 dX5_readPath_99 rfl (lv_at hl 2 rfl) ?_
        refine lv_dup C.1.1 C.1.2.1 dX5_readPath_100 rfl ?_
        refine r_getI C hw kLW42 fX5_123 rfl dX5_readPath_101 ?_
        refine lv_iconst (v := 1) C.1.1 C.1.2.1 dX5_readPath_104 (by decide) ?_
        refine lv_iadd C.1.1 C.1.2.1 dX5_readPath_105 ?_
        refine r_putI C hw kLW42 fX5_123 rfl rfl (Or.inl rfl) dX5_readPath_106 (fun H locs hw => ?_)
        refine lt_gen (P := fun g => WS D cA ev hr ad A (KX ++ [(5, 7), (8, 4)]) s H locs g) h hw (fun g_8 h hw => ?_)
        refine lv_aload_n C.1.1 C.1.2.1 dX5_readPath_109 rfl (lv_at hl 2 rfl) ?_
        refine r_getR (v := .ref (ad 6)) C hw kLW42 fX5_15 rfl hx.2.2.1 dX5_readPath_110 ?_
        refine lv_iload_n C.1.1 C.1.2.1 dX5_readPath_113 rfl (lv_at hl 3 rfl) ?_
        refine lv_iload_n C.1.1 C.1.2.1 dX5_readPath_114 rfl (lv_at hl 0 rfl) ?_
        obtain ⟨r_9, hc, h⟩ := bnd_some h
        refine r_vI (dc := 2) (As := [.int x1, .int x3_6]) (rest := []) C hw vX5_93 (kx6 _) (by decide) rfl (fun sz => c_X2_target_s hx.1 hc sz) (by decide) rfl rfl hl.1 (Nat.le_of_ble_eq_true rfl) dX5_readPath_115 ⟨Nat.le_refl _, Nat.le_refl _⟩ (fun H locs hw => ?_)
        refine lv_istore_n (lv' := [(1, .int r_9), (3, .int x3_6), (2, .int x2_4), (0, .ref (ad 42))]) C.1.1 C.1.2.1 dX5_readPath_118 rfl hl (by decide) rfl (fun ls hl => ?_)
        refine lt_gen (P := fun x => lv_has ls 4 [(1, .int x), (3, .int x3_6), (2, .int x2_4), (0, .ref (ad 42))]) h hl (fun x1_10 h hl => ?_)
        refine lv_aload_n C.1.1 C.1.2.1 dX5_readPath_119 rfl (lv_at hl 3 rfl) ?_
        refine r_getR (v := .ref (ad 1)) C hw kLW42 fX5_9 rfl hx.2.1 dX5_readPath_120 ?_
        obtain ⟨g_11, hc, h⟩ := bnd_some h
        refine r_vV (dc := 8) (As := []) (rest := []) C hw vX5_54 (kx1 _) (by decide) rfl (fun sz => c_X4_advance hx.1 hc sz) (by decide) rfl rfl hl.1 (Nat.le_of_ble_eq_true rfl) dX5_readPath_123 ⟨Nat.le_refl _, Nat.le_refl _⟩ (fun H locs hw => ?_)
        refine lv_iload_n C.1.1 C.1.2.1 dX5_readPath_126 rfl (lv_at hl 1 rfl) ?_
        refine lv_iconst (v := (-1)) C.1.1 C.1.2.1 dX5_readPath_127 (by decide) ?_
        refine lv_icmp_eq (tgt := 161) C.1.1 C.1.2.1 dX5_readPath_128 (by decide) (fun hc => ?_) (fun hc => ?_)
        · replace h := ite_pos' h hc
          exact w_X5_readPath_161 kb36 hk36 C hx hw (lv_sub hl [3, 0, 2] rfl) h
        · replace h := ite_neg' h hc
          refine lv_iload_n C.1.1 C.1.2.1 dX5_readPath_131 rfl (lv_at hl 0 rfl) ?_
          refine lv_iconst (v := (-1)) C.1.1 C.1.2.1 dX5_readPath_132 (by decide) ?_
          refine lv_icmp_eq (tgt := 140) C.1.1 C.1.2.1 dX5_readPath_133 (by decide) (fun hc => ?_) (fun hc => ?_)
          · replace h := ite_pos' h hc
            refine lv_iconst (v := 0) C.1.1 C.1.2.1 dX5_readPath_140 (by decide) ?_
            exact w_X5_readPath_141 kb36 hk36 C hx hw (lv_sub hl [3, 0, 2] rfl) h
          · replace h := ite_neg' h hc
            refine lv_iconst (v := 1) C.1.1 C.1.2.1 dX5_readPath_136 (by decide) ?_
            refine lv_goto (tgt := 141) C.1.1 C.1.2.1 dX5_readPath_137 (by decide) ?_
            exact w_X5_readPath_141 kb36 hk36 C hx hw (lv_sub hl [3, 0, 2] rfl) h
set_option maxHeartbeats 4000000 in
set_option maxRecDepth 100000 in
theorem w_X5_readPath_36L {gz : GM} (C : CX p s m args meth c RX5 yX5_readPath cX5_readPath 4 none D cA) (hx : HW hr ad) : ∀ (n : Nat) (x1 : Int32) (g : GM) (H : Heap) (locs : List Loc) (ls : Array Slot), WS D cA ev hr ad A (KX ++ [(5, 7), (8, 4)]) s H locs g → lv_has ls 4 [(0, .ref (ad 42)), (1, .int x1)] → fixN (F_X5_readPath_36B) n (x1, g) = some gz → W p l e (RM 9 0 0) s m args below meth c H locs 0 0 (MQ below (QV D cA ev hr ad A (KX ++ [(5, 7), (8, 4)]) gz) args s 0 0 A) (F0 m 36 ls []) := by
  intro n
  induction n with
  | zero => intro x1 g H locs ls hw hl h; exact (fix_zero h).elim
  | succ n ih => intro x1 g H locs ls hw hl h; exact w_X5_readPath_36 (fixN (F_X5_readPath_36B) n) ih C hx hw hl h
set_option maxHeartbeats 4000000 in
set_option maxRecDepth 100000 in
theorem w_X5_readPath_16 {g : GM} {gz : GM} (C : CX p s m args meth c RX5 yX5_readPath cX5_readPath 4 none D cA) (hx : HW hr ad) {H : Heap} {locs : List Loc} (hw : WS D cA ev hr ad A (KX ++ [(5, 7), (8, 4)]) s H locs g) {ls : Array Slot} (hl : lv_has ls 4 [(0, .ref (ad 42))]) (h : F_X5_readPath_16 g = some gz) : W p l e (RM 9 0 0) s m args below meth c H locs 0 0 (MQ below (QV D cA ev hr ad A (KX ++ [(5, 7), (8, 4)]) gz) args s 0 0 A) (F0 m 16 ls []) := by
  refine lv_aload_n C.1.1 C.1.2.1 dX5_readPath_16 rfl (lv_at hl 0 rfl) ?_
  refine lv_dup C.1.1 C.1.2.1 dX5_readPath_17 rfl ?_
  refine r_getI C hw kLW42 fX5_120 rfl dX5_readPath_18 ?_
  refine lv_iconst (v := 1) C.1.1 C.1.2.1 dX5_readPath_21 (by decide) ?_
  refine lv_iadd C.1.1 C.1.2.1 dX5_readPath_22 ?_
  refine r_putI C hw kLW42 fX5_120 rfl rfl (Or.inl rfl) dX5_readPath_23 (fun H locs hw => ?_)
  refine lt_gen (P := fun g => WS D cA ev hr ad A (KX ++ [(5, 7), (8, 4)]) s H locs g) h hw (fun g_12 h hw => ?_)
  refine lv_aload_n C.1.1 C.1.2.1 dX5_readPath_26 rfl (lv_at hl 0 rfl) ?_
  refine lv_iconst (v := 0) C.1.1 C.1.2.1 dX5_readPath_27 (by decide) ?_
  refine r_putI C hw kLW42 fX5_123 rfl rfl (Or.inl rfl) dX5_readPath_28 (fun H locs hw => ?_)
  refine lt_gen (P := fun g => WS D cA ev hr ad A (KX ++ [(5, 7), (8, 4)]) s H locs g) h hw (fun g_13 h hw => ?_)
  refine lv_aload_n C.1.1 C.1.2.1 dX5_readPath_31 rfl (lv_at hl 0 rfl) ?_
  refine r_getI C hw kLW42 fX5_65 rfl dX5_readPath_32 ?_
  refine lv_istore_n (lv' := [(1, .int (gi g_13 42 6)), (0, .ref (ad 42))]) C.1.1 C.1.2.1 dX5_readPath_35 rfl hl (by decide) rfl (fun ls hl => ?_)
  refine lt_gen (P := fun x => lv_has ls 4 [(1, .int x), (0, .ref (ad 42))]) h hl (fun x1_14 h hl => ?_)
  exact w_X5_readPath_36L C hx FU _ _ _ _ _ hw (lv_sub hl [1, 0] rfl) h
set_option maxHeartbeats 4000000 in
set_option maxRecDepth 100000 in
theorem w_X5_readPath_0 (C : CX p s m args meth c RX5 yX5_readPath cX5_readPath 4 none D cA) (hx : HW hr ad) {H : Heap} {locs : List Loc} {g : GM} (hw : WS D cA ev hr ad A (KX ++ [(5, 7), (8, 4)]) s H locs g) {ls : Array Slot} (hl : lv_has ls 4 [(0, .ref (ad 42))]) {gz : GM} (h : F_X5_readPath g = some gz) : W p l e (RM 9 0 0) s m args below meth c H locs 0 0 (MQ below (QV D cA ev hr ad A (KX ++ [(5, 7), (8, 4)]) gz) args s 0 0 A) (F0 m 0 ls []) := by
  refine lv_aload_n C.1.1 C.1.2.1 dX5_readPath_0 rfl (lv_at hl 0 rfl) ?_
  refine r_getI C hw kLW42 fX5_120 rfl dX5_readPath_1 ?_
  refine lv_bipush (v := 40) C.1.1 C.1.2.1 dX5_readPath_4 (by decide) ?_
  refine lv_icmp_lt (tgt := 16) C.1.1 C.1.2.1 dX5_readPath_6 (by decide) (fun hc => ?_) (fun hc => ?_)
  · replace h := ite_pos' h hc
    exact w_X5_readPath_16 C hx hw hl h
  · replace h := ite_neg' h hc
    refine lv_aload_n C.1.1 C.1.2.1 dX5_readPath_9 rfl (lv_at hl 0 rfl) ?_
    refine r_getR (v := .ref (ad 1)) C hw kLW42 fX5_9 rfl hx.2.1 dX5_readPath_10 ?_
    obtain ⟨g_15, hc, h⟩ := bnd_some h
    refine r_vV (dc := 2) (As := []) (rest := []) C hw vX5_51 (kx1 _) (by decide) rfl (fun sz => c_X4_refuseToken hx.1 hc sz) (by decide) rfl rfl hl.1 (Nat.le_of_ble_eq_true rfl) dX5_readPath_13 ⟨Nat.le_refl _, Nat.le_refl _⟩ (fun H locs hw => ?_)
    exact w_X5_readPath_16 C hx hw hl h
set_option maxHeartbeats 4000000 in
set_option maxRecDepth 100000 in
theorem c_X5_readPath (hx : HW hr ad) {g : GM} {gz : GM} (h : F_X5_readPath g = some gz) (sz : Nat) : Met l yX5_readPath (WSX yX5_readPath cX5_readPath 4 none) (RM 9 0 0) (va_Pc [.ref (ad 42)] (PX D cA ev hr ad (KX ++ [(5, 7), (8, 4)]) g sz)) (QV D cA ev hr ad (AX ad (KX ++ [(5, 7), (8, 4)]).length sz) (KX ++ [(5, 7), (8, 4)]) gz) 0 0 (AX ad (KX ++ [(5, 7), (8, 4)]).length sz) :=
  met_of (own := RX5) pnX5 rfl (Nat.le_of_ble_eq_true rfl) (fun p e s m below meth c ls C hw hsz hl => w_X5_readPath_0 C hx hw hl h)
set_option maxHeartbeats 4000000 in
set_option maxRecDepth 100000 in
theorem w_X5_valueAlong_4 {g : GM} {r : Int32} (kb4 : Int32 × Int32 → Option (Int32)) (hk4 : ∀ (x2 : Int32) (x3 : Int32) (H : Heap) (locs : List Loc) (ls : Array Slot), WS D cA ev hr ad A (KX ++ [(5, 7), (8, 4)]) s H locs g → lv_has ls 4 [(0, .ref (ad 42)), (2, .int x2), (3, .int x3)] → kb4 (x2, x3) = some r → W p l e (RM 2 0 0) s m args below meth c H locs 0 0 (MQ below (QI D cA ev hr ad A (KX ++ [(5, 7), (8, 4)]) r g) args s 0 0 A) (F0 m 4 ls [])) (C : CX p s m args meth c RX5 yX5_valueAlong cX5_valueAlong 4 (some .int) D cA) (hx : HW hr ad) {H : Heap} {locs : List Loc} {x2 : Int32} {x3 : Int32} (hw : WS D cA ev hr ad A (KX ++ [(5, 7), (8, 4)]) s H locs g) {ls : Array Slot} (hl : lv_has ls 4 [(0, .ref (ad 42)), (2, .int x2), (3, .int x3)]) (h : F_X5_valueAlong_4B g kb4 (x2, x3) = some r) : W p l e (RM 2 0 0) s m args below meth c H locs 0 0 (MQ below (QI D cA ev hr ad A (KX ++ [(5, 7), (8, 4)]) r g) args s 0 0 A) (F0 m 4 ls []) := by
  refine lv_iload_n C.1.1 C.1.2.1 dX5_valueAlong_4 rfl (lv_at hl 2 rfl) ?_
  refine lv_aload_n C.1.1 C.1.2.1 dX5_valueAlong_5 rfl (lv_at hl 0 rfl) ?_
  refine r_getI C hw kLW42 fX5_123 rfl dX5_valueAlong_6 ?_
  refine lv_icmp_ge (tgt := 42) C.1.1 C.1.2.1 dX5_valueAlong_9 (by decide) (fun hc => ?_) (fun hc => ?_)
  · replace h := ite_pos' h hc
    refine lv_iload_n C.1.1 C.1.2.1 dX5_valueAlong_42 rfl (lv_at hl 1 rfl) ?_
    cases h
    exact r_iret C hw (Or.inl rfl) dX5_valueAlong_43
  · replace h := ite_neg' h hc
    refine lv_iload_n C.1.1 C.1.2.1 dX5_valueAlong_12 rfl (lv_at hl 2 rfl) ?_
    refine lv_aload_n C.1.1 C.1.2.1 dX5_valueAlong_13 rfl (lv_at hl 0 rfl) ?_
    refine r_getR (v := .ref (ad 43)) C hw kLW42 fX5_23 rfl hx.2.2.2.2 dX5_valueAlong_14 ?_
    refine r_alen (ty := .int) (v := 4) C hw kLW43 (by decide) (by decide) dX5_valueAlong_17 ?_
    refine lv_icmp_ge (tgt := 42) C.1.1 C.1.2.1 dX5_valueAlong_18 (by decide) (fun hc => ?_) (fun hc => ?_)
    · replace h := ite_pos' h hc
      refine lv_iload_n C.1.1 C.1.2.1 dX5_valueAlong_42 rfl (lv_at hl 1 rfl) ?_
      cases h
      exact r_iret C hw (Or.inl rfl) dX5_valueAlong_43
    · replace h := ite_neg' h hc
      refine lv_aload_n C.1.1 C.1.2.1 dX5_valueAlong_21 rfl (lv_at hl 0 rfl) ?_
      refine r_getR (v := .ref (ad 6)) C hw kLW42 fX5_15 rfl hx.2.2.1 dX5_valueAlong_22 ?_
      refine lv_iload_n C.1.1 C.1.2.1 dX5_valueAlong_25 rfl (lv_at hl 1 rfl) ?_
      refine lv_aload_n C.1.1 C.1.2.1 dX5_valueAlong_26 rfl (lv_at hl 0 rfl) ?_
      refine r_getR (v := .ref (ad 43)) C hw kLW42 fX5_23 rfl hx.2.2.2.2 dX5_valueAlong_27 ?_
      refine lv_iload_n C.1.1 C.1.2.1 dX5_valueAlong_30 rfl (lv_at hl 2 rfl) ?_
      obtain ⟨hz, h⟩ := ck_some h
      refine r_iald C hw kLW43 (inB_in hz) dX5_valueAlong_31 ?_
      obtain ⟨r_1, hc, h⟩ := bnd_some h
      refine r_vI (dc := 1) (As := [.int x2, .int (gi g 43 x3.toNatClampNeg)]) (rest := []) C hw vX5_139 (kx6 _) (by decide) rfl (fun sz => c_X2_cell_s hx.1 hc sz) (by decide) rfl rfl hl.1 (Nat.le_of_ble_eq_true rfl) dX5_valueAlong_32 ⟨Nat.le_refl _, Nat.le_refl _⟩ (fun H locs hw => ?_)
      refine lv_istore_n (lv' := [(2, .int r_1), (0, .ref (ad 42)), (3, .int x3)]) C.1.1 C.1.2.1 dX5_valueAlong_35 rfl hl (by decide) rfl (fun ls hl => ?_)
      refine lt_gen (P := fun x => lv_has ls 4 [(2, .int x), (0, .ref (ad 42)), (3, .int x3)]) h hl (fun x2_2 h hl => ?_)
      refine lv_iinc (v := x3 + 1) (lv' := [(3, .int (x3 + 1)), (2, .int x2_2), (0, .ref (ad 42))]) C.1.1 C.1.2.1 dX5_valueAlong_36 hl (k := 2) rfl rfl (by decide) rfl (fun ls hl => ?_)
      refine lt_gen (P := fun x => lv_has ls 4 [(3, .int x), (2, .int x2_2), (0, .ref (ad 42))]) h hl (fun x3_3 h hl => ?_)
      refine lv_goto (tgt := 4) C.1.1 C.1.2.1 dX5_valueAlong_39 (by decide) ?_
      exact hk4 _ _ _ _ _ hw (lv_sub hl [2, 1, 0] rfl) h
set_option maxHeartbeats 4000000 in
set_option maxRecDepth 100000 in
theorem w_X5_valueAlong_4L {g : GM} {r : Int32} (C : CX p s m args meth c RX5 yX5_valueAlong cX5_valueAlong 4 (some .int) D cA) (hx : HW hr ad) : ∀ (n : Nat) (x2 : Int32) (x3 : Int32) (H : Heap) (locs : List Loc) (ls : Array Slot), WS D cA ev hr ad A (KX ++ [(5, 7), (8, 4)]) s H locs g → lv_has ls 4 [(0, .ref (ad 42)), (2, .int x2), (3, .int x3)] → fixN (F_X5_valueAlong_4B g) n (x2, x3) = some r → W p l e (RM 2 0 0) s m args below meth c H locs 0 0 (MQ below (QI D cA ev hr ad A (KX ++ [(5, 7), (8, 4)]) r g) args s 0 0 A) (F0 m 4 ls []) := by
  intro n
  induction n with
  | zero => intro x2 x3 H locs ls hw hl h; exact (fix_zero h).elim
  | succ n ih => intro x2 x3 H locs ls hw hl h; exact w_X5_valueAlong_4 (fixN (F_X5_valueAlong_4B g) n) ih C hx hw hl h
set_option maxHeartbeats 4000000 in
set_option maxRecDepth 100000 in
theorem w_X5_valueAlong_0 (C : CX p s m args meth c RX5 yX5_valueAlong cX5_valueAlong 4 (some .int) D cA) (hx : HW hr ad) {H : Heap} {locs : List Loc} {g : GM} (hw : WS D cA ev hr ad A (KX ++ [(5, 7), (8, 4)]) s H locs g) {a1 : Int32} {ls : Array Slot} (hl : lv_has ls 4 [(0, .ref (ad 42)), (1, .int a1)]) {r : Int32} (h : F_X5_valueAlong a1 g = some r) : W p l e (RM 2 0 0) s m args below meth c H locs 0 0 (MQ below (QI D cA ev hr ad A (KX ++ [(5, 7), (8, 4)]) r g) args s 0 0 A) (F0 m 0 ls []) := by
  refine lv_iload_n C.1.1 C.1.2.1 dX5_valueAlong_0 rfl (lv_at hl 1 rfl) ?_
  refine lv_istore_n (lv' := [(2, .int a1), (0, .ref (ad 42)), (1, .int a1)]) C.1.1 C.1.2.1 dX5_valueAlong_1 rfl hl (by decide) rfl (fun ls hl => ?_)
  refine lv_iconst (v := 0) C.1.1 C.1.2.1 dX5_valueAlong_2 (by decide) ?_
  refine lv_istore_n (lv' := [(3, .int 0), (2, .int a1), (0, .ref (ad 42)), (1, .int a1)]) C.1.1 C.1.2.1 dX5_valueAlong_3 rfl hl (by decide) rfl (fun ls hl => ?_)
  exact w_X5_valueAlong_4L C hx FU _ _ _ _ _ hw (lv_sub hl [2, 1, 0] rfl) h
set_option maxHeartbeats 4000000 in
set_option maxRecDepth 100000 in
theorem c_X5_valueAlong (hx : HW hr ad) {a1 : Int32} {g : GM} {r : Int32} (h : F_X5_valueAlong a1 g = some r) (sz : Nat) : Met l yX5_valueAlong (WSX yX5_valueAlong cX5_valueAlong 4 (some .int)) (RM 2 0 0) (va_Pc [.ref (ad 42), .int a1] (PX D cA ev hr ad (KX ++ [(5, 7), (8, 4)]) g sz)) (QI D cA ev hr ad (AX ad (KX ++ [(5, 7), (8, 4)]).length sz) (KX ++ [(5, 7), (8, 4)]) r g) 0 0 (AX ad (KX ++ [(5, 7), (8, 4)]).length sz) :=
  met_of (own := RX5) pnX5 rfl (Nat.le_of_ble_eq_true rfl) (fun p e s m below meth c ls C hw hsz hl => w_X5_valueAlong_0 C hx hw hl h)
set_option maxHeartbeats 4000000 in
set_option maxRecDepth 100000 in
theorem w_X5_compares_25 {g : GM} {r : Int32} (C : CX p s m args meth c RX5 yX5_compares cX5_compares 3 (some .boolean) D cA) (hx : HW hr ad) {H : Heap} {locs : List Loc} (hw : WS D cA ev hr ad A (KX ++ [(5, 7), (8, 4)]) s H locs g) {ls : Array Slot} (hl : lv_has ls 3 []) (h : F_X5_compares_25 = some r) : W p l e (RM 1 0 0) s m args below meth c H locs 0 0 (MQ below (QI D cA ev hr ad A (KX ++ [(5, 7), (8, 4)]) r g) args s 0 0 A) (F0 m 25 ls []) := by
  refine lv_iconst (v := 0) C.1.1 C.1.2.1 dX5_compares_25 (by decide) ?_
  cases h
  exact r_iret C hw (Or.inr ⟨rfl, Or.inl rfl⟩) dX5_compares_26
set_option maxHeartbeats 4000000 in
set_option maxRecDepth 100000 in
theorem w_X5_compares_10 {x0 : Int32} {x1 : Int32} {x2 : Int32} {g : GM} {r : Int32} (C : CX p s m args meth c RX5 yX5_compares cX5_compares 3 (some .boolean) D cA) (hx : HW hr ad) {H : Heap} {locs : List Loc} (hw : WS D cA ev hr ad A (KX ++ [(5, 7), (8, 4)]) s H locs g) {ls : Array Slot} (hl : lv_has ls 3 [(0, .int x0), (1, .int x1), (2, .int x2)]) (h : F_X5_compares_10 x0 x1 x2 = some r) : W p l e (RM 1 0 0) s m args below meth c H locs 0 0 (MQ below (QI D cA ev hr ad A (KX ++ [(5, 7), (8, 4)]) r g) args s 0 0 A) (F0 m 10 ls []) := by
  refine lv_iload_n C.1.1 C.1.2.1 dX5_compares_10 rfl (lv_at hl 1 rfl) ?_
  refine lv_bipush (v := 61) C.1.1 C.1.2.1 dX5_compares_11 (by decide) ?_
  refine lv_icmp_ne (tgt := 25) C.1.1 C.1.2.1 dX5_compares_13 (by decide) (fun hc => ?_) (fun hc => ?_)
  · replace h := ite_neg' h hc
    exact w_X5_compares_25 C hx hw (lv_sub hl [] rfl) h
  · replace h := ite_pos' h hc
    refine lv_iload_n C.1.1 C.1.2.1 dX5_compares_16 rfl (lv_at hl 0 rfl) ?_
    refine lv_iload_n C.1.1 C.1.2.1 dX5_compares_17 rfl (lv_at hl 2 rfl) ?_
    refine lv_icmp_ne (tgt := 25) C.1.1 C.1.2.1 dX5_compares_18 (by decide) (fun hc => ?_) (fun hc => ?_)
    · replace h := ite_neg' h hc
      exact w_X5_compares_25 C hx hw (lv_sub hl [] rfl) h
    · replace h := ite_pos' h hc
      refine lv_iconst (v := 1) C.1.1 C.1.2.1 dX5_compares_21 (by decide) ?_
      refine lv_goto (tgt := 26) C.1.1 C.1.2.1 dX5_compares_22 (by decide) ?_
      cases h
      exact r_iret C hw (Or.inr ⟨rfl, Or.inr rfl⟩) dX5_compares_26
set_option maxHeartbeats 4000000 in
set_option maxRecDepth 100000 in
theorem w_X5_compares_0 (C : CX p s m args meth c RX5 yX5_compares cX5_compares 3 (some .boolean) D cA) (hx : HW hr ad) {H : Heap} {locs : List Loc} {g : GM} (hw : WS D cA ev hr ad A (KX ++ [(5, 7), (8, 4)]) s H locs g) {a0 : Int32} {a1 : Int32} {a2 : Int32} {ls : Array Slot} (hl : lv_has ls 3 [(0, .int a0), (1, .int a1), (2, .int a2)]) {r : Int32} (h : F_X5_compares a0 a1 a2 = some r) : W p l e (RM 1 0 0) s m args below meth c H locs 0 0 (MQ below (QI D cA ev hr ad A (KX ++ [(5, 7), (8, 4)]) r g) args s 0 0 A) (F0 m 0 ls []) := by
  refine lv_iload_n C.1.1 C.1.2.1 dX5_compares_0 rfl (lv_at hl 0 rfl) ?_
  refine lv_iconst (v := (-1)) C.1.1 C.1.2.1 dX5_compares_1 (by decide) ?_
  refine lv_icmp_eq (tgt := 10) C.1.1 C.1.2.1 dX5_compares_2 (by decide) (fun hc => ?_) (fun hc => ?_)
  · replace h := ite_pos' h hc
    exact w_X5_compares_10 C hx hw hl h
  · replace h := ite_neg' h hc
    refine lv_iload_n C.1.1 C.1.2.1 dX5_compares_5 rfl (lv_at hl 2 rfl) ?_
    refine lv_iconst (v := (-1)) C.1.1 C.1.2.1 dX5_compares_6 (by decide) ?_
    refine lv_icmp_ne (tgt := 27) C.1.1 C.1.2.1 dX5_compares_7 (by decide) (fun hc => ?_) (fun hc => ?_)
    · replace h := ite_neg' h hc
      refine lv_iload_n C.1.1 C.1.2.1 dX5_compares_27 rfl (lv_at hl 1 rfl) ?_
      refine lv_bipush (v := 61) C.1.1 C.1.2.1 dX5_compares_28 (by decide) ?_
      refine lv_icmp_ne (tgt := 44) C.1.1 C.1.2.1 dX5_compares_30 (by decide) (fun hc => ?_) (fun hc => ?_)
      · replace h := ite_neg' h hc
        refine lv_iload_n C.1.1 C.1.2.1 dX5_compares_44 rfl (lv_at hl 1 rfl) ?_
        refine lv_bipush (v := 60) C.1.1 C.1.2.1 dX5_compares_45 (by decide) ?_
        refine lv_icmp_ne (tgt := 63) C.1.1 C.1.2.1 dX5_compares_47 (by decide) (fun hc => ?_) (fun hc => ?_)
        · replace h := ite_neg' h hc
          refine lv_iload_n C.1.1 C.1.2.1 dX5_compares_63 rfl (lv_at hl 0 rfl) ?_
          refine lv_iload_n C.1.1 C.1.2.1 dX5_compares_64 rfl (lv_at hl 2 rfl) ?_
          refine lv_icmp_le (tgt := 72) C.1.1 C.1.2.1 dX5_compares_65 (by decide) (fun hc => ?_) (fun hc => ?_)
          · replace h := ite_pos' h hc
            refine lv_iconst (v := 0) C.1.1 C.1.2.1 dX5_compares_72 (by decide) ?_
            cases h
            exact r_iret C hw (Or.inr ⟨rfl, Or.inl rfl⟩) dX5_compares_73
          · replace h := ite_neg' h hc
            refine lv_iconst (v := 1) C.1.1 C.1.2.1 dX5_compares_68 (by decide) ?_
            refine lv_goto (tgt := 73) C.1.1 C.1.2.1 dX5_compares_69 (by decide) ?_
            cases h
            exact r_iret C hw (Or.inr ⟨rfl, Or.inr rfl⟩) dX5_compares_73
        · replace h := ite_pos' h hc
          refine lv_iload_n C.1.1 C.1.2.1 dX5_compares_50 rfl (lv_at hl 0 rfl) ?_
          refine lv_iload_n C.1.1 C.1.2.1 dX5_compares_51 rfl (lv_at hl 2 rfl) ?_
          refine lv_icmp_ge (tgt := 59) C.1.1 C.1.2.1 dX5_compares_52 (by decide) (fun hc => ?_) (fun hc => ?_)
          · replace h := ite_pos' h hc
            refine lv_iconst (v := 0) C.1.1 C.1.2.1 dX5_compares_59 (by decide) ?_
            refine lv_goto (tgt := 73) C.1.1 C.1.2.1 dX5_compares_60 (by decide) ?_
            cases h
            exact r_iret C hw (Or.inr ⟨rfl, Or.inl rfl⟩) dX5_compares_73
          · replace h := ite_neg' h hc
            refine lv_iconst (v := 1) C.1.1 C.1.2.1 dX5_compares_55 (by decide) ?_
            refine lv_goto (tgt := 73) C.1.1 C.1.2.1 dX5_compares_56 (by decide) ?_
            cases h
            exact r_iret C hw (Or.inr ⟨rfl, Or.inr rfl⟩) dX5_compares_73
      · replace h := ite_pos' h hc
        refine lv_iload_n C.1.1 C.1.2.1 dX5_compares_33 rfl (lv_at hl 0 rfl) ?_
        refine lv_iload_n C.1.1 C.1.2.1 dX5_compares_34 rfl (lv_at hl 2 rfl) ?_
        refine lv_icmp_ne (tgt := 42) C.1.1 C.1.2.1 dX5_compares_35 (by decide) (fun hc => ?_) (fun hc => ?_)
        · replace h := ite_neg' h hc
          refine lv_iconst (v := 0) C.1.1 C.1.2.1 dX5_compares_42 (by decide) ?_
          cases h
          exact r_iret C hw (Or.inr ⟨rfl, Or.inl rfl⟩) dX5_compares_43
        · replace h := ite_pos' h hc
          refine lv_iconst (v := 1) C.1.1 C.1.2.1 dX5_compares_38 (by decide) ?_
          refine lv_goto (tgt := 43) C.1.1 C.1.2.1 dX5_compares_39 (by decide) ?_
          cases h
          exact r_iret C hw (Or.inr ⟨rfl, Or.inr rfl⟩) dX5_compares_43
    · replace h := ite_pos' h hc
      exact w_X5_compares_10 C hx hw hl h
set_option maxHeartbeats 4000000 in
set_option maxRecDepth 100000 in
theorem c_X5_compares (hx : HW hr ad) {a0 : Int32} {a1 : Int32} {a2 : Int32} {g : GM} {r : Int32} (h : F_X5_compares a0 a1 a2 = some r) (sz : Nat) : Met l yX5_compares (WSX yX5_compares cX5_compares 3 (some .boolean)) (RM 1 0 0) (va_Pc [.int a0, .int a1, .int a2] (PX D cA ev hr ad (KX ++ [(5, 7), (8, 4)]) g sz)) (QI D cA ev hr ad (AX ad (KX ++ [(5, 7), (8, 4)]).length sz) (KX ++ [(5, 7), (8, 4)]) r g) 0 0 (AX ad (KX ++ [(5, 7), (8, 4)]).length sz) :=
  met_of (own := RX5) pnX5 rfl (Nat.le_of_ble_eq_true rfl) (fun p e s m below meth c ls C hw hsz hl => w_X5_compares_0 C hx hw hl h)
set_option maxHeartbeats 4000000 in
set_option maxRecDepth 100000 in
theorem w_X5_readComparison_169 {x1 : Int32} {x2 : Int32} {x3 : Int32} {x4 : Int32} {g : GM} {r : Int32} {gz : GM} (kb119 : Int32 × Int32 → Option (Int32 × GM)) (hk119 : ∀ (x3 : Int32) (x4 : Int32) (H : Heap) (locs : List Loc) (ls : Array Slot), WS D cA ev hr ad A (KX ++ [(5, 7), (8, 4)]) s H locs g → lv_has ls 5 [(0, .ref (ad 42)), (1, .int x1), (2, .int x2), (3, .int x3), (4, .int x4)] → kb119 (x3, x4) = some (r, gz) → W p l e (RM 9 0 0) s m args below meth c H locs 0 0 (MQ below (QI D cA ev hr ad A (KX ++ [(5, 7), (8, 4)]) r gz) args s 0 0 A) (F0 m 119 ls [])) (C : CX p s m args meth c RX5 yX5_readComparison cX5_readComparison 5 (some .int) D cA) (hx : HW hr ad) {H : Heap} {locs : List Loc} (hw : WS D cA ev hr ad A (KX ++ [(5, 7), (8, 4)]) s H locs g) {ls : Array Slot} (hl : lv_has ls 5 [(0, .ref (ad 42)), (1, .int x1), (2, .int x2), (3, .int x3), (4, .int x4)]) (h : F_X5_readComparison_169 kb119 x1 x2 x3 x4 g = some (r, gz)) : W p l e (RM 9 0 0) s m args below meth c H locs 0 0 (MQ below (QI D cA ev hr ad A (KX ++ [(5, 7), (8, 4)]) r gz) args s 0 0 A) (F0 m 169 ls []) := by
  refine lv_iinc (v := x4 + 1) (lv' := [(4, .int (x4 + 1)), (0, .ref (ad 42)), (1, .int x1), (2, .int x2), (3, .int x3)]) C.1.1 C.1.2.1 dX5_readComparison_169 hl (k := 4) rfl rfl (by decide) rfl (fun ls hl => ?_)
  refine lt_gen (P := fun x => lv_has ls 5 [(4, .int x), (0, .ref (ad 42)), (1, .int x1), (2, .int x2), (3, .int x3)]) h hl (fun x4_1 h hl => ?_)
  refine lv_goto (tgt := 119) C.1.1 C.1.2.1 dX5_readComparison_172 (by decide) ?_
  exact hk119 _ _ _ _ _ hw (lv_sub hl [1, 2, 3, 4, 0] rfl) h
set_option maxHeartbeats 4000000 in
set_option maxRecDepth 100000 in
theorem w_X5_readComparison_119 {x1 : Int32} {x2 : Int32} {g : GM} {r : Int32} {gz : GM} (kb119 : Int32 × Int32 → Option (Int32 × GM)) (hk119 : ∀ (x3 : Int32) (x4 : Int32) (H : Heap) (locs : List Loc) (ls : Array Slot), WS D cA ev hr ad A (KX ++ [(5, 7), (8, 4)]) s H locs g → lv_has ls 5 [(0, .ref (ad 42)), (1, .int x1), (2, .int x2), (3, .int x3), (4, .int x4)] → kb119 (x3, x4) = some (r, gz) → W p l e (RM 9 0 0) s m args below meth c H locs 0 0 (MQ below (QI D cA ev hr ad A (KX ++ [(5, 7), (8, 4)]) r gz) args s 0 0 A) (F0 m 119 ls [])) (C : CX p s m args meth c RX5 yX5_readComparison cX5_readComparison 5 (some .int) D cA) (hx : HW hr ad) {H : Heap} {locs : List Loc} {x3 : Int32} {x4 : Int32} (hw : WS D cA ev hr ad A (KX ++ [(5, 7), (8, 4)]) s H locs g) {ls : Array Slot} (hl : lv_has ls 5 [(0, .ref (ad 42)), (1, .int x1), (2, .int x2), (3, .int x3), (4, .int x4)]) (h : F_X5_readComparison_119B x1 x2 g kb119 (x3, x4) = some (r, gz)) : W p l e (RM 9 0 0) s m args below meth c H locs 0 0 (MQ below (QI D cA ev hr ad A (KX ++ [(5, 7), (8, 4)]) r gz) args s 0 0 A) (F0 m 119 ls []) := by
  refine lv_iload C.1.1 C.1.2.1 dX5_readComparison_119 (lv_at hl 4 rfl) ?_
  refine lv_aload_n C.1.1 C.1.2.1 dX5_readComparison_121 rfl (lv_at hl 0 rfl) ?_
  refine r_getR (v := .ref (ad 6)) C hw kLW42 fX5_15 rfl hx.2.2.1 dX5_readComparison_122 ?_
  refine r_getI C hw (kx6 _) fX5_126 rfl dX5_readComparison_125 ?_
  refine lv_icmp_ge (tgt := 175) C.1.1 C.1.2.1 dX5_readComparison_128 (by decide) (fun hc => ?_) (fun hc => ?_)
  · replace h := ite_pos' h hc
    refine lv_iload_n C.1.1 C.1.2.1 dX5_readComparison_175 rfl (lv_at hl 3 rfl) ?_
    cases h
    exact r_iret C hw (Or.inl rfl) dX5_readComparison_176
  · replace h := ite_neg' h hc
    refine lv_aload_n C.1.1 C.1.2.1 dX5_readComparison_131 rfl (lv_at hl 0 rfl) ?_
    refine r_getR (v := .ref (ad 6)) C hw kLW42 fX5_15 rfl hx.2.2.1 dX5_readComparison_132 ?_
    refine r_getR (v := .ref (ad 12)) C hw (kx6 _) fX5_129 rfl (hx6_7 hx.1) dX5_readComparison_135 ?_
    refine lv_iload C.1.1 C.1.2.1 dX5_readComparison_138 (lv_at hl 4 rfl) ?_
    obtain ⟨hz, h⟩ := ck_some h
    refine r_iald C hw (kx12 _) (inB_in hz) dX5_readComparison_140 ?_
    refine lv_aload_n C.1.1 C.1.2.1 dX5_readComparison_141 rfl (lv_at hl 0 rfl) ?_
    refine r_getI C hw kLW42 fX5_65 rfl dX5_readComparison_142 ?_
    refine lv_icmp_ne (tgt := 169) C.1.1 C.1.2.1 dX5_readComparison_145 (by decide) (fun hc => ?_) (fun hc => ?_)
    · replace h := ite_neg' h hc
      exact w_X5_readComparison_169 kb119 hk119 C hx hw hl h
    · replace h := ite_pos' h hc
      refine lv_aload_n C.1.1 C.1.2.1 dX5_readComparison_148 rfl (lv_at hl 0 rfl) ?_
      refine lv_iload C.1.1 C.1.2.1 dX5_readComparison_149 (lv_at hl 4 rfl) ?_
      obtain ⟨r_2, hc, h⟩ := bnd_some h
      refine r_vI (dc := 2) (As := [.int x4]) (rest := []) C hw vX5_132 kLW42 (by decide) rfl (fun sz => c_X5_valueAlong hx hc sz) (by decide) rfl rfl hl.1 (Nat.le_of_ble_eq_true rfl) dX5_readComparison_151 ⟨Nat.le_refl _, Nat.le_refl _⟩ (fun H locs hw => ?_)
      refine lv_iload_n C.1.1 C.1.2.1 dX5_readComparison_154 rfl (lv_at hl 1 rfl) ?_
      refine lv_iload_n C.1.1 C.1.2.1 dX5_readComparison_155 rfl (lv_at hl 2 rfl) ?_
      obtain ⟨r_3, hc, h⟩ := bnd_some h
      refine r_sI (dc := 1) (As := [.int r_2, .int x1, .int x2]) (rest := []) C hw sX5_135 (fun sz => c_X5_compares hx hc sz) (by decide) rfl rfl hl.1 (Nat.le_of_ble_eq_true rfl) dX5_readComparison_156 ⟨Nat.le_refl _, Nat.le_refl _⟩ (fun H locs hw => ?_)
      refine lv_if_eq (tgt := 169) C.1.1 C.1.2.1 dX5_readComparison_159 (by decide) (fun hc => ?_) (fun hc => ?_)
      · replace h := ite_pos' h hc
        exact w_X5_readComparison_169 kb119 hk119 C hx hw hl h
      · replace h := ite_neg' h hc
        refine lv_iload_n C.1.1 C.1.2.1 dX5_readComparison_162 rfl (lv_at hl 3 rfl) ?_
        refine lv_iconst (v := 1) C.1.1 C.1.2.1 dX5_readComparison_163 (by decide) ?_
        refine lv_iload C.1.1 C.1.2.1 dX5_readComparison_164 (lv_at hl 4 rfl) ?_
        refine lv_ishl C.1.1 C.1.2.1 dX5_readComparison_166 ?_
        refine lv_ior C.1.1 C.1.2.1 dX5_readComparison_167 ?_
        refine lv_istore_n (lv' := [(3, .int (x3 ||| (1 <<< (x4 &&& 31)))), (0, .ref (ad 42)), (1, .int x1), (2, .int x2), (4, .int x4)]) C.1.1 C.1.2.1 dX5_readComparison_168 rfl hl (by decide) rfl (fun ls hl => ?_)
        refine lt_gen (P := fun x => lv_has ls 5 [(3, .int x), (0, .ref (ad 42)), (1, .int x1), (2, .int x2), (4, .int x4)]) h hl (fun x3_4 h hl => ?_)
        exact w_X5_readComparison_169 kb119 hk119 C hx hw (lv_sub hl [1, 2, 3, 0, 4] rfl) h
set_option maxHeartbeats 4000000 in
set_option maxRecDepth 100000 in
theorem w_X5_readComparison_119L {x1 : Int32} {x2 : Int32} {g : GM} {r : Int32} {gz : GM} (C : CX p s m args meth c RX5 yX5_readComparison cX5_readComparison 5 (some .int) D cA) (hx : HW hr ad) : ∀ (n : Nat) (x3 : Int32) (x4 : Int32) (H : Heap) (locs : List Loc) (ls : Array Slot), WS D cA ev hr ad A (KX ++ [(5, 7), (8, 4)]) s H locs g → lv_has ls 5 [(0, .ref (ad 42)), (1, .int x1), (2, .int x2), (3, .int x3), (4, .int x4)] → fixN (F_X5_readComparison_119B x1 x2 g) n (x3, x4) = some (r, gz) → W p l e (RM 9 0 0) s m args below meth c H locs 0 0 (MQ below (QI D cA ev hr ad A (KX ++ [(5, 7), (8, 4)]) r gz) args s 0 0 A) (F0 m 119 ls []) := by
  intro n
  induction n with
  | zero => intro x3 x4 H locs ls hw hl h; exact (fix_zero h).elim
  | succ n ih => intro x3 x4 H locs ls hw hl h; exact w_X5_readComparison_119 (fixN (F_X5_readComparison_119B x1 x2 g) n) ih C hx hw hl h
set_option maxHeartbeats 4000000 in
set_option maxRecDepth 100000 in
theorem w_X5_readComparison_107 {x1 : Int32} {x2 : Int32} {g : GM} {r : Int32} {gz : GM} (C : CX p s m args meth c RX5 yX5_readComparison cX5_readComparison 5 (some .int) D cA) (hx : HW hr ad) {H : Heap} {locs : List Loc} (hw : WS D cA ev hr ad A (KX ++ [(5, 7), (8, 4)]) s H locs g) {ls : Array Slot} (hl : lv_has ls 5 [(0, .ref (ad 42)), (1, .int x1), (2, .int x2)]) (h : F_X5_readComparison_107 x1 x2 g = some (r, gz)) : W p l e (RM 9 0 0) s m args below meth c H locs 0 0 (MQ below (QI D cA ev hr ad A (KX ++ [(5, 7), (8, 4)]) r gz) args s 0 0 A) (F0 m 107 ls []) := by
  refine lv_aload_n C.1.1 C.1.2.1 dX5_readComparison_107 rfl (lv_at hl 0 rfl) ?_
  refine r_getR (v := .ref (ad 1)) C hw kLW42 fX5_9 rfl hx.2.1 dX5_readComparison_108 ?_
  obtain ⟨g_5, hc, h⟩ := bnd_some h
  refine r_vV (dc := 8) (As := []) (rest := []) C hw vX5_54 (kx1 _) (by decide) rfl (fun sz => c_X4_advance hx.1 hc sz) (by decide) rfl rfl hl.1 (Nat.le_of_ble_eq_true rfl) dX5_readComparison_111 ⟨Nat.le_refl _, Nat.le_refl _⟩ (fun H locs hw => ?_)
  refine lv_iconst (v := 0) C.1.1 C.1.2.1 dX5_readComparison_114 (by decide) ?_
  refine lv_istore_n (lv' := [(3, .int 0), (0, .ref (ad 42)), (1, .int x1), (2, .int x2)]) C.1.1 C.1.2.1 dX5_readComparison_115 rfl hl (by decide) rfl (fun ls hl => ?_)
  refine lv_iconst (v := 0) C.1.1 C.1.2.1 dX5_readComparison_116 (by decide) ?_
  refine lv_istore (lv' := [(4, .int 0), (3, .int 0), (0, .ref (ad 42)), (1, .int x1), (2, .int x2)]) C.1.1 C.1.2.1 dX5_readComparison_117 hl (by decide) rfl (fun ls hl => ?_)
  exact w_X5_readComparison_119L C hx FU _ _ _ _ _ hw (lv_sub hl [2, 3, 4, 1, 0] rfl) h
set_option maxHeartbeats 4000000 in
set_option maxRecDepth 100000 in
theorem w_X5_readComparison_74 {x1 : Int32} {s0 : Int32} {g : GM} {r : Int32} {gz : GM} (C : CX p s m args meth c RX5 yX5_readComparison cX5_readComparison 5 (some .int) D cA) (hx : HW hr ad) {H : Heap} {locs : List Loc} (hw : WS D cA ev hr ad A (KX ++ [(5, 7), (8, 4)]) s H locs g) {ls : Array Slot} (hl : lv_has ls 5 [(0, .ref (ad 42)), (1, .int x1)]) (h : F_X5_readComparison_74 x1 s0 g = some (r, gz)) : W p l e (RM 9 0 0) s m args below meth c H locs 0 0 (MQ below (QI D cA ev hr ad A (KX ++ [(5, 7), (8, 4)]) r gz) args s 0 0 A) (F0 m 74 ls [.int s0]) := by
  refine lv_istore_n (lv' := [(2, .int s0), (0, .ref (ad 42)), (1, .int x1)]) C.1.1 C.1.2.1 dX5_readComparison_74 rfl hl (by decide) rfl (fun ls hl => ?_)
  refine lv_aload_n C.1.1 C.1.2.1 dX5_readComparison_75 rfl (lv_at hl 1 rfl) ?_
  refine r_getR (v := .ref (ad 1)) C hw kLW42 fX5_9 rfl hx.2.1 dX5_readComparison_76 ?_
  refine r_getI C hw (kx1 _) fX5_42 rfl dX5_readComparison_79 ?_
  refine lv_iconst (v := 3) C.1.1 C.1.2.1 dX5_readComparison_82 (by decide) ?_
  refine lv_icmp_eq (tgt := 107) C.1.1 C.1.2.1 dX5_readComparison_83 (by decide) (fun hc => ?_) (fun hc => ?_)
  · replace h := ite_pos' h hc
    exact w_X5_readComparison_107 C hx hw (lv_sub hl [1, 2, 0] rfl) h
  · replace h := ite_neg' h hc
    refine lv_aload_n C.1.1 C.1.2.1 dX5_readComparison_86 rfl (lv_at hl 1 rfl) ?_
    refine r_getR (v := .ref (ad 1)) C hw kLW42 fX5_9 rfl hx.2.1 dX5_readComparison_87 ?_
    refine r_getI C hw (kx1 _) fX5_42 rfl dX5_readComparison_90 ?_
    refine lv_bipush (v := 45) C.1.1 C.1.2.1 dX5_readComparison_93 (by decide) ?_
    refine lv_icmp_eq (tgt := 107) C.1.1 C.1.2.1 dX5_readComparison_95 (by decide) (fun hc => ?_) (fun hc => ?_)
    · replace h := ite_pos' h hc
      exact w_X5_readComparison_107 C hx hw (lv_sub hl [1, 2, 0] rfl) h
    · replace h := ite_neg' h hc
      refine lv_aload_n C.1.1 C.1.2.1 dX5_readComparison_98 rfl (lv_at hl 1 rfl) ?_
      refine r_getR (v := .ref (ad 1)) C hw kLW42 fX5_9 rfl hx.2.1 dX5_readComparison_99 ?_
      obtain ⟨g_6, hc, h⟩ := bnd_some h
      refine r_vV (dc := 2) (As := []) (rest := []) C hw vX5_51 (kx1 _) (by decide) rfl (fun sz => c_X4_refuseToken hx.1 hc sz) (by decide) rfl rfl hl.1 (Nat.le_of_ble_eq_true rfl) dX5_readComparison_102 ⟨Nat.le_refl _, Nat.le_refl _⟩ (fun H locs hw => ?_)
      refine lv_iconst (v := 0) C.1.1 C.1.2.1 dX5_readComparison_105 (by decide) ?_
      cases h
      exact r_iret C hw (Or.inl rfl) dX5_readComparison_106
set_option maxHeartbeats 4000000 in
set_option maxRecDepth 100000 in
theorem w_X5_readComparison_33 {x1 : Int32} {g : GM} {r : Int32} {gz : GM} (C : CX p s m args meth c RX5 yX5_readComparison cX5_readComparison 5 (some .int) D cA) (hx : HW hr ad) {H : Heap} {locs : List Loc} (hw : WS D cA ev hr ad A (KX ++ [(5, 7), (8, 4)]) s H locs g) {ls : Array Slot} (hl : lv_has ls 5 [(0, .ref (ad 42)), (1, .int x1)]) (h : F_X5_readComparison_33 x1 g = some (r, gz)) : W p l e (RM 9 0 0) s m args below meth c H locs 0 0 (MQ below (QI D cA ev hr ad A (KX ++ [(5, 7), (8, 4)]) r gz) args s 0 0 A) (F0 m 33 ls []) := by
  refine lv_aload_n C.1.1 C.1.2.1 dX5_readComparison_33 rfl (lv_at hl 0 rfl) ?_
  refine r_getR (v := .ref (ad 1)) C hw kLW42 fX5_9 rfl hx.2.1 dX5_readComparison_34 ?_
  refine r_getI C hw (kx1 _) fX5_38 rfl dX5_readComparison_37 ?_
  refine lv_if_eq (tgt := 45) C.1.1 C.1.2.1 dX5_readComparison_40 (by decide) (fun hc => ?_) (fun hc => ?_)
  · replace h := ite_pos' h hc
    refine lv_aload_n C.1.1 C.1.2.1 dX5_readComparison_45 rfl (lv_at hl 0 rfl) ?_
    refine r_getR (v := .ref (ad 1)) C hw kLW42 fX5_9 rfl hx.2.1 dX5_readComparison_46 ?_
    obtain ⟨g_7, hc, h⟩ := bnd_some h
    refine r_vV (dc := 8) (As := []) (rest := []) C hw vX5_54 (kx1 _) (by decide) rfl (fun sz => c_X4_advance hx.1 hc sz) (by decide) rfl rfl hl.1 (Nat.le_of_ble_eq_true rfl) dX5_readComparison_49 ⟨Nat.le_refl _, Nat.le_refl _⟩ (fun H locs hw => ?_)
    refine lv_aload_n C.1.1 C.1.2.1 dX5_readComparison_52 rfl (lv_at hl 0 rfl) ?_
    refine r_getR (v := .ref (ad 1)) C hw kLW42 fX5_9 rfl hx.2.1 dX5_readComparison_53 ?_
    refine r_getI C hw (kx1 _) fX5_42 rfl dX5_readComparison_56 ?_
    refine lv_iconst (v := 3) C.1.1 C.1.2.1 dX5_readComparison_59 (by decide) ?_
    refine lv_icmp_ne (tgt := 73) C.1.1 C.1.2.1 dX5_readComparison_60 (by decide) (fun hc => ?_) (fun hc => ?_)
    · replace h := ite_neg' h hc
      refine lv_iconst (v := (-1)) C.1.1 C.1.2.1 dX5_readComparison_73 (by decide) ?_
      exact w_X5_readComparison_74 C hx hw hl h
    · replace h := ite_pos' h hc
      refine lv_aload_n C.1.1 C.1.2.1 dX5_readComparison_63 rfl (lv_at hl 0 rfl) ?_
      refine r_getR (v := .ref (ad 1)) C hw kLW42 fX5_9 rfl hx.2.1 dX5_readComparison_64 ?_
      refine r_getI C hw (kx1 _) fX5_108 rfl dX5_readComparison_67 ?_
      refine lv_goto (tgt := 74) C.1.1 C.1.2.1 dX5_readComparison_70 (by decide) ?_
      exact w_X5_readComparison_74 C hx hw hl h
  · replace h := ite_neg' h hc
    refine lv_iconst (v := 0) C.1.1 C.1.2.1 dX5_readComparison_43 (by decide) ?_
    cases h
    exact r_iret C hw (Or.inl rfl) dX5_readComparison_44
set_option maxHeartbeats 4000000 in
set_option maxRecDepth 100000 in
theorem w_X5_readComparison_0 (C : CX p s m args meth c RX5 yX5_readComparison cX5_readComparison 5 (some .int) D cA) (hx : HW hr ad) {H : Heap} {locs : List Loc} {g : GM} (hw : WS D cA ev hr ad A (KX ++ [(5, 7), (8, 4)]) s H locs g) {ls : Array Slot} (hl : lv_has ls 5 [(0, .ref (ad 42))]) {r : Int32} {gz : GM} (h : F_X5_readComparison g = some (r, gz)) : W p l e (RM 9 0 0) s m args below meth c H locs 0 0 (MQ below (QI D cA ev hr ad A (KX ++ [(5, 7), (8, 4)]) r gz) args s 0 0 A) (F0 m 0 ls []) := by
  refine lv_aload_n C.1.1 C.1.2.1 dX5_readComparison_0 rfl (lv_at hl 0 rfl) ?_
  refine r_getR (v := .ref (ad 1)) C hw kLW42 fX5_9 rfl hx.2.1 dX5_readComparison_1 ?_
  refine r_getI C hw (kx1 _) fX5_42 rfl dX5_readComparison_4 ?_
  refine lv_istore_n (lv' := [(1, .int (gi g 1 5)), (0, .ref (ad 42))]) C.1.1 C.1.2.1 dX5_readComparison_7 rfl hl (by decide) rfl (fun ls hl => ?_)
  refine lt_gen (P := fun x => lv_has ls 5 [(1, .int x), (0, .ref (ad 42))]) h hl (fun x1_8 h hl => ?_)
  refine lv_iload_n C.1.1 C.1.2.1 dX5_readComparison_8 rfl (lv_at hl 0 rfl) ?_
  refine lv_bipush (v := 60) C.1.1 C.1.2.1 dX5_readComparison_9 (by decide) ?_
  refine lv_icmp_eq (tgt := 33) C.1.1 C.1.2.1 dX5_readComparison_11 (by decide) (fun hc => ?_) (fun hc => ?_)
  · replace h := ite_pos' h hc
    exact w_X5_readComparison_33 C hx hw (lv_sub hl [1, 0] rfl) h
  · replace h := ite_neg' h hc
    refine lv_iload_n C.1.1 C.1.2.1 dX5_readComparison_14 rfl (lv_at hl 0 rfl) ?_
    refine lv_bipush (v := 62) C.1.1 C.1.2.1 dX5_readComparison_15 (by decide) ?_
    refine lv_icmp_eq (tgt := 33) C.1.1 C.1.2.1 dX5_readComparison_17 (by decide) (fun hc => ?_) (fun hc => ?_)
    · replace h := ite_pos' h hc
      exact w_X5_readComparison_33 C hx hw (lv_sub hl [1, 0] rfl) h
    · replace h := ite_neg' h hc
      refine lv_iload_n C.1.1 C.1.2.1 dX5_readComparison_20 rfl (lv_at hl 0 rfl) ?_
      refine lv_bipush (v := 61) C.1.1 C.1.2.1 dX5_readComparison_21 (by decide) ?_
      refine lv_icmp_eq (tgt := 33) C.1.1 C.1.2.1 dX5_readComparison_23 (by decide) (fun hc => ?_) (fun hc => ?_)
      · replace h := ite_pos' h hc
        exact w_X5_readComparison_33 C hx hw (lv_sub hl [1, 0] rfl) h
      · replace h := ite_neg' h hc
        refine lv_aload_n C.1.1 C.1.2.1 dX5_readComparison_26 rfl (lv_at hl 1 rfl) ?_
        refine r_getR (v := .ref (ad 1)) C hw kLW42 fX5_9 rfl hx.2.1 dX5_readComparison_27 ?_
        obtain ⟨g_9, hc, h⟩ := bnd_some h
        refine r_vV (dc := 2) (As := []) (rest := []) C hw vX5_51 (kx1 _) (by decide) rfl (fun sz => c_X4_refuseToken hx.1 hc sz) (by decide) rfl rfl hl.1 (Nat.le_of_ble_eq_true rfl) dX5_readComparison_30 ⟨Nat.le_refl _, Nat.le_refl _⟩ (fun H locs hw => ?_)
        exact w_X5_readComparison_33 C hx hw (lv_sub hl [1, 0] rfl) h
set_option maxHeartbeats 4000000 in
set_option maxRecDepth 100000 in
theorem c_X5_readComparison (hx : HW hr ad) {g : GM} {r : Int32} {gz : GM} (h : F_X5_readComparison g = some (r, gz)) (sz : Nat) : Met l yX5_readComparison (WSX yX5_readComparison cX5_readComparison 5 (some .int)) (RM 9 0 0) (va_Pc [.ref (ad 42)] (PX D cA ev hr ad (KX ++ [(5, 7), (8, 4)]) g sz)) (QI D cA ev hr ad (AX ad (KX ++ [(5, 7), (8, 4)]).length sz) (KX ++ [(5, 7), (8, 4)]) r gz) 0 0 (AX ad (KX ++ [(5, 7), (8, 4)]).length sz) :=
  met_of (own := RX5) pnX5 rfl (Nat.le_of_ble_eq_true rfl) (fun p e s m below meth c ls C hw hsz hl => w_X5_readComparison_0 C hx hw hl h)
set_option maxHeartbeats 4000000 in
set_option maxRecDepth 100000 in
theorem w_X2_tableNamed_s_2 {x1 : Int64} {g : GM} {r : Int32} (kb2 : Int32 → Option (Int32)) (hk2 : ∀ (x3 : Int32) (H : Heap) (locs : List Loc) (ls : Array Slot), WS D cA ev hr ad A (KX ++ tl) s H locs g → lv_has ls 4 [(0, .ref (ad 6)), (1, .long x1), (3, .int x3)] → kb2 x3 = some r → W p l e (RM 1 0 0) s m args below meth c H locs 0 0 (MQ below (QI D cA ev hr ad A (KX ++ tl) r g) args s 0 0 A) (F0 m 2 ls [])) (C : CX p s m args meth c RX2 yX2_tableNamed cX2_tableNamed 4 (some .int) D cA) (hx : HX hr ad) {H : Heap} {locs : List Loc} {x3 : Int32} (hw : WS D cA ev hr ad A (KX ++ tl) s H locs g) {ls : Array Slot} (hl : lv_has ls 4 [(0, .ref (ad 6)), (1, .long x1), (3, .int x3)]) (h : F_X2_tableNamed_s_2B x1 g kb2 x3 = some r) : W p l e (RM 1 0 0) s m args below meth c H locs 0 0 (MQ below (QI D cA ev hr ad A (KX ++ tl) r g) args s 0 0 A) (F0 m 2 ls []) := by
  refine lv_iload_n C.1.1 C.1.2.1 dX2_tableNamed_2 rfl (lv_at hl 2 rfl) ?_
  refine lv_aload_n C.1.1 C.1.2.1 dX2_tableNamed_3 rfl (lv_at hl 0 rfl) ?_
  refine r_getI C hw (kx6 _) fX2_43 rfl dX2_tableNamed_4 ?_
  refine lv_icmp_ge (tgt := 29) C.1.1 C.1.2.1 dX2_tableNamed_7 (by decide) (fun hc => ?_) (fun hc => ?_)
  · replace h := ite_pos' h hc
    refine lv_iconst (v := (-1)) C.1.1 C.1.2.1 dX2_tableNamed_29 (by decide) ?_
    cases h
    exact r_iret C hw (Or.inl rfl) dX2_tableNamed_30
  · replace h := ite_neg' h hc
    refine lv_aload_n C.1.1 C.1.2.1 dX2_tableNamed_10 rfl (lv_at hl 0 rfl) ?_
    refine r_getR (v := .ref (ad 7)) C hw (kx6 _) fX2_9 rfl (hx6_1 hx) dX2_tableNamed_11 ?_
    refine lv_iload_n C.1.1 C.1.2.1 dX2_tableNamed_14 rfl (lv_at hl 2 rfl) ?_
    obtain ⟨hz, h⟩ := ck_some h
    refine r_lald C hw (kx7 _) (inB_in hz) dX2_tableNamed_15 ?_
    refine lv_lload_n C.1.1 C.1.2.1 dX2_tableNamed_16 rfl (lv_at hl 1 rfl) ?_
    refine W.lcmp C.1.1 C.1.2.1 dX2_tableNamed_17 ?_
    refine lv_if_ne (tgt := 23) C.1.1 C.1.2.1 dX2_tableNamed_18 (by decide) (fun hc => ?_) (fun hc => ?_)
    · replace h := ite_neg' h hc
      refine lv_iinc (v := x3 + 1) (lv' := [(3, .int (x3 + 1)), (0, .ref (ad 6)), (1, .long x1)]) C.1.1 C.1.2.1 dX2_tableNamed_23 hl (k := 2) rfl rfl (by decide) rfl (fun ls hl => ?_)
      refine lt_gen (P := fun x => lv_has ls 4 [(3, .int x), (0, .ref (ad 6)), (1, .long x1)]) h hl (fun x3_1 h hl => ?_)
      refine lv_goto (tgt := 2) C.1.1 C.1.2.1 dX2_tableNamed_26 (by decide) ?_
      exact hk2 _ _ _ _ hw (lv_sub hl [1, 2, 0] rfl) h
    · replace h := ite_pos' h hc
      refine lv_iload_n C.1.1 C.1.2.1 dX2_tableNamed_21 rfl (lv_at hl 2 rfl) ?_
      cases h
      exact r_iret C hw (Or.inl rfl) dX2_tableNamed_22
set_option maxHeartbeats 4000000 in
set_option maxRecDepth 100000 in
theorem w_X2_tableNamed_s_2L {x1 : Int64} {g : GM} {r : Int32} (C : CX p s m args meth c RX2 yX2_tableNamed cX2_tableNamed 4 (some .int) D cA) (hx : HX hr ad) : ∀ (n : Nat) (x3 : Int32) (H : Heap) (locs : List Loc) (ls : Array Slot), WS D cA ev hr ad A (KX ++ tl) s H locs g → lv_has ls 4 [(0, .ref (ad 6)), (1, .long x1), (3, .int x3)] → fixN (F_X2_tableNamed_s_2B x1 g) n x3 = some r → W p l e (RM 1 0 0) s m args below meth c H locs 0 0 (MQ below (QI D cA ev hr ad A (KX ++ tl) r g) args s 0 0 A) (F0 m 2 ls []) := by
  intro n
  induction n with
  | zero => intro x3 H locs ls hw hl h; exact (fix_zero h).elim
  | succ n ih => intro x3 H locs ls hw hl h; exact w_X2_tableNamed_s_2 (fixN (F_X2_tableNamed_s_2B x1 g) n) ih C hx hw hl h
set_option maxHeartbeats 4000000 in
set_option maxRecDepth 100000 in
theorem w_X2_tableNamed_s_0 (C : CX p s m args meth c RX2 yX2_tableNamed cX2_tableNamed 4 (some .int) D cA) (hx : HX hr ad) {H : Heap} {locs : List Loc} {g : GM} (hw : WS D cA ev hr ad A (KX ++ tl) s H locs g) {a1 : Int64} {ls : Array Slot} (hl : lv_has ls 4 [(0, .ref (ad 6)), (1, .long a1)]) {r : Int32} (h : F_X2_tableNamed_s a1 g = some r) : W p l e (RM 1 0 0) s m args below meth c H locs 0 0 (MQ below (QI D cA ev hr ad A (KX ++ tl) r g) args s 0 0 A) (F0 m 0 ls []) := by
  refine lv_iconst (v := 0) C.1.1 C.1.2.1 dX2_tableNamed_0 (by decide) ?_
  refine lv_istore_n (lv' := [(3, .int 0), (0, .ref (ad 6)), (1, .long a1)]) C.1.1 C.1.2.1 dX2_tableNamed_1 rfl hl (by decide) rfl (fun ls hl => ?_)
  exact w_X2_tableNamed_s_2L C hx FU _ _ _ _ hw (lv_sub hl [1, 2, 0] rfl) h
set_option maxHeartbeats 4000000 in
set_option maxRecDepth 100000 in
theorem c_X2_tableNamed_s (hx : HX hr ad) {a1 : Int64} {g : GM} {r : Int32} (h : F_X2_tableNamed_s a1 g = some r) (sz : Nat) : Met l yX2_tableNamed (WSX yX2_tableNamed cX2_tableNamed 4 (some .int)) (RM 1 0 0) (va_Pc [.ref (ad 6), .long a1] (PX D cA ev hr ad (KX ++ tl) g sz)) (QI D cA ev hr ad (AX ad (KX ++ tl).length sz) (KX ++ tl) r g) 0 0 (AX ad (KX ++ tl).length sz) :=
  met_of (own := RX2) pnX2 rfl (Nat.le_of_ble_eq_true rfl) (fun p e s m below meth c ls C hw hsz hl => w_X2_tableNamed_s_0 C hx hw hl h)
set_option maxHeartbeats 4000000 in
set_option maxRecDepth 100000 in
theorem w_X4_takeTable_s_35 {x2 : Int32} {g : GM} {r : Int32} {gz : GM} (C : CX p s m args meth c RX4 yX4_takeTable cX4_takeTable 3 (some .int) D cA) (hx : HX hr ad) {H : Heap} {locs : List Loc} (hw : WS D cA ev hr ad A (KX ++ tl) s H locs g) {ls : Array Slot} (hl : lv_has ls 3 [(0, .ref (ad 1)), (2, .int x2)]) (h : F_X4_takeTable_s_35 x2 g = some (r, gz)) : W p l e (RM 9 0 0) s m args below meth c H locs 0 0 (MQ below (QI D cA ev hr ad A (KX ++ tl) r gz) args s 0 0 A) (F0 m 35 ls []) := by
  refine lv_aload_n C.1.1 C.1.2.1 dX4_takeTable_35 rfl (lv_at hl 0 rfl) ?_
  refine r_getI C hw (kx1 _) fX4_47 rfl dX4_takeTable_36 ?_
  refine lv_if_eq (tgt := 44) C.1.1 C.1.2.1 dX4_takeTable_39 (by decide) (fun hc => ?_) (fun hc => ?_)
  · replace h := ite_pos' h hc
    refine lv_aload_n C.1.1 C.1.2.1 dX4_takeTable_44 rfl (lv_at hl 0 rfl) ?_
    obtain ⟨g_1, hc, h⟩ := bnd_some h
    refine r_vV (dc := 8) (As := []) (rest := []) C hw vX4_53 (kx1 _) (by decide) rfl (fun sz => c_X4_advance hx hc sz) (by decide) rfl rfl hl.1 (Nat.le_of_ble_eq_true rfl) dX4_takeTable_45 ⟨Nat.le_refl _, Nat.le_refl _⟩ (fun H locs hw => ?_)
    refine lv_iload_n C.1.1 C.1.2.1 dX4_takeTable_48 rfl (lv_at hl 1 rfl) ?_
    cases h
    exact r_iret C hw (Or.inl rfl) dX4_takeTable_49
  · replace h := ite_neg' h hc
    refine lv_iconst (v := (-1)) C.1.1 C.1.2.1 dX4_takeTable_42 (by decide) ?_
    cases h
    exact r_iret C hw (Or.inl rfl) dX4_takeTable_43
set_option maxHeartbeats 4000000 in
set_option maxRecDepth 100000 in
theorem w_X4_takeTable_s_12 {g : GM} {r : Int32} {gz : GM} (C : CX p s m args meth c RX4 yX4_takeTable cX4_takeTable 3 (some .int) D cA) (hx : HX hr ad) {H : Heap} {locs : List Loc} (hw : WS D cA ev hr ad A (KX ++ tl) s H locs g) {ls : Array Slot} (hl : lv_has ls 3 [(0, .ref (ad 1)), (1, .ref (ad 6))]) (h : F_X4_takeTable_s_12 g = some (r, gz)) : W p l e (RM 9 0 0) s m args below meth c H locs 0 0 (MQ below (QI D cA ev hr ad A (KX ++ tl) r gz) args s 0 0 A) (F0 m 12 ls []) := by
  refine lv_aload_n C.1.1 C.1.2.1 dX4_takeTable_12 rfl (lv_at hl 1 rfl) ?_
  refine lv_aload_n C.1.1 C.1.2.1 dX4_takeTable_13 rfl (lv_at hl 0 rfl) ?_
  refine r_getL C hw (kx1 _) fX4_79 rfl dX4_takeTable_14 ?_
  obtain ⟨r_2, hc, h⟩ := bnd_some h
  refine r_vI (dc := 1) (As := [.long (gl g 1 8)]) (rest := []) C hw vX4_83 (kx6 _) (by decide) rfl (fun sz => c_X2_tableNamed_s hx hc sz) (by decide) rfl rfl hl.1 (Nat.le_of_ble_eq_true rfl) dX4_takeTable_17 ⟨Nat.le_refl _, Nat.le_refl _⟩ (fun H locs hw => ?_)
  refine lv_istore_n (lv' := [(2, .int r_2), (0, .ref (ad 1)), (1, .ref (ad 6))]) C.1.1 C.1.2.1 dX4_takeTable_20 rfl hl (by decide) rfl (fun ls hl => ?_)
  refine lt_gen (P := fun x => lv_has ls 3 [(2, .int x), (0, .ref (ad 1)), (1, .ref (ad 6))]) h hl (fun x2_3 h hl => ?_)
  refine lv_iload_n C.1.1 C.1.2.1 dX4_takeTable_21 rfl (lv_at hl 0 rfl) ?_
  refine lv_iconst (v := (-1)) C.1.1 C.1.2.1 dX4_takeTable_22 (by decide) ?_
  refine lv_icmp_ne (tgt := 35) C.1.1 C.1.2.1 dX4_takeTable_23 (by decide) (fun hc => ?_) (fun hc => ?_)
  · replace h := ite_neg' h hc
    exact w_X4_takeTable_s_35 C hx hw (lv_sub hl [1, 0] rfl) h
  · replace h := ite_pos' h hc
    refine lv_aload_n C.1.1 C.1.2.1 dX4_takeTable_26 rfl (lv_at hl 1 rfl) ?_
    refine lv_iconst (v := 4) C.1.1 C.1.2.1 dX4_takeTable_27 (by decide) ?_
    refine lv_aload_n C.1.1 C.1.2.1 dX4_takeTable_28 rfl (lv_at hl 1 rfl) ?_
    refine r_getI C hw (kx1 _) fX4_56 rfl dX4_takeTable_29 ?_
    obtain ⟨g_4, hc, h⟩ := bnd_some h
    refine r_vV (dc := 1) (As := [.int 4, .int (gi g 1 6)]) (rest := []) C hw vX4_72 (kx1 _) (by decide) rfl (fun sz => c_X4_refuse hx hc sz) (by decide) rfl rfl hl.1 (Nat.le_of_ble_eq_true rfl) dX4_takeTable_32 ⟨Nat.le_refl _, Nat.le_refl _⟩ (fun H locs hw => ?_)
    exact w_X4_takeTable_s_35 C hx hw (lv_sub hl [1, 0] rfl) h
set_option maxHeartbeats 4000000 in
set_option maxRecDepth 100000 in
theorem w_X4_takeTable_s_0 (C : CX p s m args meth c RX4 yX4_takeTable cX4_takeTable 3 (some .int) D cA) (hx : HX hr ad) {H : Heap} {locs : List Loc} {g : GM} (hw : WS D cA ev hr ad A (KX ++ tl) s H locs g) {ls : Array Slot} (hl : lv_has ls 3 [(0, .ref (ad 1)), (1, .ref (ad 6))]) {r : Int32} {gz : GM} (h : F_X4_takeTable_s g = some (r, gz)) : W p l e (RM 9 0 0) s m args below meth c H locs 0 0 (MQ below (QI D cA ev hr ad A (KX ++ tl) r gz) args s 0 0 A) (F0 m 0 ls []) := by
  refine lv_aload_n C.1.1 C.1.2.1 dX4_takeTable_0 rfl (lv_at hl 0 rfl) ?_
  refine r_getI C hw (kx1 _) fX4_59 rfl dX4_takeTable_1 ?_
  refine lv_iconst (v := 2) C.1.1 C.1.2.1 dX4_takeTable_4 (by decide) ?_
  refine lv_icmp_eq (tgt := 12) C.1.1 C.1.2.1 dX4_takeTable_5 (by decide) (fun hc => ?_) (fun hc => ?_)
  · replace h := ite_pos' h hc
    exact w_X4_takeTable_s_12 C hx hw hl h
  · replace h := ite_neg' h hc
    refine lv_aload_n C.1.1 C.1.2.1 dX4_takeTable_8 rfl (lv_at hl 0 rfl) ?_
    obtain ⟨g_5, hc, h⟩ := bnd_some h
    refine r_vV (dc := 2) (As := []) (rest := []) C hw vX4_76 (kx1 _) (by decide) rfl (fun sz => c_X4_refuseToken hx hc sz) (by decide) rfl rfl hl.1 (Nat.le_of_ble_eq_true rfl) dX4_takeTable_9 ⟨Nat.le_refl _, Nat.le_refl _⟩ (fun H locs hw => ?_)
    exact w_X4_takeTable_s_12 C hx hw hl h
set_option maxHeartbeats 4000000 in
set_option maxRecDepth 100000 in
theorem c_X4_takeTable_s (hx : HX hr ad) {g : GM} {r : Int32} {gz : GM} (h : F_X4_takeTable_s g = some (r, gz)) (sz : Nat) : Met l yX4_takeTable (WSX yX4_takeTable cX4_takeTable 3 (some .int)) (RM 9 0 0) (va_Pc [.ref (ad 1), .ref (ad 6)] (PX D cA ev hr ad (KX ++ tl) g sz)) (QI D cA ev hr ad (AX ad (KX ++ tl).length sz) (KX ++ tl) r gz) 0 0 (AX ad (KX ++ tl).length sz) :=
  met_of (own := RX4) pnX4 rfl (Nat.le_of_ble_eq_true rfl) (fun p e s m below meth c ls C hw hsz hl => w_X4_takeTable_s_0 C hx hw hl h)
set_option maxHeartbeats 4000000 in
set_option maxRecDepth 100000 in
theorem w_X1_addDemand_e_0 (C : CX p s m args meth c RX1 yX1_addDemand cX1_addDemand 4 none D cA) (hx : HX hr ad) {H : Heap} {locs : List Loc} {g : GM} (hw : WS D cA ev hr ad A (KX ++ tl) s H locs g) {a1 : Int32} {a2 : Int32} {a3 : Int32} {ls : Array Slot} (hl : lv_has ls 4 [(0, .ref (ad 35)), (1, .int a1), (2, .int a2), (3, .int a3)]) {gz : GM} (h : F_X1_addDemand_e a1 a2 a3 g = some gz) : W p l e (RM 1 0 0) s m args below meth c H locs 0 0 (MQ below (QV D cA ev hr ad A (KX ++ tl) gz) args s 0 0 A) (F0 m 0 ls []) := by
  refine lv_aload_n C.1.1 C.1.2.1 dX1_addDemand_0 rfl (lv_at hl 0 rfl) ?_
  refine r_getI C hw (kx35 _) fX1_31 rfl dX1_addDemand_1 ?_
  refine lv_bipush (v := 10) C.1.1 C.1.2.1 dX1_addDemand_4 (by decide) ?_
  refine lv_icmp_ge (tgt := 49) C.1.1 C.1.2.1 dX1_addDemand_6 (by decide) (fun hc => ?_) (fun hc => ?_)
  · replace h := ite_pos' h hc
    cases h
    exact r_vret C hw rfl dX1_addDemand_49
  · replace h := ite_neg' h hc
    refine lv_aload_n C.1.1 C.1.2.1 dX1_addDemand_9 rfl (lv_at hl 0 rfl) ?_
    refine r_getR (v := .ref (ad 36)) C hw (kx35 _) fX1_9 rfl (hx35_1 hx) dX1_addDemand_10 ?_
    refine lv_aload_n C.1.1 C.1.2.1 dX1_addDemand_13 rfl (lv_at hl 0 rfl) ?_
    refine r_getI C hw (kx35 _) fX1_31 rfl dX1_addDemand_14 ?_
    refine lv_iload_n C.1.1 C.1.2.1 dX1_addDemand_17 rfl (lv_at hl 1 rfl) ?_
    obtain ⟨hz, h⟩ := ck_some h
    obtain ⟨hz2, h⟩ := ck_some h
    refine r_zast C hw (kx36 _) (isZ_or hz2) (inB_in hz) dX1_addDemand_18 (fun H locs hw => ?_)
    refine lt_gen (P := fun g => WS D cA ev hr ad A (KX ++ tl) s H locs g) h hw (fun g_1 h hw => ?_)
    refine lv_aload_n C.1.1 C.1.2.1 dX1_addDemand_19 rfl (lv_at hl 0 rfl) ?_
    refine r_getR (v := .ref (ad 37)) C hw (kx35 _) fX1_15 rfl (hx35_2 hx) dX1_addDemand_20 ?_
    refine lv_aload_n C.1.1 C.1.2.1 dX1_addDemand_23 rfl (lv_at hl 0 rfl) ?_
    refine r_getI C hw (kx35 _) fX1_31 rfl dX1_addDemand_24 ?_
    refine lv_iload_n C.1.1 C.1.2.1 dX1_addDemand_27 rfl (lv_at hl 2 rfl) ?_
    obtain ⟨hz, h⟩ := ck_some h
    refine r_iast C hw (kx37 _) (inB_in hz) dX1_addDemand_28 (fun H locs hw => ?_)
    refine lt_gen (P := fun g => WS D cA ev hr ad A (KX ++ tl) s H locs g) h hw (fun g_2 h hw => ?_)
    refine lv_aload_n C.1.1 C.1.2.1 dX1_addDemand_29 rfl (lv_at hl 0 rfl) ?_
    refine r_getR (v := .ref (ad 38)) C hw (kx35 _) fX1_19 rfl (hx35_3 hx) dX1_addDemand_30 ?_
    refine lv_aload_n C.1.1 C.1.2.1 dX1_addDemand_33 rfl (lv_at hl 0 rfl) ?_
    refine r_getI C hw (kx35 _) fX1_31 rfl dX1_addDemand_34 ?_
    refine lv_iload_n C.1.1 C.1.2.1 dX1_addDemand_37 rfl (lv_at hl 3 rfl) ?_
    obtain ⟨hz, h⟩ := ck_some h
    refine r_iast C hw (kx38 _) (inB_in hz) dX1_addDemand_38 (fun H locs hw => ?_)
    refine lt_gen (P := fun g => WS D cA ev hr ad A (KX ++ tl) s H locs g) h hw (fun g_3 h hw => ?_)
    refine lv_aload_n C.1.1 C.1.2.1 dX1_addDemand_39 rfl (lv_at hl 0 rfl) ?_
    refine lv_dup C.1.1 C.1.2.1 dX1_addDemand_40 rfl ?_
    refine r_getI C hw (kx35 _) fX1_31 rfl dX1_addDemand_41 ?_
    refine lv_iconst (v := 1) C.1.1 C.1.2.1 dX1_addDemand_44 (by decide) ?_
    refine lv_iadd C.1.1 C.1.2.1 dX1_addDemand_45 ?_
    refine r_putI C hw (kx35 _) fX1_31 rfl rfl (Or.inl rfl) dX1_addDemand_46 (fun H locs hw => ?_)
    refine lt_gen (P := fun g => WS D cA ev hr ad A (KX ++ tl) s H locs g) h hw (fun g_4 h hw => ?_)
    cases h
    exact r_vret C hw rfl dX1_addDemand_49
set_option maxHeartbeats 4000000 in
set_option maxRecDepth 100000 in
theorem c_X1_addDemand_e (hx : HX hr ad) {a1 : Int32} {a2 : Int32} {a3 : Int32} {g : GM} {gz : GM} (h : F_X1_addDemand_e a1 a2 a3 g = some gz) (sz : Nat) : Met l yX1_addDemand (WSX yX1_addDemand cX1_addDemand 4 none) (RM 1 0 0) (va_Pc [.ref (ad 35), .int a1, .int a2, .int a3] (PX D cA ev hr ad (KX ++ tl) g sz)) (QV D cA ev hr ad (AX ad (KX ++ tl).length sz) (KX ++ tl) gz) 0 0 (AX ad (KX ++ tl).length sz) :=
  met_of (own := RX1) pnX1 rfl (Nat.le_of_ble_eq_true rfl) (fun p e s m below meth c ls C hw hsz hl => w_X1_addDemand_e_0 C hx hw hl h)
set_option maxHeartbeats 4000000 in
set_option maxRecDepth 100000 in
theorem w_X2_linkersOf_s_46 {x1 : Int32} {x2 : Int32} {x3 : Int32} {x4 : Int32} {x5 : Int32} {g : GM} {r : Int32} (kb6 : Int32 × Int32 → Option (Int32)) (hk6 : ∀ (x4 : Int32) (x5 : Int32) (H : Heap) (locs : List Loc) (ls : Array Slot), WS D cA ev hr ad A (KX ++ tl) s H locs g → lv_has ls 6 [(0, .ref (ad 6)), (1, .int x1), (2, .int x2), (3, .int x3), (4, .int x4), (5, .int x5)] → kb6 (x4, x5) = some r → W p l e (RM 2 0 0) s m args below meth c H locs 0 0 (MQ below (QI D cA ev hr ad A (KX ++ tl) r g) args s 0 0 A) (F0 m 6 ls [])) (C : CX p s m args meth c RX2 yX2_linkersOf cX2_linkersOf 6 (some .int) D cA) (hx : HX hr ad) {H : Heap} {locs : List Loc} (hw : WS D cA ev hr ad A (KX ++ tl) s H locs g) {ls : Array Slot} (hl : lv_has ls 6 [(0, .ref (ad 6)), (1, .int x1), (2, .int x2), (3, .int x3), (4, .int x4), (5, .int x5)]) (h : F_X2_linkersOf_s_46 kb6 x1 x2 x3 x4 x5 g = some r) : W p l e (RM 2 0 0) s m args below meth c H locs 0 0 (MQ below (QI D cA ev hr ad A (KX ++ tl) r g) args s 0 0 A) (F0 m 46 ls []) := by
  refine lv_iinc (v := x5 + 1) (lv' := [(5, .int (x5 + 1)), (0, .ref (ad 6)), (1, .int x1), (2, .int x2), (3, .int x3), (4, .int x4)]) C.1.1 C.1.2.1 dX2_linkersOf_46 hl (k := 5) rfl rfl (by decide) rfl (fun ls hl => ?_)
  refine lt_gen (P := fun x => lv_has ls 6 [(5, .int x), (0, .ref (ad 6)), (1, .int x1), (2, .int x2), (3, .int x3), (4, .int x4)]) h hl (fun x5_1 h hl => ?_)
  refine lv_goto (tgt := 6) C.1.1 C.1.2.1 dX2_linkersOf_49 (by decide) ?_
  exact hk6 _ _ _ _ _ hw (lv_sub hl [1, 2, 3, 4, 5, 0] rfl) h
set_option maxHeartbeats 4000000 in
set_option maxRecDepth 100000 in
theorem w_X2_linkersOf_s_6 {x1 : Int32} {x2 : Int32} {x3 : Int32} {g : GM} {r : Int32} (kb6 : Int32 × Int32 → Option (Int32)) (hk6 : ∀ (x4 : Int32) (x5 : Int32) (H : Heap) (locs : List Loc) (ls : Array Slot), WS D cA ev hr ad A (KX ++ tl) s H locs g → lv_has ls 6 [(0, .ref (ad 6)), (1, .int x1), (2, .int x2), (3, .int x3), (4, .int x4), (5, .int x5)] → kb6 (x4, x5) = some r → W p l e (RM 2 0 0) s m args below meth c H locs 0 0 (MQ below (QI D cA ev hr ad A (KX ++ tl) r g) args s 0 0 A) (F0 m 6 ls [])) (C : CX p s m args meth c RX2 yX2_linkersOf cX2_linkersOf 6 (some .int) D cA) (hx : HX hr ad) {H : Heap} {locs : List Loc} {x4 : Int32} {x5 : Int32} (hw : WS D cA ev hr ad A (KX ++ tl) s H locs g) {ls : Array Slot} (hl : lv_has ls 6 [(0, .ref (ad 6)), (1, .int x1), (2, .int x2), (3, .int x3), (4, .int x4), (5, .int x5)]) (h : F_X2_linkersOf_s_6B x1 x2 x3 g kb6 (x4, x5) = some r) : W p l e (RM 2 0 0) s m args below meth c H locs 0 0 (MQ below (QI D cA ev hr ad A (KX ++ tl) r g) args s 0 0 A) (F0 m 6 ls []) := by
  refine lv_iload C.1.1 C.1.2.1 dX2_linkersOf_6 (lv_at hl 5 rfl) ?_
  refine lv_aload_n C.1.1 C.1.2.1 dX2_linkersOf_8 rfl (lv_at hl 0 rfl) ?_
  refine r_getI C hw (kx6 _) fX2_47 rfl dX2_linkersOf_9 ?_
  refine lv_icmp_ge (tgt := 52) C.1.1 C.1.2.1 dX2_linkersOf_12 (by decide) (fun hc => ?_) (fun hc => ?_)
  · replace h := ite_pos' h hc
    refine lv_iload C.1.1 C.1.2.1 dX2_linkersOf_52 (lv_at hl 4 rfl) ?_
    cases h
    exact r_iret C hw (Or.inl rfl) dX2_linkersOf_54
  · replace h := ite_neg' h hc
    refine lv_aload_n C.1.1 C.1.2.1 dX2_linkersOf_15 rfl (lv_at hl 0 rfl) ?_
    refine r_getR (v := .ref (ad 12)) C hw (kx6 _) fX2_28 rfl (hx6_7 hx) dX2_linkersOf_16 ?_
    refine lv_iload C.1.1 C.1.2.1 dX2_linkersOf_19 (lv_at hl 5 rfl) ?_
    obtain ⟨hz, h⟩ := ck_some h
    refine r_iald C hw (kx12 _) (inB_in hz) dX2_linkersOf_21 ?_
    refine lv_iload_n C.1.1 C.1.2.1 dX2_linkersOf_22 rfl (lv_at hl 2 rfl) ?_
    refine lv_icmp_ne (tgt := 46) C.1.1 C.1.2.1 dX2_linkersOf_23 (by decide) (fun hc => ?_) (fun hc => ?_)
    · replace h := ite_neg' h hc
      exact w_X2_linkersOf_s_46 kb6 hk6 C hx hw hl h
    · replace h := ite_pos' h hc
      refine lv_aload_n C.1.1 C.1.2.1 dX2_linkersOf_26 rfl (lv_at hl 0 rfl) ?_
      refine lv_iload C.1.1 C.1.2.1 dX2_linkersOf_27 (lv_at hl 5 rfl) ?_
      refine lv_iload_n C.1.1 C.1.2.1 dX2_linkersOf_29 rfl (lv_at hl 3 rfl) ?_
      obtain ⟨r_2, hc, h⟩ := bnd_some h
      refine r_vI (dc := 1) (As := [.int x5, .int x3]) (rest := []) C hw vX2_64 (kx6 _) (by decide) rfl (fun sz => c_X2_cell_s hx hc sz) (by decide) rfl rfl hl.1 (Nat.le_of_ble_eq_true rfl) dX2_linkersOf_30 ⟨Nat.le_refl _, Nat.le_refl _⟩ (fun H locs hw => ?_)
      refine lv_iload_n C.1.1 C.1.2.1 dX2_linkersOf_33 rfl (lv_at hl 1 rfl) ?_
      refine lv_icmp_ne (tgt := 46) C.1.1 C.1.2.1 dX2_linkersOf_34 (by decide) (fun hc => ?_) (fun hc => ?_)
      · replace h := ite_neg' h hc
        exact w_X2_linkersOf_s_46 kb6 hk6 C hx hw hl h
      · replace h := ite_pos' h hc
        refine lv_iload C.1.1 C.1.2.1 dX2_linkersOf_37 (lv_at hl 4 rfl) ?_
        refine lv_iconst (v := 1) C.1.1 C.1.2.1 dX2_linkersOf_39 (by decide) ?_
        refine lv_iload C.1.1 C.1.2.1 dX2_linkersOf_40 (lv_at hl 5 rfl) ?_
        refine lv_ishl C.1.1 C.1.2.1 dX2_linkersOf_42 ?_
        refine lv_ior C.1.1 C.1.2.1 dX2_linkersOf_43 ?_
        refine lv_istore (lv' := [(4, .int (x4 ||| (1 <<< (x5 &&& 31)))), (0, .ref (ad 6)), (1, .int x1), (2, .int x2), (3, .int x3), (5, .int x5)]) C.1.1 C.1.2.1 dX2_linkersOf_44 hl (by decide) rfl (fun ls hl => ?_)
        refine lt_gen (P := fun x => lv_has ls 6 [(4, .int x), (0, .ref (ad 6)), (1, .int x1), (2, .int x2), (3, .int x3), (5, .int x5)]) h hl (fun x4_3 h hl => ?_)
        exact w_X2_linkersOf_s_46 kb6 hk6 C hx hw (lv_sub hl [1, 2, 3, 4, 0, 5] rfl) h
set_option maxHeartbeats 4000000 in
set_option maxRecDepth 100000 in
theorem w_X2_linkersOf_s_6L {x1 : Int32} {x2 : Int32} {x3 : Int32} {g : GM} {r : Int32} (C : CX p s m args meth c RX2 yX2_linkersOf cX2_linkersOf 6 (some .int) D cA) (hx : HX hr ad) : ∀ (n : Nat) (x4 : Int32) (x5 : Int32) (H : Heap) (locs : List Loc) (ls : Array Slot), WS D cA ev hr ad A (KX ++ tl) s H locs g → lv_has ls 6 [(0, .ref (ad 6)), (1, .int x1), (2, .int x2), (3, .int x3), (4, .int x4), (5, .int x5)] → fixN (F_X2_linkersOf_s_6B x1 x2 x3 g) n (x4, x5) = some r → W p l e (RM 2 0 0) s m args below meth c H locs 0 0 (MQ below (QI D cA ev hr ad A (KX ++ tl) r g) args s 0 0 A) (F0 m 6 ls []) := by
  intro n
  induction n with
  | zero => intro x4 x5 H locs ls hw hl h; exact (fix_zero h).elim
  | succ n ih => intro x4 x5 H locs ls hw hl h; exact w_X2_linkersOf_s_6 (fixN (F_X2_linkersOf_s_6B x1 x2 x3 g) n) ih C hx hw hl h
set_option maxHeartbeats 4000000 in
set_option maxRecDepth 100000 in
theorem w_X2_linkersOf_s_0 (C : CX p s m args meth c RX2 yX2_linkersOf cX2_linkersOf 6 (some .int) D cA) (hx : HX hr ad) {H : Heap} {locs : List Loc} {g : GM} (hw : WS D cA ev hr ad A (KX ++ tl) s H locs g) {a1 : Int32} {a2 : Int32} {a3 : Int32} {ls : Array Slot} (hl : lv_has ls 6 [(0, .ref (ad 6)), (1, .int a1), (2, .int a2), (3, .int a3)]) {r : Int32} (h : F_X2_linkersOf_s a1 a2 a3 g = some r) : W p l e (RM 2 0 0) s m args below meth c H locs 0 0 (MQ below (QI D cA ev hr ad A (KX ++ tl) r g) args s 0 0 A) (F0 m 0 ls []) := by
  refine lv_iconst (v := 0) C.1.1 C.1.2.1 dX2_linkersOf_0 (by decide) ?_
  refine lv_istore (lv' := [(4, .int 0), (0, .ref (ad 6)), (1, .int a1), (2, .int a2), (3, .int a3)]) C.1.1 C.1.2.1 dX2_linkersOf_1 hl (by decide) rfl (fun ls hl => ?_)
  refine lv_iconst (v := 0) C.1.1 C.1.2.1 dX2_linkersOf_3 (by decide) ?_
  refine lv_istore (lv' := [(5, .int 0), (4, .int 0), (0, .ref (ad 6)), (1, .int a1), (2, .int a2), (3, .int a3)]) C.1.1 C.1.2.1 dX2_linkersOf_4 hl (by decide) rfl (fun ls hl => ?_)
  exact w_X2_linkersOf_s_6L C hx FU _ _ _ _ _ hw (lv_sub hl [2, 3, 4, 5, 1, 0] rfl) h
set_option maxHeartbeats 4000000 in
set_option maxRecDepth 100000 in
theorem c_X2_linkersOf_s (hx : HX hr ad) {a1 : Int32} {a2 : Int32} {a3 : Int32} {g : GM} {r : Int32} (h : F_X2_linkersOf_s a1 a2 a3 g = some r) (sz : Nat) : Met l yX2_linkersOf (WSX yX2_linkersOf cX2_linkersOf 6 (some .int)) (RM 2 0 0) (va_Pc [.ref (ad 6), .int a1, .int a2, .int a3] (PX D cA ev hr ad (KX ++ tl) g sz)) (QI D cA ev hr ad (AX ad (KX ++ tl).length sz) (KX ++ tl) r g) 0 0 (AX ad (KX ++ tl).length sz) :=
  met_of (own := RX2) pnX2 rfl (Nat.le_of_ble_eq_true rfl) (fun p e s m below meth c ls C hw hsz hl => w_X2_linkersOf_s_0 C hx hw hl h)
set_option maxHeartbeats 4000000 in
set_option maxRecDepth 100000 in
theorem w_X1_addBond_e_0 (C : CX p s m args meth c RX1 yX1_addBond cX1_addBond 4 none D cA) (hx : HX hr ad) {H : Heap} {locs : List Loc} {g : GM} (hw : WS D cA ev hr ad A (KX ++ tl) s H locs g) {a1 : Int32} {a2 : Int32} {a3 : Int32} {ls : Array Slot} (hl : lv_has ls 4 [(0, .ref (ad 35)), (1, .int a1), (2, .int a2), (3, .int a3)]) {gz : GM} (h : F_X1_addBond_e a1 a2 a3 g = some gz) : W p l e (RM 1 0 0) s m args below meth c H locs 0 0 (MQ below (QV D cA ev hr ad A (KX ++ tl) gz) args s 0 0 A) (F0 m 0 ls []) := by
  refine lv_aload_n C.1.1 C.1.2.1 dX1_addBond_0 rfl (lv_at hl 0 rfl) ?_
  refine r_getI C hw (kx35 _) fX1_35 rfl dX1_addBond_1 ?_
  refine lv_aload_n C.1.1 C.1.2.1 dX1_addBond_4 rfl (lv_at hl 0 rfl) ?_
  refine r_getR (v := .ref (ad 39)) C hw (kx35 _) fX1_22 rfl (hx35_5 hx) dX1_addBond_5 ?_
  refine r_alen (ty := .int) (v := 160) C hw (kx39 _) (by decide) (by decide) dX1_addBond_8 ?_
  refine lv_icmp_ge (tgt := 52) C.1.1 C.1.2.1 dX1_addBond_9 (by decide) (fun hc => ?_) (fun hc => ?_)
  · replace h := ite_pos' h hc
    cases h
    exact r_vret C hw rfl dX1_addBond_52
  · replace h := ite_neg' h hc
    refine lv_aload_n C.1.1 C.1.2.1 dX1_addBond_12 rfl (lv_at hl 0 rfl) ?_
    refine r_getR (v := .ref (ad 39)) C hw (kx35 _) fX1_22 rfl (hx35_5 hx) dX1_addBond_13 ?_
    refine lv_aload_n C.1.1 C.1.2.1 dX1_addBond_16 rfl (lv_at hl 0 rfl) ?_
    refine r_getI C hw (kx35 _) fX1_35 rfl dX1_addBond_17 ?_
    refine lv_iload_n C.1.1 C.1.2.1 dX1_addBond_20 rfl (lv_at hl 1 rfl) ?_
    obtain ⟨hz, h⟩ := ck_some h
    refine r_iast C hw (kx39 _) (inB_in hz) dX1_addBond_21 (fun H locs hw => ?_)
    refine lt_gen (P := fun g => WS D cA ev hr ad A (KX ++ tl) s H locs g) h hw (fun g_1 h hw => ?_)
    refine lv_aload_n C.1.1 C.1.2.1 dX1_addBond_22 rfl (lv_at hl 0 rfl) ?_
    refine r_getR (v := .ref (ad 40)) C hw (kx35 _) fX1_25 rfl (hx35_6 hx) dX1_addBond_23 ?_
    refine lv_aload_n C.1.1 C.1.2.1 dX1_addBond_26 rfl (lv_at hl 0 rfl) ?_
    refine r_getI C hw (kx35 _) fX1_35 rfl dX1_addBond_27 ?_
    refine lv_iload_n C.1.1 C.1.2.1 dX1_addBond_30 rfl (lv_at hl 2 rfl) ?_
    obtain ⟨hz, h⟩ := ck_some h
    refine r_iast C hw (kx40 _) (inB_in hz) dX1_addBond_31 (fun H locs hw => ?_)
    refine lt_gen (P := fun g => WS D cA ev hr ad A (KX ++ tl) s H locs g) h hw (fun g_2 h hw => ?_)
    refine lv_aload_n C.1.1 C.1.2.1 dX1_addBond_32 rfl (lv_at hl 0 rfl) ?_
    refine r_getR (v := .ref (ad 41)) C hw (kx35 _) fX1_28 rfl (hx35_7 hx) dX1_addBond_33 ?_
    refine lv_aload_n C.1.1 C.1.2.1 dX1_addBond_36 rfl (lv_at hl 0 rfl) ?_
    refine r_getI C hw (kx35 _) fX1_35 rfl dX1_addBond_37 ?_
    refine lv_iload_n C.1.1 C.1.2.1 dX1_addBond_40 rfl (lv_at hl 3 rfl) ?_
    obtain ⟨hz, h⟩ := ck_some h
    refine r_iast C hw (kx41 _) (inB_in hz) dX1_addBond_41 (fun H locs hw => ?_)
    refine lt_gen (P := fun g => WS D cA ev hr ad A (KX ++ tl) s H locs g) h hw (fun g_3 h hw => ?_)
    refine lv_aload_n C.1.1 C.1.2.1 dX1_addBond_42 rfl (lv_at hl 0 rfl) ?_
    refine lv_dup C.1.1 C.1.2.1 dX1_addBond_43 rfl ?_
    refine r_getI C hw (kx35 _) fX1_35 rfl dX1_addBond_44 ?_
    refine lv_iconst (v := 1) C.1.1 C.1.2.1 dX1_addBond_47 (by decide) ?_
    refine lv_iadd C.1.1 C.1.2.1 dX1_addBond_48 ?_
    refine r_putI C hw (kx35 _) fX1_35 rfl rfl (Or.inl rfl) dX1_addBond_49 (fun H locs hw => ?_)
    refine lt_gen (P := fun g => WS D cA ev hr ad A (KX ++ tl) s H locs g) h hw (fun g_4 h hw => ?_)
    cases h
    exact r_vret C hw rfl dX1_addBond_52
set_option maxHeartbeats 4000000 in
set_option maxRecDepth 100000 in
theorem c_X1_addBond_e (hx : HX hr ad) {a1 : Int32} {a2 : Int32} {a3 : Int32} {g : GM} {gz : GM} (h : F_X1_addBond_e a1 a2 a3 g = some gz) (sz : Nat) : Met l yX1_addBond (WSX yX1_addBond cX1_addBond 4 none) (RM 1 0 0) (va_Pc [.ref (ad 35), .int a1, .int a2, .int a3] (PX D cA ev hr ad (KX ++ tl) g sz)) (QV D cA ev hr ad (AX ad (KX ++ tl).length sz) (KX ++ tl) gz) 0 0 (AX ad (KX ++ tl).length sz) :=
  met_of (own := RX1) pnX1 rfl (Nat.le_of_ble_eq_true rfl) (fun p e s m below meth c ls C hw hsz hl => w_X1_addBond_e_0 C hx hw hl h)
end WX1

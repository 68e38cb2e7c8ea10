section WM1
variable {p : Program} {l : Launch} {e : Env} {s : State} {m : MethodId} {args : Array Value} {below : List Frame} {meth : Method} {c : Code} {D : va_G} {cA : Nat → ClassId} {ev : EVa} {hr : Nat → Nat → Value} {ad : Nat → Nat} {A : Nat → Prop}
set_option maxHeartbeats 4000000 in
set_option maxRecDepth 100000 in
theorem w_X7_row_0 (C : CX p s m args meth c RX7 yX7_row cX7_row 3 (some .int) D cA) (hx : HM hr ad) {H : Heap} {locs : List Loc} {g : GM} (hw : WS D cA ev hr ad A KM s H locs g) {a1 : Int32} {a2 : Int32} {ls : Array Slot} (hl : lv_has ls 3 [(0, .ref (ad 0)), (1, .int a1), (2, .int a2)]) {r : Int32} (h : F_X7_row a1 a2 g = some r) : W p l e (RM 2 0 0) s m args below meth c H locs 0 0 (MQ below (QI D cA ev hr ad A KM r g) args s 0 0 A) (F0 m 0 ls []) := by
  refine lv_aload_n C.1.1 C.1.2.1 dX7_row_0 rfl (lv_at hl 0 rfl) ?_
  refine lv_iload_n C.1.1 C.1.2.1 dX7_row_1 rfl (lv_at hl 1 rfl) ?_
  obtain ⟨r_1, hc, h⟩ := bnd_some h
  refine r_vI (dc := 1) (As := [.int a1]) (rest := []) C hw vX7_200 km0 (by decide) rfl (fun sz => c_X7_isRow hx hc sz) (by decide) rfl rfl hl.1 (Nat.le_of_ble_eq_true rfl) dX7_row_2 ⟨Nat.le_refl _, Nat.le_refl _⟩ (fun H locs hw => ?_)
  refine lv_if_ne (tgt := 10) C.1.1 C.1.2.1 dX7_row_5 (by decide) (fun hc => ?_) (fun hc => ?_)
  · replace h := ite_neg' h hc
    refine lv_iload_n C.1.1 C.1.2.1 dX7_row_10 rfl (lv_at hl 2 rfl) ?_
    refine lv_if_ne (tgt := 29) C.1.1 C.1.2.1 dX7_row_11 (by decide) (fun hc => ?_) (fun hc => ?_)
    · replace h := ite_neg' h hc
      refine lv_iload_n C.1.1 C.1.2.1 dX7_row_29 rfl (lv_at hl 2 rfl) ?_
      refine lv_iconst (v := 1) C.1.1 C.1.2.1 dX7_row_30 (by decide) ?_
      refine lv_icmp_ne (tgt := 42) C.1.1 C.1.2.1 dX7_row_31 (by decide) (fun hc => ?_) (fun hc => ?_)
      · replace h := ite_neg' h hc
        refine lv_iload_n C.1.1 C.1.2.1 dX7_row_42 rfl (lv_at hl 2 rfl) ?_
        refine lv_iconst (v := 2) C.1.1 C.1.2.1 dX7_row_43 (by decide) ?_
        refine lv_icmp_ne (tgt := 58) C.1.1 C.1.2.1 dX7_row_44 (by decide) (fun hc => ?_) (fun hc => ?_)
        · replace h := ite_neg' h hc
          refine lv_iconst (v := (-1)) C.1.1 C.1.2.1 dX7_row_58 (by decide) ?_
          cases h
          exact r_iret C hw (Or.inl rfl) dX7_row_59
        · replace h := ite_pos' h hc
          refine lv_aload_n C.1.1 C.1.2.1 dX7_row_47 rfl (lv_at hl 0 rfl) ?_
          refine r_getI C hw km0 fX7_147 rfl dX7_row_48 ?_
          refine lv_iload_n C.1.1 C.1.2.1 dX7_row_51 rfl (lv_at hl 1 rfl) ?_
          refine lv_ishr C.1.1 C.1.2.1 dX7_row_52 ?_
          refine lv_iconst (v := 1) C.1.1 C.1.2.1 dX7_row_53 (by decide) ?_
          refine lv_iand C.1.1 C.1.2.1 dX7_row_54 ?_
          refine lv_goto (tgt := 59) C.1.1 C.1.2.1 dX7_row_55 (by decide) ?_
          cases h
          exact r_iret C hw (Or.inl rfl) dX7_row_59
      · replace h := ite_pos' h hc
        refine lv_aload_n C.1.1 C.1.2.1 dX7_row_34 rfl (lv_at hl 0 rfl) ?_
        refine lv_iload_n C.1.1 C.1.2.1 dX7_row_35 rfl (lv_at hl 1 rfl) ?_
        obtain ⟨r_2, hc, h⟩ := bnd_some h
        refine r_vI (dc := 1) (As := [.int a1]) (rest := []) C hw vX7_197 km0 (by decide) rfl (fun sz => c_X7_numberAt hx hc sz) (by decide) rfl rfl hl.1 (Nat.le_of_ble_eq_true rfl) dX7_row_36 ⟨Nat.le_refl _, Nat.le_refl _⟩ (fun H locs hw => ?_)
        refine lv_goto (tgt := 59) C.1.1 C.1.2.1 dX7_row_39 (by decide) ?_
        cases h
        exact r_iret C hw (Or.inl rfl) dX7_row_59
    · replace h := ite_pos' h hc
      refine lv_aload_n C.1.1 C.1.2.1 dX7_row_14 rfl (lv_at hl 0 rfl) ?_
      refine lv_iload_n C.1.1 C.1.2.1 dX7_row_15 rfl (lv_at hl 1 rfl) ?_
      obtain ⟨r_3, hc, h⟩ := bnd_some h
      refine r_vI (dc := 1) (As := [.int a1]) (rest := []) C hw vX7_194 km0 (by decide) rfl (fun sz => c_X7_tableAt hx hc sz) (by decide) rfl rfl hl.1 (Nat.le_of_ble_eq_true rfl) dX7_row_16 ⟨Nat.le_refl _, Nat.le_refl _⟩ (fun H locs hw => ?_)
      refine lv_iconst (v := 5) C.1.1 C.1.2.1 dX7_row_19 (by decide) ?_
      refine lv_aload_n C.1.1 C.1.2.1 dX7_row_20 rfl (lv_at hl 0 rfl) ?_
      refine r_getI C hw km0 fX7_116 rfl dX7_row_21 ?_
      refine lv_imul C.1.1 C.1.2.1 dX7_row_24 ?_
      refine lv_isub C.1.1 C.1.2.1 dX7_row_25 ?_
      refine lv_goto (tgt := 59) C.1.1 C.1.2.1 dX7_row_26 (by decide) ?_
      cases h
      exact r_iret C hw (Or.inl rfl) dX7_row_59
  · replace h := ite_pos' h hc
    refine lv_iconst (v := (-1)) C.1.1 C.1.2.1 dX7_row_8 (by decide) ?_
    cases h
    exact r_iret C hw (Or.inl rfl) dX7_row_9
set_option maxHeartbeats 4000000 in
set_option maxRecDepth 100000 in
theorem c_X7_row (hx : HM hr ad) {a1 : Int32} {a2 : Int32} {g : GM} {r : Int32} (h : F_X7_row a1 a2 g = some r) (sz : Nat) : Met l yX7_row (WSX yX7_row cX7_row 3 (some .int)) (RM 2 0 0) (va_Pc [.ref (ad 0), .int a1, .int a2] (PX D cA ev hr ad KM g sz)) (QI D cA ev hr ad (AX ad KM.length sz) KM r g) 0 0 (AX ad KM.length sz) :=
  met_of (own := RX7) pnX7 rfl (Nat.le_of_ble_eq_true rfl) (fun p e s m below meth c ls C hw hsz hl => w_X7_row_0 C hx hw hl h)
set_option maxHeartbeats 4000000 in
set_option maxRecDepth 100000 in
theorem w_X7_value_0 (C : CX p s m args meth c RX7 yX7_value cX7_value 3 (some .int) D cA) (hx : HM hr ad) {H : Heap} {locs : List Loc} {g : GM} (hw : WS D cA ev hr ad A KM s H locs g) {a1 : Int32} {a2 : Int32} {ls : Array Slot} (hl : lv_has ls 3 [(0, .ref (ad 0)), (1, .int a1), (2, .int a2)]) {r : Int32} (h : F_X7_value a1 a2 g = some r) : W p l e (RM 3 0 0) s m args below meth c H locs 0 0 (MQ below (QI D cA ev hr ad A KM r g) args s 0 0 A) (F0 m 0 ls []) := by
  refine lv_aload_n C.1.1 C.1.2.1 dX7_value_0 rfl (lv_at hl 0 rfl) ?_
  refine lv_iload_n C.1.1 C.1.2.1 dX7_value_1 rfl (lv_at hl 1 rfl) ?_
  refine lv_iload_n C.1.1 C.1.2.1 dX7_value_2 rfl (lv_at hl 2 rfl) ?_
  obtain ⟨r_1, hc, h⟩ := bnd_some h
  refine r_vI (dc := 2) (As := [.int a1, .int a2]) (rest := []) C hw vX7_203 km0 (by decide) rfl (fun sz => c_X7_hasColumn hx hc sz) (by decide) rfl rfl hl.1 (Nat.le_of_ble_eq_true rfl) dX7_value_3 ⟨Nat.le_refl _, Nat.le_refl _⟩ (fun H locs hw => ?_)
  refine lv_if_eq (tgt := 18) C.1.1 C.1.2.1 dX7_value_6 (by decide) (fun hc => ?_) (fun hc => ?_)
  · replace h := ite_pos' h hc
    refine lv_iconst (v := (-1)) C.1.1 C.1.2.1 dX7_value_18 (by decide) ?_
    cases h
    exact r_iret C hw (Or.inl rfl) dX7_value_19
  · replace h := ite_neg' h hc
    refine lv_aload_n C.1.1 C.1.2.1 dX7_value_9 rfl (lv_at hl 0 rfl) ?_
    refine lv_iload_n C.1.1 C.1.2.1 dX7_value_10 rfl (lv_at hl 1 rfl) ?_
    refine lv_iload_n C.1.1 C.1.2.1 dX7_value_11 rfl (lv_at hl 2 rfl) ?_
    obtain ⟨r_2, hc, h⟩ := bnd_some h
    refine r_vI (dc := 2) (As := [.int a1, .int a2]) (rest := []) C hw vX7_207 km0 (by decide) rfl (fun sz => c_X7_valueAt hx hc sz) (by decide) rfl rfl hl.1 (Nat.le_of_ble_eq_true rfl) dX7_value_12 ⟨Nat.le_refl _, Nat.le_refl _⟩ (fun H locs hw => ?_)
    refine lv_goto (tgt := 19) C.1.1 C.1.2.1 dX7_value_15 (by decide) ?_
    cases h
    exact r_iret C hw (Or.inl rfl) dX7_value_19
set_option maxHeartbeats 4000000 in
set_option maxRecDepth 100000 in
theorem c_X7_value (hx : HM hr ad) {a1 : Int32} {a2 : Int32} {g : GM} {r : Int32} (h : F_X7_value a1 a2 g = some r) (sz : Nat) : Met l yX7_value (WSX yX7_value cX7_value 3 (some .int)) (RM 3 0 0) (va_Pc [.ref (ad 0), .int a1, .int a2] (PX D cA ev hr ad KM g sz)) (QI D cA ev hr ad (AX ad KM.length sz) KM r g) 0 0 (AX ad KM.length sz) :=
  met_of (own := RX7) pnX7 rfl (Nat.le_of_ble_eq_true rfl) (fun p e s m below meth c ls C hw hsz hl => w_X7_value_0 C hx hw hl h)
set_option maxHeartbeats 4000000 in
set_option maxRecDepth 100000 in
theorem w_X7_aTable_63 {x1 : Int32} {g : GM} {r : Int32} {gz : GM} (C : CX p s m args meth c RX7 yX7_aTable cX7_aTable 2 (some .int) D cA) (hx : HM hr ad) {H : Heap} {locs : List Loc} (hw : WS D cA ev hr ad A KM s H locs g) {ls : Array Slot} (hl : lv_has ls 2 [(0, .ref (ad 0)), (1, .int x1)]) (h : F_X7_aTable_63 x1 g = some (r, gz)) : W p l e (RM 3 0 0) s m args below meth c H locs 0 0 (MQ below (QI D cA ev hr ad A KM r gz) args s 0 0 A) (F0 m 63 ls []) := by
  refine lv_aload_n C.1.1 C.1.2.1 dX7_aTable_63 rfl (lv_at hl 0 rfl) ?_
  obtain ⟨r_1, hc, h⟩ := bnd_some h
  refine r_vI (dc := 1) (As := []) (rest := []) C hw vX7_81 km0 (by decide) rfl (fun sz => c_X7_isGood hx hc sz) (by decide) rfl rfl hl.1 (Nat.le_of_ble_eq_true rfl) dX7_aTable_64 ⟨Nat.le_refl _, Nat.le_refl _⟩ (fun H locs hw => ?_)
  refine lv_if_eq (tgt := 74) C.1.1 C.1.2.1 dX7_aTable_67 (by decide) (fun hc => ?_) (fun hc => ?_)
  · replace h := ite_pos' h hc
    refine lv_iload_n C.1.1 C.1.2.1 dX7_aTable_74 rfl (lv_at hl 1 rfl) ?_
    cases h
    exact r_iret C hw (Or.inl rfl) dX7_aTable_75
  · replace h := ite_neg' h hc
    refine lv_aload_n C.1.1 C.1.2.1 dX7_aTable_70 rfl (lv_at hl 0 rfl) ?_
    obtain ⟨g_2, hc, h⟩ := bnd_some h
    refine r_vV (dc := 2) (As := []) (rest := []) C hw vX7_85 km0 (by decide) rfl (fun sz => c_X7_next hx hc sz) (by decide) rfl rfl hl.1 (Nat.le_of_ble_eq_true rfl) dX7_aTable_71 ⟨Nat.le_refl _, Nat.le_refl _⟩ (fun H locs hw => ?_)
    refine lv_iload_n C.1.1 C.1.2.1 dX7_aTable_74 rfl (lv_at hl 1 rfl) ?_
    cases h
    exact r_iret C hw (Or.inl rfl) dX7_aTable_75
set_option maxHeartbeats 4000000 in
set_option maxRecDepth 100000 in
theorem w_X7_aTable_42 {s0 : Int32} {g : GM} {r : Int32} {gz : GM} (C : CX p s m args meth c RX7 yX7_aTable cX7_aTable 2 (some .int) D cA) (hx : HM hr ad) {H : Heap} {locs : List Loc} (hw : WS D cA ev hr ad A KM s H locs g) {ls : Array Slot} (hl : lv_has ls 2 [(0, .ref (ad 0))]) (h : F_X7_aTable_42 s0 g = some (r, gz)) : W p l e (RM 3 0 0) s m args below meth c H locs 0 0 (MQ below (QI D cA ev hr ad A KM r gz) args s 0 0 A) (F0 m 42 ls [.int s0]) := by
  refine lv_istore_n (lv' := [(1, .int s0), (0, .ref (ad 0))]) C.1.1 C.1.2.1 dX7_aTable_42 rfl hl (by decide) rfl (fun ls hl => ?_)
  refine lv_aload_n C.1.1 C.1.2.1 dX7_aTable_43 rfl (lv_at hl 1 rfl) ?_
  obtain ⟨r_3, hc, h⟩ := bnd_some h
  refine r_vI (dc := 1) (As := []) (rest := []) C hw vX7_81 km0 (by decide) rfl (fun sz => c_X7_isGood hx hc sz) (by decide) rfl rfl hl.1 (Nat.le_of_ble_eq_true rfl) dX7_aTable_44 ⟨Nat.le_refl _, Nat.le_refl _⟩ (fun H locs hw => ?_)
  refine lv_if_eq (tgt := 63) C.1.1 C.1.2.1 dX7_aTable_47 (by decide) (fun hc => ?_) (fun hc => ?_)
  · replace h := ite_pos' h hc
    exact w_X7_aTable_63 C hx hw (lv_sub hl [1, 0] rfl) h
  · replace h := ite_neg' h hc
    refine lv_iload_n C.1.1 C.1.2.1 dX7_aTable_50 rfl (lv_at hl 0 rfl) ?_
    refine lv_if_ge (tgt := 63) C.1.1 C.1.2.1 dX7_aTable_51 (by decide) (fun hc => ?_) (fun hc => ?_)
    · replace h := ite_pos' h hc
      exact w_X7_aTable_63 C hx hw (lv_sub hl [1, 0] rfl) h
    · replace h := ite_neg' h hc
      refine lv_aload_n C.1.1 C.1.2.1 dX7_aTable_54 rfl (lv_at hl 1 rfl) ?_
      refine lv_iconst (v := 4) C.1.1 C.1.2.1 dX7_aTable_55 (by decide) ?_
      refine lv_aload_n C.1.1 C.1.2.1 dX7_aTable_56 rfl (lv_at hl 1 rfl) ?_
      refine r_getI C hw km0 fX7_46 rfl dX7_aTable_57 ?_
      obtain ⟨g_4, hc, h⟩ := bnd_some h
      refine r_vV (dc := 1) (As := [.int 4, .int (gi g 0 6)]) (rest := []) C hw vX7_77 km0 (by decide) rfl (fun sz => c_X7_fails hx hc sz) (by decide) rfl rfl hl.1 (Nat.le_of_ble_eq_true rfl) dX7_aTable_60 ⟨Nat.le_refl _, Nat.le_refl _⟩ (fun H locs hw => ?_)
      exact w_X7_aTable_63 C hx hw (lv_sub hl [1, 0] rfl) h
set_option maxHeartbeats 4000000 in
set_option maxRecDepth 100000 in
theorem w_X7_aTable_19 {g : GM} {r : Int32} {gz : GM} (C : CX p s m args meth c RX7 yX7_aTable cX7_aTable 2 (some .int) D cA) (hx : HM hr ad) {H : Heap} {locs : List Loc} (hw : WS D cA ev hr ad A KM s H locs g) {ls : Array Slot} (hl : lv_has ls 2 [(0, .ref (ad 0))]) (h : F_X7_aTable_19 g = some (r, gz)) : W p l e (RM 3 0 0) s m args below meth c H locs 0 0 (MQ below (QI D cA ev hr ad A KM r gz) args s 0 0 A) (F0 m 19 ls []) := by
  refine lv_aload_n C.1.1 C.1.2.1 dX7_aTable_19 rfl (lv_at hl 0 rfl) ?_
  obtain ⟨r_5, hc, h⟩ := bnd_some h
  refine r_vI (dc := 1) (As := []) (rest := []) C hw vX7_81 km0 (by decide) rfl (fun sz => c_X7_isGood hx hc sz) (by decide) rfl rfl hl.1 (Nat.le_of_ble_eq_true rfl) dX7_aTable_20 ⟨Nat.le_refl _, Nat.le_refl _⟩ (fun H locs hw => ?_)
  refine lv_if_eq (tgt := 41) C.1.1 C.1.2.1 dX7_aTable_23 (by decide) (fun hc => ?_) (fun hc => ?_)
  · replace h := ite_pos' h hc
    refine lv_iconst (v := (-1)) C.1.1 C.1.2.1 dX7_aTable_41 (by decide) ?_
    exact w_X7_aTable_42 C hx hw hl h
  · replace h := ite_neg' h hc
    refine lv_aload_n C.1.1 C.1.2.1 dX7_aTable_26 rfl (lv_at hl 0 rfl) ?_
    refine lv_aload_n C.1.1 C.1.2.1 dX7_aTable_27 rfl (lv_at hl 0 rfl) ?_
    refine r_getI C hw km0 fX7_116 rfl dX7_aTable_28 ?_
    refine lv_aload_n C.1.1 C.1.2.1 dX7_aTable_31 rfl (lv_at hl 0 rfl) ?_
    refine r_getL C hw km0 fX7_60 rfl dX7_aTable_32 ?_
    obtain ⟨r_6, hc, h⟩ := bnd_some h
    refine r_vI (dc := 1) (As := [.int (gi g 0 23), .long (gl g 0 10)]) (rest := []) C hw vX7_156 km0 (by decide) rfl (fun sz => c_X7_tableOf hx hc sz) (by decide) rfl rfl hl.1 (Nat.le_of_ble_eq_true rfl) dX7_aTable_35 ⟨Nat.le_refl _, Nat.le_refl _⟩ (fun H locs hw => ?_)
    refine lv_goto (tgt := 42) C.1.1 C.1.2.1 dX7_aTable_38 (by decide) ?_
    exact w_X7_aTable_42 C hx hw hl h
set_option maxHeartbeats 4000000 in
set_option maxRecDepth 100000 in
theorem w_X7_aTable_0 (C : CX p s m args meth c RX7 yX7_aTable cX7_aTable 2 (some .int) D cA) (hx : HM hr ad) {H : Heap} {locs : List Loc} {g : GM} (hw : WS D cA ev hr ad A KM s H locs g) {ls : Array Slot} (hl : lv_has ls 2 [(0, .ref (ad 0))]) {r : Int32} {gz : GM} (h : F_X7_aTable g = some (r, gz)) : W p l e (RM 3 0 0) s m args below meth c H locs 0 0 (MQ below (QI D cA ev hr ad A KM r gz) args s 0 0 A) (F0 m 0 ls []) := by
  refine lv_aload_n C.1.1 C.1.2.1 dX7_aTable_0 rfl (lv_at hl 0 rfl) ?_
  obtain ⟨r_7, hc, h⟩ := bnd_some h
  refine r_vI (dc := 1) (As := []) (rest := []) C hw vX7_81 km0 (by decide) rfl (fun sz => c_X7_isGood hx hc sz) (by decide) rfl rfl hl.1 (Nat.le_of_ble_eq_true rfl) dX7_aTable_1 ⟨Nat.le_refl _, Nat.le_refl _⟩ (fun H locs hw => ?_)
  refine lv_if_eq (tgt := 19) C.1.1 C.1.2.1 dX7_aTable_4 (by decide) (fun hc => ?_) (fun hc => ?_)
  · replace h := ite_pos' h hc
    exact w_X7_aTable_19 C hx hw hl h
  · replace h := ite_neg' h hc
    refine lv_aload_n C.1.1 C.1.2.1 dX7_aTable_7 rfl (lv_at hl 0 rfl) ?_
    refine r_getI C hw km0 fX7_53 rfl dX7_aTable_8 ?_
    refine lv_iconst (v := 2) C.1.1 C.1.2.1 dX7_aTable_11 (by decide) ?_
    refine lv_icmp_eq (tgt := 19) C.1.1 C.1.2.1 dX7_aTable_12 (by decide) (fun hc => ?_) (fun hc => ?_)
    · replace h := ite_pos' h hc
      exact w_X7_aTable_19 C hx hw hl h
    · replace h := ite_neg' h hc
      refine lv_aload_n C.1.1 C.1.2.1 dX7_aTable_15 rfl (lv_at hl 0 rfl) ?_
      obtain ⟨g_8, hc, h⟩ := bnd_some h
      refine r_vV (dc := 2) (As := []) (rest := []) C hw vX7_89 km0 (by decide) rfl (fun sz => c_X7_wrong hx hc sz) (by decide) rfl rfl hl.1 (Nat.le_of_ble_eq_true rfl) dX7_aTable_16 ⟨Nat.le_refl _, Nat.le_refl _⟩ (fun H locs hw => ?_)
      exact w_X7_aTable_19 C hx hw hl h
set_option maxHeartbeats 4000000 in
set_option maxRecDepth 100000 in
theorem c_X7_aTable (hx : HM hr ad) {g : GM} {r : Int32} {gz : GM} (h : F_X7_aTable g = some (r, gz)) (sz : Nat) : Met l yX7_aTable (WSX yX7_aTable cX7_aTable 2 (some .int)) (RM 3 0 0) (va_Pc [.ref (ad 0)] (PX D cA ev hr ad KM g sz)) (QI D cA ev hr ad (AX ad KM.length sz) KM r gz) 0 0 (AX ad KM.length sz) :=
  met_of (own := RX7) pnX7 rfl (Nat.le_of_ble_eq_true rfl) (fun p e s m below meth c ls C hw hsz hl => w_X7_aTable_0 C hx hw hl h)
set_option maxHeartbeats 4000000 in
set_option maxRecDepth 100000 in
theorem w_X7_howMany_53 {g : GM} {r : Int32} {gz : GM} (C : CX p s m args meth c RX7 yX7_howMany cX7_howMany 2 (some .int) D cA) (hx : HM hr ad) {H : Heap} {locs : List Loc} (hw : WS D cA ev hr ad A KM s H locs g) {ls : Array Slot} (hl : lv_has ls 2 [(0, .ref (ad 0))]) (h : F_X7_howMany_53 g = some (r, gz)) : W p l e (RM 3 0 0) s m args below meth c H locs 0 0 (MQ below (QI D cA ev hr ad A KM r gz) args s 0 0 A) (F0 m 53 ls []) := by
  refine lv_aload_n C.1.1 C.1.2.1 dX7_howMany_53 rfl (lv_at hl 0 rfl) ?_
  refine r_getI C hw km0 fX7_71 rfl dX7_howMany_54 ?_
  refine lv_istore_n (lv' := [(1, .int (gi g 0 9)), (0, .ref (ad 0))]) C.1.1 C.1.2.1 dX7_howMany_57 rfl hl (by decide) rfl (fun ls hl => ?_)
  refine lt_gen (P := fun x => lv_has ls 2 [(1, .int x), (0, .ref (ad 0))]) h hl (fun x1_1 h hl => ?_)
  refine lv_aload_n C.1.1 C.1.2.1 dX7_howMany_58 rfl (lv_at hl 1 rfl) ?_
  obtain ⟨r_2, hc, h⟩ := bnd_some h
  refine r_vI (dc := 1) (As := []) (rest := []) C hw vX7_81 km0 (by decide) rfl (fun sz => c_X7_isGood hx hc sz) (by decide) rfl rfl hl.1 (Nat.le_of_ble_eq_true rfl) dX7_howMany_59 ⟨Nat.le_refl _, Nat.le_refl _⟩ (fun H locs hw => ?_)
  refine lv_if_eq (tgt := 69) C.1.1 C.1.2.1 dX7_howMany_62 (by decide) (fun hc => ?_) (fun hc => ?_)
  · replace h := ite_pos' h hc
    refine lv_iload_n C.1.1 C.1.2.1 dX7_howMany_69 rfl (lv_at hl 0 rfl) ?_
    cases h
    exact r_iret C hw (Or.inl rfl) dX7_howMany_70
  · replace h := ite_neg' h hc
    refine lv_aload_n C.1.1 C.1.2.1 dX7_howMany_65 rfl (lv_at hl 1 rfl) ?_
    obtain ⟨g_3, hc, h⟩ := bnd_some h
    refine r_vV (dc := 2) (As := []) (rest := []) C hw vX7_85 km0 (by decide) rfl (fun sz => c_X7_next hx hc sz) (by decide) rfl rfl hl.1 (Nat.le_of_ble_eq_true rfl) dX7_howMany_66 ⟨Nat.le_refl _, Nat.le_refl _⟩ (fun H locs hw => ?_)
    refine lv_iload_n C.1.1 C.1.2.1 dX7_howMany_69 rfl (lv_at hl 0 rfl) ?_
    cases h
    exact r_iret C hw (Or.inl rfl) dX7_howMany_70
set_option maxHeartbeats 4000000 in
set_option maxRecDepth 100000 in
theorem w_X7_howMany_43 {g : GM} {r : Int32} {gz : GM} (C : CX p s m args meth c RX7 yX7_howMany cX7_howMany 2 (some .int) D cA) (hx : HM hr ad) {H : Heap} {locs : List Loc} (hw : WS D cA ev hr ad A KM s H locs g) {ls : Array Slot} (hl : lv_has ls 2 [(0, .ref (ad 0))]) (h : F_X7_howMany_43 g = some (r, gz)) : W p l e (RM 3 0 0) s m args below meth c H locs 0 0 (MQ below (QI D cA ev hr ad A KM r gz) args s 0 0 A) (F0 m 43 ls []) := by
  refine lv_aload_n C.1.1 C.1.2.1 dX7_howMany_43 rfl (lv_at hl 0 rfl) ?_
  refine lv_bipush (v := 6) C.1.1 C.1.2.1 dX7_howMany_44 (by decide) ?_
  refine lv_aload_n C.1.1 C.1.2.1 dX7_howMany_46 rfl (lv_at hl 0 rfl) ?_
  refine r_getI C hw km0 fX7_46 rfl dX7_howMany_47 ?_
  obtain ⟨g_4, hc, h⟩ := bnd_some h
  refine r_vV (dc := 1) (As := [.int 6, .int (gi g 0 6)]) (rest := []) C hw vX7_77 km0 (by decide) rfl (fun sz => c_X7_fails hx hc sz) (by decide) rfl rfl hl.1 (Nat.le_of_ble_eq_true rfl) dX7_howMany_50 ⟨Nat.le_refl _, Nat.le_refl _⟩ (fun H locs hw => ?_)
  exact w_X7_howMany_53 C hx hw hl h
set_option maxHeartbeats 4000000 in
set_option maxRecDepth 100000 in
theorem w_X7_howMany_19 {g : GM} {r : Int32} {gz : GM} (C : CX p s m args meth c RX7 yX7_howMany cX7_howMany 2 (some .int) D cA) (hx : HM hr ad) {H : Heap} {locs : List Loc} (hw : WS D cA ev hr ad A KM s H locs g) {ls : Array Slot} (hl : lv_has ls 2 [(0, .ref (ad 0))]) (h : F_X7_howMany_19 g = some (r, gz)) : W p l e (RM 3 0 0) s m args below meth c H locs 0 0 (MQ below (QI D cA ev hr ad A KM r gz) args s 0 0 A) (F0 m 19 ls []) := by
  refine lv_aload_n C.1.1 C.1.2.1 dX7_howMany_19 rfl (lv_at hl 0 rfl) ?_
  obtain ⟨r_5, hc, h⟩ := bnd_some h
  refine r_vI (dc := 1) (As := []) (rest := []) C hw vX7_81 km0 (by decide) rfl (fun sz => c_X7_isGood hx hc sz) (by decide) rfl rfl hl.1 (Nat.le_of_ble_eq_true rfl) dX7_howMany_20 ⟨Nat.le_refl _, Nat.le_refl _⟩ (fun H locs hw => ?_)
  refine lv_if_eq (tgt := 53) C.1.1 C.1.2.1 dX7_howMany_23 (by decide) (fun hc => ?_) (fun hc => ?_)
  · replace h := ite_pos' h hc
    exact w_X7_howMany_53 C hx hw hl h
  · replace h := ite_neg' h hc
    refine lv_aload_n C.1.1 C.1.2.1 dX7_howMany_26 rfl (lv_at hl 0 rfl) ?_
    refine r_getI C hw km0 fX7_71 rfl dX7_howMany_27 ?_
    refine lv_iconst (v := 1) C.1.1 C.1.2.1 dX7_howMany_30 (by decide) ?_
    refine lv_icmp_lt (tgt := 43) C.1.1 C.1.2.1 dX7_howMany_31 (by decide) (fun hc => ?_) (fun hc => ?_)
    · replace h := ite_pos' h hc
      exact w_X7_howMany_43 C hx hw hl h
    · replace h := ite_neg' h hc
      refine lv_aload_n C.1.1 C.1.2.1 dX7_howMany_34 rfl (lv_at hl 0 rfl) ?_
      refine r_getI C hw km0 fX7_71 rfl dX7_howMany_35 ?_
      refine lv_bipush (v := 16) C.1.1 C.1.2.1 dX7_howMany_38 (by decide) ?_
      refine lv_icmp_le (tgt := 53) C.1.1 C.1.2.1 dX7_howMany_40 (by decide) (fun hc => ?_) (fun hc => ?_)
      · replace h := ite_pos' h hc
        exact w_X7_howMany_53 C hx hw hl h
      · replace h := ite_neg' h hc
        exact w_X7_howMany_43 C hx hw hl h
set_option maxHeartbeats 4000000 in
set_option maxRecDepth 100000 in
theorem w_X7_howMany_0 (C : CX p s m args meth c RX7 yX7_howMany cX7_howMany 2 (some .int) D cA) (hx : HM hr ad) {H : Heap} {locs : List Loc} {g : GM} (hw : WS D cA ev hr ad A KM s H locs g) {ls : Array Slot} (hl : lv_has ls 2 [(0, .ref (ad 0))]) {r : Int32} {gz : GM} (h : F_X7_howMany g = some (r, gz)) : W p l e (RM 3 0 0) s m args below meth c H locs 0 0 (MQ below (QI D cA ev hr ad A KM r gz) args s 0 0 A) (F0 m 0 ls []) := by
  refine lv_aload_n C.1.1 C.1.2.1 dX7_howMany_0 rfl (lv_at hl 0 rfl) ?_
  obtain ⟨r_6, hc, h⟩ := bnd_some h
  refine r_vI (dc := 1) (As := []) (rest := []) C hw vX7_81 km0 (by decide) rfl (fun sz => c_X7_isGood hx hc sz) (by decide) rfl rfl hl.1 (Nat.le_of_ble_eq_true rfl) dX7_howMany_1 ⟨Nat.le_refl _, Nat.le_refl _⟩ (fun H locs hw => ?_)
  refine lv_if_eq (tgt := 19) C.1.1 C.1.2.1 dX7_howMany_4 (by decide) (fun hc => ?_) (fun hc => ?_)
  · replace h := ite_pos' h hc
    exact w_X7_howMany_19 C hx hw hl h
  · replace h := ite_neg' h hc
    refine lv_aload_n C.1.1 C.1.2.1 dX7_howMany_7 rfl (lv_at hl 0 rfl) ?_
    refine r_getI C hw km0 fX7_53 rfl dX7_howMany_8 ?_
    refine lv_iconst (v := 4) C.1.1 C.1.2.1 dX7_howMany_11 (by decide) ?_
    refine lv_icmp_eq (tgt := 19) C.1.1 C.1.2.1 dX7_howMany_12 (by decide) (fun hc => ?_) (fun hc => ?_)
    · replace h := ite_pos' h hc
      exact w_X7_howMany_19 C hx hw hl h
    · replace h := ite_neg' h hc
      refine lv_aload_n C.1.1 C.1.2.1 dX7_howMany_15 rfl (lv_at hl 0 rfl) ?_
      obtain ⟨g_7, hc, h⟩ := bnd_some h
      refine r_vV (dc := 2) (As := []) (rest := []) C hw vX7_89 km0 (by decide) rfl (fun sz => c_X7_wrong hx hc sz) (by decide) rfl rfl hl.1 (Nat.le_of_ble_eq_true rfl) dX7_howMany_16 ⟨Nat.le_refl _, Nat.le_refl _⟩ (fun H locs hw => ?_)
      exact w_X7_howMany_19 C hx hw hl h
set_option maxHeartbeats 4000000 in
set_option maxRecDepth 100000 in
theorem c_X7_howMany (hx : HM hr ad) {g : GM} {r : Int32} {gz : GM} (h : F_X7_howMany g = some (r, gz)) (sz : Nat) : Met l yX7_howMany (WSX yX7_howMany cX7_howMany 2 (some .int)) (RM 3 0 0) (va_Pc [.ref (ad 0)] (PX D cA ev hr ad KM g sz)) (QI D cA ev hr ad (AX ad KM.length sz) KM r gz) 0 0 (AX ad KM.length sz) :=
  met_of (own := RX7) pnX7 rfl (Nat.le_of_ble_eq_true rfl) (fun p e s m below meth c ls C hw hsz hl => w_X7_howMany_0 C hx hw hl h)
set_option maxHeartbeats 4000000 in
set_option maxRecDepth 100000 in
theorem w_X7_readBy_70 {x1 : Int32} {x2 : Int32} {g : GM} {gz : GM} (C : CX p s m args meth c RX7 yX7_readBy cX7_readBy 3 none D cA) (hx : HM hr ad) {H : Heap} {locs : List Loc} (hw : WS D cA ev hr ad A KM s H locs g) {ls : Array Slot} (hl : lv_has ls 3 [(0, .ref (ad 0)), (1, .int x1), (2, .int x2)]) (h : F_X7_readBy_70 x1 x2 g = some gz) : W p l e (RM 3 0 0) s m args below meth c H locs 0 0 (MQ below (QV D cA ev hr ad A KM gz) args s 0 0 A) (F0 m 70 ls []) := by
  refine lv_aload_n C.1.1 C.1.2.1 dX7_readBy_70 rfl (lv_at hl 0 rfl) ?_
  obtain ⟨r_1, hc, h⟩ := bnd_some h
  refine r_vI (dc := 1) (As := []) (rest := []) C hw vX7_81 km0 (by decide) rfl (fun sz => c_X7_isGood hx hc sz) (by decide) rfl rfl hl.1 (Nat.le_of_ble_eq_true rfl) dX7_readBy_71 ⟨Nat.le_refl _, Nat.le_refl _⟩ (fun H locs hw => ?_)
  refine lv_if_ne (tgt := 78) C.1.1 C.1.2.1 dX7_readBy_74 (by decide) (fun hc => ?_) (fun hc => ?_)
  · replace h := ite_neg' h hc
    refine lv_aload_n C.1.1 C.1.2.1 dX7_readBy_78 rfl (lv_at hl 0 rfl) ?_
    refine r_getR (v := .ref (ad 18)) C hw km0 fX7_254 rfl (hm29 hx) dX7_readBy_79 ?_
    refine lv_iload_n C.1.1 C.1.2.1 dX7_readBy_82 rfl (lv_at hl 1 rfl) ?_
    refine lv_iload_n C.1.1 C.1.2.1 dX7_readBy_83 rfl (lv_at hl 2 rfl) ?_
    refine lv_iconst (v := 5) C.1.1 C.1.2.1 dX7_readBy_84 (by decide) ?_
    refine lv_aload_n C.1.1 C.1.2.1 dX7_readBy_85 rfl (lv_at hl 0 rfl) ?_
    refine r_getR (v := .ref (ad 17)) C hw km0 fX7_226 rfl (hm28 hx) dX7_readBy_86 ?_
    refine lv_iload_n C.1.1 C.1.2.1 dX7_readBy_89 rfl (lv_at hl 1 rfl) ?_
    obtain ⟨hz, h⟩ := ck_some h
    refine r_iald C hw km17 (inB_in hz) dX7_readBy_90 ?_
    refine lv_imul C.1.1 C.1.2.1 dX7_readBy_91 ?_
    refine lv_isub C.1.1 C.1.2.1 dX7_readBy_92 ?_
    obtain ⟨hz, h⟩ := ck_some h
    refine r_iast C hw km18 (inB_in hz) dX7_readBy_93 (fun H locs hw => ?_)
    refine lt_gen (P := fun g => WS D cA ev hr ad A KM s H locs g) h hw (fun g_2 h hw => ?_)
    refine lv_aload_n C.1.1 C.1.2.1 dX7_readBy_94 rfl (lv_at hl 0 rfl) ?_
    obtain ⟨g_3, hc, h⟩ := bnd_some h
    refine r_vV (dc := 2) (As := []) (rest := []) C hw vX7_85 km0 (by decide) rfl (fun sz => c_X7_next hx hc sz) (by decide) rfl rfl hl.1 (Nat.le_of_ble_eq_true rfl) dX7_readBy_95 ⟨Nat.le_refl _, Nat.le_refl _⟩ (fun H locs hw => ?_)
    cases h
    exact r_vret C hw rfl dX7_readBy_98
  · replace h := ite_pos' h hc
    cases h
    exact r_vret C hw rfl dX7_readBy_77
set_option maxHeartbeats 4000000 in
set_option maxRecDepth 100000 in
theorem w_X7_readBy_61 {x1 : Int32} {x2 : Int32} {g : GM} {gz : GM} (C : CX p s m args meth c RX7 yX7_readBy cX7_readBy 3 none D cA) (hx : HM hr ad) {H : Heap} {locs : List Loc} (hw : WS D cA ev hr ad A KM s H locs g) {ls : Array Slot} (hl : lv_has ls 3 [(0, .ref (ad 0)), (1, .int x1), (2, .int x2)]) (h : F_X7_readBy_61 x1 x2 g = some gz) : W p l e (RM 3 0 0) s m args below meth c H locs 0 0 (MQ below (QV D cA ev hr ad A KM gz) args s 0 0 A) (F0 m 61 ls []) := by
  refine lv_aload_n C.1.1 C.1.2.1 dX7_readBy_61 rfl (lv_at hl 0 rfl) ?_
  refine lv_iconst (v := 4) C.1.1 C.1.2.1 dX7_readBy_62 (by decide) ?_
  refine lv_aload_n C.1.1 C.1.2.1 dX7_readBy_63 rfl (lv_at hl 0 rfl) ?_
  refine r_getI C hw km0 fX7_46 rfl dX7_readBy_64 ?_
  obtain ⟨g_4, hc, h⟩ := bnd_some h
  refine r_vV (dc := 1) (As := [.int 4, .int (gi g 0 6)]) (rest := []) C hw vX7_77 km0 (by decide) rfl (fun sz => c_X7_fails hx hc sz) (by decide) rfl rfl hl.1 (Nat.le_of_ble_eq_true rfl) dX7_readBy_67 ⟨Nat.le_refl _, Nat.le_refl _⟩ (fun H locs hw => ?_)
  exact w_X7_readBy_70 C hx hw hl h
set_option maxHeartbeats 4000000 in
set_option maxRecDepth 100000 in
theorem w_X7_readBy_19 {x1 : Int32} {g : GM} {gz : GM} (C : CX p s m args meth c RX7 yX7_readBy cX7_readBy 3 none D cA) (hx : HM hr ad) {H : Heap} {locs : List Loc} (hw : WS D cA ev hr ad A KM s H locs g) {ls : Array Slot} (hl : lv_has ls 3 [(0, .ref (ad 0)), (1, .int x1)]) (h : F_X7_readBy_19 x1 g = some gz) : W p l e (RM 3 0 0) s m args below meth c H locs 0 0 (MQ below (QV D cA ev hr ad A KM gz) args s 0 0 A) (F0 m 19 ls []) := by
  refine lv_aload_n C.1.1 C.1.2.1 dX7_readBy_19 rfl (lv_at hl 0 rfl) ?_
  obtain ⟨r_5, hc, h⟩ := bnd_some h
  refine r_vI (dc := 1) (As := []) (rest := []) C hw vX7_81 km0 (by decide) rfl (fun sz => c_X7_isGood hx hc sz) (by decide) rfl rfl hl.1 (Nat.le_of_ble_eq_true rfl) dX7_readBy_20 ⟨Nat.le_refl _, Nat.le_refl _⟩ (fun H locs hw => ?_)
  refine lv_if_ne (tgt := 27) C.1.1 C.1.2.1 dX7_readBy_23 (by decide) (fun hc => ?_) (fun hc => ?_)
  · replace h := ite_neg' h hc
    refine lv_aload_n C.1.1 C.1.2.1 dX7_readBy_27 rfl (lv_at hl 0 rfl) ?_
    refine lv_aload_n C.1.1 C.1.2.1 dX7_readBy_28 rfl (lv_at hl 0 rfl) ?_
    refine r_getR (v := .ref (ad 17)) C hw km0 fX7_226 rfl (hm28 hx) dX7_readBy_29 ?_
    refine lv_iload_n C.1.1 C.1.2.1 dX7_readBy_32 rfl (lv_at hl 1 rfl) ?_
    obtain ⟨hz, h⟩ := ck_some h
    refine r_iald C hw km17 (inB_in hz) dX7_readBy_33 ?_
    refine lv_aload_n C.1.1 C.1.2.1 dX7_readBy_34 rfl (lv_at hl 0 rfl) ?_
    refine r_getL C hw km0 fX7_60 rfl dX7_readBy_35 ?_
    obtain ⟨r_6, hc, h⟩ := bnd_some h
    refine r_vI (dc := 1) (As := [.int (gi g 17 x1.toNatClampNeg), .long (gl g 0 10)]) (rest := []) C hw vX7_172 km0 (by decide) rfl (fun sz => c_X7_columnOf hx hc sz) (by decide) rfl rfl hl.1 (Nat.le_of_ble_eq_true rfl) dX7_readBy_38 ⟨Nat.le_refl _, Nat.le_refl _⟩ (fun H locs hw => ?_)
    refine lv_istore_n (lv' := [(2, .int r_6), (0, .ref (ad 0)), (1, .int x1)]) C.1.1 C.1.2.1 dX7_readBy_41 rfl hl (by decide) rfl (fun ls hl => ?_)
    refine lt_gen (P := fun x => lv_has ls 3 [(2, .int x), (0, .ref (ad 0)), (1, .int x1)]) h hl (fun x2_7 h hl => ?_)
    refine lv_iload_n C.1.1 C.1.2.1 dX7_readBy_42 rfl (lv_at hl 0 rfl) ?_
    refine lv_if_lt (tgt := 61) C.1.1 C.1.2.1 dX7_readBy_43 (by decide) (fun hc => ?_) (fun hc => ?_)
    · replace h := ite_pos' h hc
      exact w_X7_readBy_61 C hx hw (lv_sub hl [1, 2, 0] rfl) h
    · replace h := ite_neg' h hc
      refine lv_aload_n C.1.1 C.1.2.1 dX7_readBy_46 rfl (lv_at hl 1 rfl) ?_
      refine r_getR (v := .ref (ad 7)) C hw km0 fX7_175 rfl (hm16 hx) dX7_readBy_47 ?_
      refine lv_iload_n C.1.1 C.1.2.1 dX7_readBy_50 rfl (lv_at hl 0 rfl) ?_
      obtain ⟨hz, h⟩ := ck_some h
      refine r_iald C hw km7 (inB_in hz) dX7_readBy_51 ?_
      refine lv_aload_n C.1.1 C.1.2.1 dX7_readBy_52 rfl (lv_at hl 1 rfl) ?_
      refine r_getR (v := .ref (ad 15)) C hw km0 fX7_229 rfl (hm26 hx) dX7_readBy_53 ?_
      refine lv_iload_n C.1.1 C.1.2.1 dX7_readBy_56 rfl (lv_at hl 2 rfl) ?_
      obtain ⟨hz, h⟩ := ck_some h
      refine r_iald C hw km15 (inB_in hz) dX7_readBy_57 ?_
      refine lv_icmp_eq (tgt := 70) C.1.1 C.1.2.1 dX7_readBy_58 (by decide) (fun hc => ?_) (fun hc => ?_)
      · replace h := ite_pos' h hc
        exact w_X7_readBy_70 C hx hw (lv_sub hl [1, 2, 0] rfl) h
      · replace h := ite_neg' h hc
        exact w_X7_readBy_61 C hx hw (lv_sub hl [1, 2, 0] rfl) h
  · replace h := ite_pos' h hc
    cases h
    exact r_vret C hw rfl dX7_readBy_26
set_option maxHeartbeats 4000000 in
set_option maxRecDepth 100000 in
theorem w_X7_readBy_0 (C : CX p s m args meth c RX7 yX7_readBy cX7_readBy 3 none D cA) (hx : HM hr ad) {H : Heap} {locs : List Loc} {g : GM} (hw : WS D cA ev hr ad A KM s H locs g) {a1 : Int32} {ls : Array Slot} (hl : lv_has ls 3 [(0, .ref (ad 0)), (1, .int a1)]) {gz : GM} (h : F_X7_readBy a1 g = some gz) : W p l e (RM 3 0 0) s m args below meth c H locs 0 0 (MQ below (QV D cA ev hr ad A KM gz) args s 0 0 A) (F0 m 0 ls []) := by
  refine lv_aload_n C.1.1 C.1.2.1 dX7_readBy_0 rfl (lv_at hl 0 rfl) ?_
  obtain ⟨r_8, hc, h⟩ := bnd_some h
  refine r_vI (dc := 1) (As := []) (rest := []) C hw vX7_81 km0 (by decide) rfl (fun sz => c_X7_isGood hx hc sz) (by decide) rfl rfl hl.1 (Nat.le_of_ble_eq_true rfl) dX7_readBy_1 ⟨Nat.le_refl _, Nat.le_refl _⟩ (fun H locs hw => ?_)
  refine lv_if_eq (tgt := 19) C.1.1 C.1.2.1 dX7_readBy_4 (by decide) (fun hc => ?_) (fun hc => ?_)
  · replace h := ite_pos' h hc
    exact w_X7_readBy_19 C hx hw hl h
  · replace h := ite_neg' h hc
    refine lv_aload_n C.1.1 C.1.2.1 dX7_readBy_7 rfl (lv_at hl 0 rfl) ?_
    refine r_getI C hw km0 fX7_53 rfl dX7_readBy_8 ?_
    refine lv_iconst (v := 2) C.1.1 C.1.2.1 dX7_readBy_11 (by decide) ?_
    refine lv_icmp_eq (tgt := 19) C.1.1 C.1.2.1 dX7_readBy_12 (by decide) (fun hc => ?_) (fun hc => ?_)
    · replace h := ite_pos' h hc
      exact w_X7_readBy_19 C hx hw hl h
    · replace h := ite_neg' h hc
      refine lv_aload_n C.1.1 C.1.2.1 dX7_readBy_15 rfl (lv_at hl 0 rfl) ?_
      obtain ⟨g_9, hc, h⟩ := bnd_some h
      refine r_vV (dc := 2) (As := []) (rest := []) C hw vX7_89 km0 (by decide) rfl (fun sz => c_X7_wrong hx hc sz) (by decide) rfl rfl hl.1 (Nat.le_of_ble_eq_true rfl) dX7_readBy_16 ⟨Nat.le_refl _, Nat.le_refl _⟩ (fun H locs hw => ?_)
      exact w_X7_readBy_19 C hx hw hl h
set_option maxHeartbeats 4000000 in
set_option maxRecDepth 100000 in
theorem c_X7_readBy (hx : HM hr ad) {a1 : Int32} {g : GM} {gz : GM} (h : F_X7_readBy a1 g = some gz) (sz : Nat) : Met l yX7_readBy (WSX yX7_readBy cX7_readBy 3 none) (RM 3 0 0) (va_Pc [.ref (ad 0), .int a1] (PX D cA ev hr ad KM g sz)) (QV D cA ev hr ad (AX ad KM.length sz) KM gz) 0 0 (AX ad KM.length sz) :=
  met_of (own := RX7) pnX7 rfl (Nat.le_of_ble_eq_true rfl) (fun p e s m below meth c ls C hw hsz hl => w_X7_readBy_0 C hx hw hl h)
set_option maxHeartbeats 4000000 in
set_option maxRecDepth 100000 in
theorem w_X7_pile_0 (C : CX p s m args meth c RX7 yX7_pile cX7_pile 2 none D cA) (hx : HM hr ad) {H : Heap} {locs : List Loc} {g : GM} (hw : WS D cA ev hr ad A KM s H locs g) {a1 : Int32} {ls : Array Slot} (hl : lv_has ls 2 [(0, .ref (ad 0)), (1, .int a1)]) {gz : GM} (h : F_X7_pile a1 g = some gz) : W p l e (RM 1 0 0) s m args below meth c H locs 0 0 (MQ below (QV D cA ev hr ad A KM gz) args s 0 0 A) (F0 m 0 ls []) := by
  refine lv_aload_n C.1.1 C.1.2.1 dX7_pile_0 rfl (lv_at hl 0 rfl) ?_
  refine r_getR (v := .ref (ad 26)) C hw km0 fX7_263 rfl (hm42 hx) dX7_pile_1 ?_
  refine lv_aload_n C.1.1 C.1.2.1 dX7_pile_4 rfl (lv_at hl 0 rfl) ?_
  refine r_getI C hw km0 fX7_266 rfl dX7_pile_5 ?_
  refine lv_iload_n C.1.1 C.1.2.1 dX7_pile_8 rfl (lv_at hl 1 rfl) ?_
  obtain ⟨hz, h⟩ := ck_some h
  refine r_iast C hw km26 (inB_in hz) dX7_pile_9 (fun H locs hw => ?_)
  refine lt_gen (P := fun g => WS D cA ev hr ad A KM s H locs g) h hw (fun g_1 h hw => ?_)
  refine lv_aload_n C.1.1 C.1.2.1 dX7_pile_10 rfl (lv_at hl 0 rfl) ?_
  refine lv_dup C.1.1 C.1.2.1 dX7_pile_11 rfl ?_
  refine r_getI C hw km0 fX7_266 rfl dX7_pile_12 ?_
  refine lv_iconst (v := 1) C.1.1 C.1.2.1 dX7_pile_15 (by decide) ?_
  refine lv_iadd C.1.1 C.1.2.1 dX7_pile_16 ?_
  refine r_putI C hw km0 fX7_266 rfl rfl (Or.inl rfl) dX7_pile_17 (fun H locs hw => ?_)
  refine lt_gen (P := fun g => WS D cA ev hr ad A KM s H locs g) h hw (fun g_2 h hw => ?_)
  cases h
  exact r_vret C hw rfl dX7_pile_20
set_option maxHeartbeats 4000000 in
set_option maxRecDepth 100000 in
theorem c_X7_pile (hx : HM hr ad) {a1 : Int32} {g : GM} {gz : GM} (h : F_X7_pile a1 g = some gz) (sz : Nat) : Met l yX7_pile (WSX yX7_pile cX7_pile 2 none) (RM 1 0 0) (va_Pc [.ref (ad 0), .int a1] (PX D cA ev hr ad KM g sz)) (QV D cA ev hr ad (AX ad KM.length sz) KM gz) 0 0 (AX ad KM.length sz) :=
  met_of (own := RX7) pnX7 rfl (Nat.le_of_ble_eq_true rfl) (fun p e s m below meth c ls C hw hsz hl => w_X7_pile_0 C hx hw hl h)
set_option maxHeartbeats 4000000 in
set_option maxRecDepth 100000 in
theorem w_X7_readPath_243 {x2 : Int32} {g : GM} {gz : GM} (C : CX p s m args meth c RX7 yX7_readPath cX7_readPath 8 none D cA) (hx : HM hr ad) {H : Heap} {locs : List Loc} (hw : WS D cA ev hr ad A KM s H locs g) {ls : Array Slot} (hl : lv_has ls 8 [(0, .ref (ad 0)), (2, .int x2)]) (h : F_X7_readPath_243 x2 g = some gz) : W p l e (RM 3 0 0) s m args below meth c H locs 0 0 (MQ below (QV D cA ev hr ad A KM gz) args s 0 0 A) (F0 m 243 ls []) := by
  refine lv_aload_n C.1.1 C.1.2.1 dX7_readPath_243 rfl (lv_at hl 0 rfl) ?_
  refine r_getR (v := .ref (ad 24)) C hw km0 fX7_293 rfl (hm35 hx) dX7_readPath_244 ?_
  refine lv_iload_n C.1.1 C.1.2.1 dX7_readPath_247 rfl (lv_at hl 1 rfl) ?_
  refine lv_sipush (v := 160) C.1.1 C.1.2.1 dX7_readPath_248 (by decide) ?_
  refine lv_aload_n C.1.1 C.1.2.1 dX7_readPath_251 rfl (lv_at hl 0 rfl) ?_
  refine r_getI C hw km0 fX7_211 rfl dX7_readPath_252 ?_
  refine lv_imul C.1.1 C.1.2.1 dX7_readPath_255 ?_
  refine lv_aload_n C.1.1 C.1.2.1 dX7_readPath_256 rfl (lv_at hl 0 rfl) ?_
  refine r_getI C hw km0 fX7_220 rfl dX7_readPath_257 ?_
  refine lv_iadd C.1.1 C.1.2.1 dX7_readPath_260 ?_
  obtain ⟨hz, h⟩ := ck_some h
  refine r_iast C hw km24 (inB_in hz) dX7_readPath_261 (fun H locs hw => ?_)
  refine lt_gen (P := fun g => WS D cA ev hr ad A KM s H locs g) h hw (fun g_1 h hw => ?_)
  cases h
  exact r_vret C hw rfl dX7_readPath_262
set_option maxHeartbeats 4000000 in
set_option maxRecDepth 100000 in
theorem w_X7_readPath_240 {x2 : Int32} {x3 : Int32} {x4 : Int32} {x5 : Int32} {g : GM} {gz : GM} (kb79 : Int32 × Int32 × Int32 × GM → Option (GM)) (hk79 : ∀ (x3 : Int32) (x4 : Int32) (x5 : Int32) (g : GM) (H : Heap) (locs : List Loc) (ls : Array Slot), WS D cA ev hr ad A KM s H locs g → lv_has ls 8 [(0, .ref (ad 0)), (2, .int x2), (3, .int x3), (4, .int x4), (5, .int x5)] → kb79 (x3, x4, x5, g) = some gz → W p l e (RM 3 0 0) s m args below meth c H locs 0 0 (MQ below (QV D cA ev hr ad A KM gz) args s 0 0 A) (F0 m 79 ls [])) (C : CX p s m args meth c RX7 yX7_readPath cX7_readPath 8 none D cA) (hx : HM hr ad) {H : Heap} {locs : List Loc} (hw : WS D cA ev hr ad A KM s H locs g) {ls : Array Slot} (hl : lv_has ls 8 [(0, .ref (ad 0)), (2, .int x2), (3, .int x3), (4, .int x4), (5, .int x5)]) (h : F_X7_readPath_240 kb79 x2 x3 x4 x5 g = some gz) : W p l e (RM 3 0 0) s m args below meth c H locs 0 0 (MQ below (QV D cA ev hr ad A KM gz) args s 0 0 A) (F0 m 240 ls []) := by
  refine lv_goto (tgt := 79) C.1.1 C.1.2.1 dX7_readPath_240 (by decide) ?_
  exact hk79 _ _ _ _ _ _ _ hw hl h
set_option maxHeartbeats 4000000 in
set_option maxRecDepth 100000 in
theorem w_X7_readPath_178 {x2 : Int32} {x3 : Int32} {x4 : Int32} {x5 : Int32} {x7 : Int32} {g : GM} {gz : GM} (kb79 : Int32 × Int32 × Int32 × GM → Option (GM)) (hk79 : ∀ (x3 : Int32) (x4 : Int32) (x5 : Int32) (g : GM) (H : Heap) (locs : List Loc) (ls : Array Slot), WS D cA ev hr ad A KM s H locs g → lv_has ls 8 [(0, .ref (ad 0)), (2, .int x2), (3, .int x3), (4, .int x4), (5, .int x5)] → kb79 (x3, x4, x5, g) = some gz → W p l e (RM 3 0 0) s m args below meth c H locs 0 0 (MQ below (QV D cA ev hr ad A KM gz) args s 0 0 A) (F0 m 79 ls [])) (C : CX p s m args meth c RX7 yX7_readPath cX7_readPath 8 none D cA) (hx : HM hr ad) {H : Heap} {locs : List Loc} (hw : WS D cA ev hr ad A KM s H locs g) {ls : Array Slot} (hl : lv_has ls 8 [(0, .ref (ad 0)), (2, .int x2), (3, .int x3), (4, .int x4), (5, .int x5), (7, .int x7)]) (h : F_X7_readPath_178 kb79 x2 x3 x4 x5 x7 g = some gz) : W p l e (RM 3 0 0) s m args below meth c H locs 0 0 (MQ below (QV D cA ev hr ad A KM gz) args s 0 0 A) (F0 m 178 ls []) := by
  refine lv_aload_n C.1.1 C.1.2.1 dX7_readPath_178 rfl (lv_at hl 0 rfl) ?_
  obtain ⟨r_2, hc, h⟩ := bnd_some h
  refine r_vI (dc := 1) (As := []) (rest := []) C hw vX7_81 km0 (by decide) rfl (fun sz => c_X7_isGood hx hc sz) (by decide) rfl rfl hl.1 (Nat.le_of_ble_eq_true rfl) dX7_readPath_179 ⟨Nat.le_refl _, Nat.le_refl _⟩ (fun H locs hw => ?_)
  refine lv_if_ne (tgt := 186) C.1.1 C.1.2.1 dX7_readPath_182 (by decide) (fun hc => ?_) (fun hc => ?_)
  · replace h := ite_neg' h hc
    refine lv_aload_n C.1.1 C.1.2.1 dX7_readPath_186 rfl (lv_at hl 0 rfl) ?_
    refine r_getR (v := .ref (ad 25)) C hw km0 fX7_290 rfl (hm36 hx) dX7_readPath_187 ?_
    refine lv_sipush (v := 160) C.1.1 C.1.2.1 dX7_readPath_190 (by decide) ?_
    refine lv_aload_n C.1.1 C.1.2.1 dX7_readPath_193 rfl (lv_at hl 0 rfl) ?_
    refine r_getI C hw km0 fX7_211 rfl dX7_readPath_194 ?_
    refine lv_imul C.1.1 C.1.2.1 dX7_readPath_197 ?_
    refine lv_aload_n C.1.1 C.1.2.1 dX7_readPath_198 rfl (lv_at hl 0 rfl) ?_
    refine r_getI C hw km0 fX7_220 rfl dX7_readPath_199 ?_
    refine lv_iadd C.1.1 C.1.2.1 dX7_readPath_202 ?_
    refine lv_iload C.1.1 C.1.2.1 dX7_readPath_203 (lv_at hl 5 rfl) ?_
    refine lv_iconst (v := 5) C.1.1 C.1.2.1 dX7_readPath_205 (by decide) ?_
    refine lv_iload_n C.1.1 C.1.2.1 dX7_readPath_206 rfl (lv_at hl 2 rfl) ?_
    refine lv_imul C.1.1 C.1.2.1 dX7_readPath_207 ?_
    refine lv_isub C.1.1 C.1.2.1 dX7_readPath_208 ?_
    obtain ⟨hz, h⟩ := ck_some h
    refine r_iast C hw km25 (inB_in hz) dX7_readPath_209 (fun H locs hw => ?_)
    refine lt_gen (P := fun g => WS D cA ev hr ad A KM s H locs g) h hw (fun g_3 h hw => ?_)
    refine lv_aload_n C.1.1 C.1.2.1 dX7_readPath_210 rfl (lv_at hl 0 rfl) ?_
    refine lv_dup C.1.1 C.1.2.1 dX7_readPath_211 rfl ?_
    refine r_getI C hw km0 fX7_220 rfl dX7_readPath_212 ?_
    refine lv_iconst (v := 1) C.1.1 C.1.2.1 dX7_readPath_215 (by decide) ?_
    refine lv_iadd C.1.1 C.1.2.1 dX7_readPath_216 ?_
    refine r_putI C hw km0 fX7_220 rfl rfl (Or.inl rfl) dX7_readPath_217 (fun H locs hw => ?_)
    refine lt_gen (P := fun g => WS D cA ev hr ad A KM s H locs g) h hw (fun g_4 h hw => ?_)
    refine lv_iinc (v := x4 + 1) (lv' := [(4, .int (x4 + 1)), (0, .ref (ad 0)), (2, .int x2), (3, .int x3), (5, .int x5), (7, .int x7)]) C.1.1 C.1.2.1 dX7_readPath_220 hl (k := 3) rfl rfl (by decide) rfl (fun ls hl => ?_)
    refine lt_gen (P := fun x => lv_has ls 8 [(4, .int x), (0, .ref (ad 0)), (2, .int x2), (3, .int x3), (5, .int x5), (7, .int x7)]) h hl (fun x4_5 h hl => ?_)
    refine lv_iload C.1.1 C.1.2.1 dX7_readPath_223 (lv_at hl 4 rfl) ?_
    refine lv_if_eq (tgt := 240) C.1.1 C.1.2.1 dX7_readPath_225 (by decide) (fun hc => ?_) (fun hc => ?_)
    · replace h := ite_pos' h hc
      exact w_X7_readPath_240 kb79 hk79 C hx hw (lv_sub hl [1, 2, 3, 0, 4] rfl) h
    · replace h := ite_neg' h hc
      refine lv_aload_n C.1.1 C.1.2.1 dX7_readPath_228 rfl (lv_at hl 1 rfl) ?_
      refine r_getR (v := .ref (ad 7)) C hw km0 fX7_175 rfl (hm16 hx) dX7_readPath_229 ?_
      refine lv_iload C.1.1 C.1.2.1 dX7_readPath_232 (lv_at hl 5 rfl) ?_
      obtain ⟨hz, h⟩ := ck_some h
      refine r_iald C hw km7 (inB_in hz) dX7_readPath_234 ?_
      refine lv_istore_n (lv' := [(3, .int (gi g_4 7 x7.toNatClampNeg)), (4, .int x4_5), (0, .ref (ad 0)), (2, .int x2), (5, .int x5), (7, .int x7)]) C.1.1 C.1.2.1 dX7_readPath_235 rfl hl (by decide) rfl (fun ls hl => ?_)
      refine lt_gen (P := fun x => lv_has ls 8 [(3, .int x), (4, .int x4_5), (0, .ref (ad 0)), (2, .int x2), (5, .int x5), (7, .int x7)]) h hl (fun x3_6 h hl => ?_)
      refine lv_aload_n C.1.1 C.1.2.1 dX7_readPath_236 rfl (lv_at hl 2 rfl) ?_
      obtain ⟨g_7, hc, h⟩ := bnd_some h
      refine r_vV (dc := 2) (As := []) (rest := []) C hw vX7_85 km0 (by decide) rfl (fun sz => c_X7_next hx hc sz) (by decide) rfl rfl hl.1 (Nat.le_of_ble_eq_true rfl) dX7_readPath_237 ⟨Nat.le_refl _, Nat.le_refl _⟩ (fun H locs hw => ?_)
      exact w_X7_readPath_240 kb79 hk79 C hx hw (lv_sub hl [2, 3, 0, 1, 4] rfl) h
  · replace h := ite_pos' h hc
    cases h
    exact r_vret C hw rfl dX7_readPath_185
set_option maxHeartbeats 4000000 in
set_option maxRecDepth 100000 in
theorem w_X7_readPath_171 {x2 : Int32} {x3 : Int32} {x4 : Int32} {x5 : Int32} {x6 : Int32} {x7 : Int32} {g : GM} {gz : GM} (kb79 : Int32 × Int32 × Int32 × GM → Option (GM)) (hk79 : ∀ (x3 : Int32) (x4 : Int32) (x5 : Int32) (g : GM) (H : Heap) (locs : List Loc) (ls : Array Slot), WS D cA ev hr ad A KM s H locs g → lv_has ls 8 [(0, .ref (ad 0)), (2, .int x2), (3, .int x3), (4, .int x4), (5, .int x5)] → kb79 (x3, x4, x5, g) = some gz → W p l e (RM 3 0 0) s m args below meth c H locs 0 0 (MQ below (QV D cA ev hr ad A KM gz) args s 0 0 A) (F0 m 79 ls [])) (C : CX p s m args meth c RX7 yX7_readPath cX7_readPath 8 none D cA) (hx : HM hr ad) {H : Heap} {locs : List Loc} (hw : WS D cA ev hr ad A KM s H locs g) {ls : Array Slot} (hl : lv_has ls 8 [(0, .ref (ad 0)), (2, .int x2), (3, .int x3), (4, .int x4), (5, .int x5), (6, .int x6), (7, .int x7)]) (h : F_X7_readPath_171 kb79 x2 x3 x4 x5 x6 x7 g = some gz) : W p l e (RM 3 0 0) s m args below meth c H locs 0 0 (MQ below (QV D cA ev hr ad A KM gz) args s 0 0 A) (F0 m 171 ls []) := by
  refine lv_aload_n C.1.1 C.1.2.1 dX7_readPath_171 rfl (lv_at hl 0 rfl) ?_
  refine lv_iconst (v := 4) C.1.1 C.1.2.1 dX7_readPath_172 (by decide) ?_
  refine lv_iload C.1.1 C.1.2.1 dX7_readPath_173 (lv_at hl 5 rfl) ?_
  obtain ⟨g_8, hc, h⟩ := bnd_some h
  refine r_vV (dc := 1) (As := [.int 4, .int x6]) (rest := []) C hw vX7_77 km0 (by decide) rfl (fun sz => c_X7_fails hx hc sz) (by decide) rfl rfl hl.1 (Nat.le_of_ble_eq_true rfl) dX7_readPath_175 ⟨Nat.le_refl _, Nat.le_refl _⟩ (fun H locs hw => ?_)
  exact w_X7_readPath_178 kb79 hk79 C hx hw (lv_sub hl [0, 1, 2, 3, 4, 6] rfl) h
set_option maxHeartbeats 4000000 in
set_option maxRecDepth 100000 in
theorem w_X7_readPath_166 {x2 : Int32} {x3 : Int32} {x4 : Int32} {x5 : Int32} {x6 : Int32} {x7 : Int32} {s0 : Int32} {g : GM} {gz : GM} (kb79 : Int32 × Int32 × Int32 × GM → Option (GM)) (hk79 : ∀ (x3 : Int32) (x4 : Int32) (x5 : Int32) (g : GM) (H : Heap) (locs : List Loc) (ls : Array Slot), WS D cA ev hr ad A KM s H locs g → lv_has ls 8 [(0, .ref (ad 0)), (2, .int x2), (3, .int x3), (4, .int x4), (5, .int x5)] → kb79 (x3, x4, x5, g) = some gz → W p l e (RM 3 0 0) s m args below meth c H locs 0 0 (MQ below (QV D cA ev hr ad A KM gz) args s 0 0 A) (F0 m 79 ls [])) (C : CX p s m args meth c RX7 yX7_readPath cX7_readPath 8 none D cA) (hx : HM hr ad) {H : Heap} {locs : List Loc} (hw : WS D cA ev hr ad A KM s H locs g) {ls : Array Slot} (hl : lv_has ls 8 [(0, .ref (ad 0)), (2, .int x2), (3, .int x3), (4, .int x4), (5, .int x5), (6, .int x6), (7, .int x7)]) (h : F_X7_readPath_166 kb79 x2 x3 x4 x5 x6 x7 s0 g = some gz) : W p l e (RM 3 0 0) s m args below meth c H locs 0 0 (MQ below (QV D cA ev hr ad A KM gz) args s 0 0 A) (F0 m 166 ls [.int s0]) := by
  refine lv_iload C.1.1 C.1.2.1 dX7_readPath_166 (lv_at hl 4 rfl) ?_
  refine lv_icmp_eq (tgt := 178) C.1.1 C.1.2.1 dX7_readPath_168 (by decide) (fun hc => ?_) (fun hc => ?_)
  · replace h := ite_pos' h hc
    exact w_X7_readPath_178 kb79 hk79 C hx hw (lv_sub hl [0, 1, 2, 3, 4, 6] rfl) h
  · replace h := ite_neg' h hc
    exact w_X7_readPath_171 kb79 hk79 C hx hw hl h
set_option maxHeartbeats 4000000 in
set_option maxRecDepth 100000 in
theorem w_X7_readPath_109 {x2 : Int32} {x3 : Int32} {x4 : Int32} {g : GM} {gz : GM} (kb79 : Int32 × Int32 × Int32 × GM → Option (GM)) (hk79 : ∀ (x3 : Int32) (x4 : Int32) (x5 : Int32) (g : GM) (H : Heap) (locs : List Loc) (ls : Array Slot), WS D cA ev hr ad A KM s H locs g → lv_has ls 8 [(0, .ref (ad 0)), (2, .int x2), (3, .int x3), (4, .int x4), (5, .int x5)] → kb79 (x3, x4, x5, g) = some gz → W p l e (RM 3 0 0) s m args below meth c H locs 0 0 (MQ below (QV D cA ev hr ad A KM gz) args s 0 0 A) (F0 m 79 ls [])) (C : CX p s m args meth c RX7 yX7_readPath cX7_readPath 8 none D cA) (hx : HM hr ad) {H : Heap} {locs : List Loc} (hw : WS D cA ev hr ad A KM s H locs g) {ls : Array Slot} (hl : lv_has ls 8 [(0, .ref (ad 0)), (2, .int x2), (3, .int x3), (4, .int x4)]) (h : F_X7_readPath_109 kb79 x2 x3 x4 g = some gz) : W p l e (RM 3 0 0) s m args below meth c H locs 0 0 (MQ below (QV D cA ev hr ad A KM gz) args s 0 0 A) (F0 m 109 ls []) := by
  refine lv_aload_n C.1.1 C.1.2.1 dX7_readPath_109 rfl (lv_at hl 0 rfl) ?_
  obtain ⟨r_9, hc, h⟩ := bnd_some h
  refine r_vI (dc := 1) (As := []) (rest := []) C hw vX7_81 km0 (by decide) rfl (fun sz => c_X7_isGood hx hc sz) (by decide) rfl rfl hl.1 (Nat.le_of_ble_eq_true rfl) dX7_readPath_110 ⟨Nat.le_refl _, Nat.le_refl _⟩ (fun H locs hw => ?_)
  refine lv_if_ne (tgt := 117) C.1.1 C.1.2.1 dX7_readPath_113 (by decide) (fun hc => ?_) (fun hc => ?_)
  · replace h := ite_neg' h hc
    refine lv_aload_n C.1.1 C.1.2.1 dX7_readPath_117 rfl (lv_at hl 0 rfl) ?_
    refine r_getI C hw km0 fX7_46 rfl dX7_readPath_118 ?_
    refine lv_istore (lv' := [(6, .int (gi g 0 6)), (0, .ref (ad 0)), (2, .int x2), (3, .int x3), (4, .int x4)]) C.1.1 C.1.2.1 dX7_readPath_121 hl (by decide) rfl (fun ls hl => ?_)
    refine lt_gen (P := fun x => lv_has ls 8 [(6, .int x), (0, .ref (ad 0)), (2, .int x2), (3, .int x3), (4, .int x4)]) h hl (fun x6_10 h hl => ?_)
    refine lv_aload_n C.1.1 C.1.2.1 dX7_readPath_123 rfl (lv_at hl 1 rfl) ?_
    refine lv_iload_n C.1.1 C.1.2.1 dX7_readPath_124 rfl (lv_at hl 3 rfl) ?_
    refine lv_aload_n C.1.1 C.1.2.1 dX7_readPath_125 rfl (lv_at hl 1 rfl) ?_
    refine r_getL C hw km0 fX7_60 rfl dX7_readPath_126 ?_
    obtain ⟨r_11, hc, h⟩ := bnd_some h
    refine r_vI (dc := 1) (As := [.int x3, .long (gl g 0 10)]) (rest := []) C hw vX7_172 km0 (by decide) rfl (fun sz => c_X7_columnOf hx hc sz) (by decide) rfl rfl hl.1 (Nat.le_of_ble_eq_true rfl) dX7_readPath_129 ⟨Nat.le_refl _, Nat.le_refl _⟩ (fun H locs hw => ?_)
    refine lv_istore (lv' := [(7, .int r_11), (6, .int x6_10), (0, .ref (ad 0)), (2, .int x2), (3, .int x3), (4, .int x4)]) C.1.1 C.1.2.1 dX7_readPath_132 hl (by decide) rfl (fun ls hl => ?_)
    refine lt_gen (P := fun x => lv_has ls 8 [(7, .int x), (6, .int x6_10), (0, .ref (ad 0)), (2, .int x2), (3, .int x3), (4, .int x4)]) h hl (fun x7_12 h hl => ?_)
    refine lv_aload_n C.1.1 C.1.2.1 dX7_readPath_134 rfl (lv_at hl 2 rfl) ?_
    obtain ⟨g_13, hc, h⟩ := bnd_some h
    refine r_vV (dc := 2) (As := []) (rest := []) C hw vX7_85 km0 (by decide) rfl (fun sz => c_X7_next hx hc sz) (by decide) rfl rfl hl.1 (Nat.le_of_ble_eq_true rfl) dX7_readPath_135 ⟨Nat.le_refl _, Nat.le_refl _⟩ (fun H locs hw => ?_)
    refine lv_aload_n C.1.1 C.1.2.1 dX7_readPath_138 rfl (lv_at hl 2 rfl) ?_
    refine lv_bipush (v := 46) C.1.1 C.1.2.1 dX7_readPath_139 (by decide) ?_
    obtain ⟨r_14, hc, h⟩ := bnd_some h
    refine r_vI (dc := 2) (As := [.int 46]) (rest := []) C hw vX7_163 km0 (by decide) rfl (fun sz => c_X7_is hx hc sz) (by decide) rfl rfl hl.1 (Nat.le_of_ble_eq_true rfl) dX7_readPath_141 ⟨Nat.le_refl _, Nat.le_refl _⟩ (fun H locs hw => ?_)
    refine lv_istore (lv' := [(5, .int r_14), (7, .int x7_12), (6, .int x6_10), (0, .ref (ad 0)), (2, .int x2), (3, .int x3), (4, .int x4)]) C.1.1 C.1.2.1 dX7_readPath_144 hl (by decide) rfl (fun ls hl => ?_)
    refine lt_gen (P := fun x => lv_has ls 8 [(5, .int x), (7, .int x7_12), (6, .int x6_10), (0, .ref (ad 0)), (2, .int x2), (3, .int x3), (4, .int x4)]) h hl (fun x5_15 h hl => ?_)
    refine lv_iload C.1.1 C.1.2.1 dX7_readPath_146 (lv_at hl 1 rfl) ?_
    refine lv_if_lt (tgt := 171) C.1.1 C.1.2.1 dX7_readPath_148 (by decide) (fun hc => ?_) (fun hc => ?_)
    · replace h := ite_pos' h hc
      exact w_X7_readPath_171 kb79 hk79 C hx hw (lv_sub hl [3, 4, 5, 6, 0, 2, 1] rfl) h
    · replace h := ite_neg' h hc
      refine lv_aload_n C.1.1 C.1.2.1 dX7_readPath_151 rfl (lv_at hl 3 rfl) ?_
      refine r_getR (v := .ref (ad 7)) C hw km0 fX7_175 rfl (hm16 hx) dX7_readPath_152 ?_
      refine lv_iload C.1.1 C.1.2.1 dX7_readPath_155 (lv_at hl 1 rfl) ?_
      obtain ⟨hz, h⟩ := ck_some h
      refine r_iald C hw km7 (inB_in hz) dX7_readPath_157 ?_
      refine lv_if_lt (tgt := 165) C.1.1 C.1.2.1 dX7_readPath_158 (by decide) (fun hc => ?_) (fun hc => ?_)
      · replace h := ite_pos' h hc
        refine lv_iconst (v := 0) C.1.1 C.1.2.1 dX7_readPath_165 (by decide) ?_
        exact w_X7_readPath_166 kb79 hk79 C hx hw (lv_sub hl [3, 4, 5, 6, 0, 2, 1] rfl) h
      · replace h := ite_neg' h hc
        refine lv_iconst (v := 1) C.1.1 C.1.2.1 dX7_readPath_161 (by decide) ?_
        refine lv_goto (tgt := 166) C.1.1 C.1.2.1 dX7_readPath_162 (by decide) ?_
        exact w_X7_readPath_166 kb79 hk79 C hx hw (lv_sub hl [3, 4, 5, 6, 0, 2, 1] rfl) h
  · replace h := ite_pos' h hc
    cases h
    exact r_vret C hw rfl dX7_readPath_116
set_option maxHeartbeats 4000000 in
set_option maxRecDepth 100000 in
theorem w_X7_readPath_105 {x2 : Int32} {x3 : Int32} {x4 : Int32} {g : GM} {gz : GM} (kb79 : Int32 × Int32 × Int32 × GM → Option (GM)) (hk79 : ∀ (x3 : Int32) (x4 : Int32) (x5 : Int32) (g : GM) (H : Heap) (locs : List Loc) (ls : Array Slot), WS D cA ev hr ad A KM s H locs g → lv_has ls 8 [(0, .ref (ad 0)), (2, .int x2), (3, .int x3), (4, .int x4), (5, .int x5)] → kb79 (x3, x4, x5, g) = some gz → W p l e (RM 3 0 0) s m args below meth c H locs 0 0 (MQ below (QV D cA ev hr ad A KM gz) args s 0 0 A) (F0 m 79 ls [])) (C : CX p s m args meth c RX7 yX7_readPath cX7_readPath 8 none D cA) (hx : HM hr ad) {H : Heap} {locs : List Loc} (hw : WS D cA ev hr ad A KM s H locs g) {ls : Array Slot} (hl : lv_has ls 8 [(0, .ref (ad 0)), (2, .int x2), (3, .int x3), (4, .int x4)]) (h : F_X7_readPath_105 kb79 x2 x3 x4 g = some gz) : W p l e (RM 3 0 0) s m args below meth c H locs 0 0 (MQ below (QV D cA ev hr ad A KM gz) args s 0 0 A) (F0 m 105 ls []) := by
  refine lv_aload_n C.1.1 C.1.2.1 dX7_readPath_105 rfl (lv_at hl 0 rfl) ?_
  obtain ⟨g_16, hc, h⟩ := bnd_some h
  refine r_vV (dc := 2) (As := []) (rest := []) C hw vX7_89 km0 (by decide) rfl (fun sz => c_X7_wrong hx hc sz) (by decide) rfl rfl hl.1 (Nat.le_of_ble_eq_true rfl) dX7_readPath_106 ⟨Nat.le_refl _, Nat.le_refl _⟩ (fun H locs hw => ?_)
  exact w_X7_readPath_109 kb79 hk79 C hx hw hl h
set_option maxHeartbeats 4000000 in
set_option maxRecDepth 100000 in
theorem w_X7_readPath_79 {x2 : Int32} {gz : GM} (kb79 : Int32 × Int32 × Int32 × GM → Option (GM)) (hk79 : ∀ (x3 : Int32) (x4 : Int32) (x5 : Int32) (g : GM) (H : Heap) (locs : List Loc) (ls : Array Slot), WS D cA ev hr ad A KM s H locs g → lv_has ls 8 [(0, .ref (ad 0)), (2, .int x2), (3, .int x3), (4, .int x4), (5, .int x5)] → kb79 (x3, x4, x5, g) = some gz → W p l e (RM 3 0 0) s m args below meth c H locs 0 0 (MQ below (QV D cA ev hr ad A KM gz) args s 0 0 A) (F0 m 79 ls [])) (C : CX p s m args meth c RX7 yX7_readPath cX7_readPath 8 none D cA) (hx : HM hr ad) {H : Heap} {locs : List Loc} {x3 : Int32} {x4 : Int32} {x5 : Int32} {g : GM} (hw : WS D cA ev hr ad A KM s H locs g) {ls : Array Slot} (hl : lv_has ls 8 [(0, .ref (ad 0)), (2, .int x2), (3, .int x3), (4, .int x4), (5, .int x5)]) (h : F_X7_readPath_79B x2 kb79 (x3, x4, x5, g) = some gz) : W p l e (RM 3 0 0) s m args below meth c H locs 0 0 (MQ below (QV D cA ev hr ad A KM gz) args s 0 0 A) (F0 m 79 ls []) := by
  refine lv_iload C.1.1 C.1.2.1 dX7_readPath_79 (lv_at hl 4 rfl) ?_
  refine lv_if_eq (tgt := 243) C.1.1 C.1.2.1 dX7_readPath_81 (by decide) (fun hc => ?_) (fun hc => ?_)
  · replace h := ite_pos' h hc
    exact w_X7_readPath_243 C hx hw (lv_sub hl [0, 1] rfl) h
  · replace h := ite_neg' h hc
    refine lv_aload_n C.1.1 C.1.2.1 dX7_readPath_84 rfl (lv_at hl 0 rfl) ?_
    obtain ⟨r_17, hc, h⟩ := bnd_some h
    refine r_vI (dc := 1) (As := []) (rest := []) C hw vX7_81 km0 (by decide) rfl (fun sz => c_X7_isGood hx hc sz) (by decide) rfl rfl hl.1 (Nat.le_of_ble_eq_true rfl) dX7_readPath_85 ⟨Nat.le_refl _, Nat.le_refl _⟩ (fun H locs hw => ?_)
    refine lv_if_eq (tgt := 243) C.1.1 C.1.2.1 dX7_readPath_88 (by decide) (fun hc => ?_) (fun hc => ?_)
    · replace h := ite_pos' h hc
      exact w_X7_readPath_243 C hx hw (lv_sub hl [0, 1] rfl) h
    · replace h := ite_neg' h hc
      refine lv_aload_n C.1.1 C.1.2.1 dX7_readPath_91 rfl (lv_at hl 0 rfl) ?_
      refine r_getI C hw km0 fX7_53 rfl dX7_readPath_92 ?_
      refine lv_iconst (v := 2) C.1.1 C.1.2.1 dX7_readPath_95 (by decide) ?_
      refine lv_icmp_ne (tgt := 105) C.1.1 C.1.2.1 dX7_readPath_96 (by decide) (fun hc => ?_) (fun hc => ?_)
      · replace h := ite_neg' h hc
        exact w_X7_readPath_105 kb79 hk79 C hx hw (lv_sub hl [0, 1, 2, 3] rfl) h
      · replace h := ite_pos' h hc
        refine lv_iload C.1.1 C.1.2.1 dX7_readPath_99 (lv_at hl 3 rfl) ?_
        refine lv_iconst (v := 4) C.1.1 C.1.2.1 dX7_readPath_101 (by decide) ?_
        refine lv_icmp_ne (tgt := 109) C.1.1 C.1.2.1 dX7_readPath_102 (by decide) (fun hc => ?_) (fun hc => ?_)
        · replace h := ite_neg' h hc
          exact w_X7_readPath_109 kb79 hk79 C hx hw (lv_sub hl [0, 1, 2, 3] rfl) h
        · replace h := ite_pos' h hc
          exact w_X7_readPath_105 kb79 hk79 C hx hw (lv_sub hl [0, 1, 2, 3] rfl) h
set_option maxHeartbeats 4000000 in
set_option maxRecDepth 100000 in
theorem w_X7_readPath_79L {x2 : Int32} {gz : GM} (C : CX p s m args meth c RX7 yX7_readPath cX7_readPath 8 none D cA) (hx : HM hr ad) : ∀ (n : Nat) (x3 : Int32) (x4 : Int32) (x5 : Int32) (g : GM) (H : Heap) (locs : List Loc) (ls : Array Slot), WS D cA ev hr ad A KM s H locs g → lv_has ls 8 [(0, .ref (ad 0)), (2, .int x2), (3, .int x3), (4, .int x4), (5, .int x5)] → fixN (F_X7_readPath_79B x2) n (x3, x4, x5, g) = some gz → W p l e (RM 3 0 0) s m args below meth c H locs 0 0 (MQ below (QV D cA ev hr ad A KM gz) args s 0 0 A) (F0 m 79 ls []) := by
  intro n
  induction n with
  | zero => intro x3 x4 x5 g H locs ls hw hl h; exact (fix_zero h).elim
  | succ n ih => intro x3 x4 x5 g H locs ls hw hl h; exact w_X7_readPath_79 (fixN (F_X7_readPath_79B x2) n) ih C hx hw hl h
set_option maxHeartbeats 4000000 in
set_option maxRecDepth 100000 in
theorem w_X7_readPath_21 {x1 : Int32} {g : GM} {gz : GM} (C : CX p s m args meth c RX7 yX7_readPath cX7_readPath 8 none D cA) (hx : HM hr ad) {H : Heap} {locs : List Loc} (hw : WS D cA ev hr ad A KM s H locs g) {ls : Array Slot} (hl : lv_has ls 8 [(0, .ref (ad 0)), (1, .int x1)]) (h : F_X7_readPath_21 x1 g = some gz) : W p l e (RM 3 0 0) s m args below meth c H locs 0 0 (MQ below (QV D cA ev hr ad A KM gz) args s 0 0 A) (F0 m 21 ls []) := by
  refine lv_aload_n C.1.1 C.1.2.1 dX7_readPath_21 rfl (lv_at hl 0 rfl) ?_
  obtain ⟨r_18, hc, h⟩ := bnd_some h
  refine r_vI (dc := 1) (As := []) (rest := []) C hw vX7_81 km0 (by decide) rfl (fun sz => c_X7_isGood hx hc sz) (by decide) rfl rfl hl.1 (Nat.le_of_ble_eq_true rfl) dX7_readPath_22 ⟨Nat.le_refl _, Nat.le_refl _⟩ (fun H locs hw => ?_)
  refine lv_if_ne (tgt := 29) C.1.1 C.1.2.1 dX7_readPath_25 (by decide) (fun hc => ?_) (fun hc => ?_)
  · replace h := ite_neg' h hc
    refine lv_bipush (v := 40) C.1.1 C.1.2.1 dX7_readPath_29 (by decide) ?_
    refine lv_aload_n C.1.1 C.1.2.1 dX7_readPath_31 rfl (lv_at hl 0 rfl) ?_
    refine r_getI C hw km0 fX7_211 rfl dX7_readPath_32 ?_
    refine lv_imul C.1.1 C.1.2.1 dX7_readPath_35 ?_
    refine lv_aload_n C.1.1 C.1.2.1 dX7_readPath_36 rfl (lv_at hl 0 rfl) ?_
    refine r_getI C hw km0 fX7_217 rfl dX7_readPath_37 ?_
    refine lv_iadd C.1.1 C.1.2.1 dX7_readPath_40 ?_
    refine lv_istore_n (lv' := [(2, .int ((40 * (gi g 0 38)) + (gi g 0 40))), (0, .ref (ad 0)), (1, .int x1)]) C.1.1 C.1.2.1 dX7_readPath_41 rfl hl (by decide) rfl (fun ls hl => ?_)
    refine lt_gen (P := fun x => lv_has ls 8 [(2, .int x), (0, .ref (ad 0)), (1, .int x1)]) h hl (fun x2_19 h hl => ?_)
    refine lv_aload_n C.1.1 C.1.2.1 dX7_readPath_42 rfl (lv_at hl 1 rfl) ?_
    refine r_getR (v := .ref (ad 23)) C hw km0 fX7_287 rfl (hm34 hx) dX7_readPath_43 ?_
    refine lv_iload_n C.1.1 C.1.2.1 dX7_readPath_46 rfl (lv_at hl 0 rfl) ?_
    refine lv_sipush (v := 160) C.1.1 C.1.2.1 dX7_readPath_47 (by decide) ?_
    refine lv_aload_n C.1.1 C.1.2.1 dX7_readPath_50 rfl (lv_at hl 1 rfl) ?_
    refine r_getI C hw km0 fX7_211 rfl dX7_readPath_51 ?_
    refine lv_imul C.1.1 C.1.2.1 dX7_readPath_54 ?_
    refine lv_aload_n C.1.1 C.1.2.1 dX7_readPath_55 rfl (lv_at hl 1 rfl) ?_
    refine r_getI C hw km0 fX7_220 rfl dX7_readPath_56 ?_
    refine lv_iadd C.1.1 C.1.2.1 dX7_readPath_59 ?_
    obtain ⟨hz, h⟩ := ck_some h
    refine r_iast C hw km23 (inB_in hz) dX7_readPath_60 (fun H locs hw => ?_)
    refine lt_gen (P := fun g => WS D cA ev hr ad A KM s H locs g) h hw (fun g_20 h hw => ?_)
    refine lv_aload_n C.1.1 C.1.2.1 dX7_readPath_61 rfl (lv_at hl 1 rfl) ?_
    refine lv_dup C.1.1 C.1.2.1 dX7_readPath_62 rfl ?_
    refine r_getI C hw km0 fX7_217 rfl dX7_readPath_63 ?_
    refine lv_iconst (v := 1) C.1.1 C.1.2.1 dX7_readPath_66 (by decide) ?_
    refine lv_iadd C.1.1 C.1.2.1 dX7_readPath_67 ?_
    refine r_putI C hw km0 fX7_217 rfl rfl (Or.inl rfl) dX7_readPath_68 (fun H locs hw => ?_)
    refine lt_gen (P := fun g => WS D cA ev hr ad A KM s H locs g) h hw (fun g_21 h hw => ?_)
    refine lv_iload_n C.1.1 C.1.2.1 dX7_readPath_71 rfl (lv_at hl 2 rfl) ?_
    refine lv_istore_n (lv' := [(3, .int x1), (2, .int x2_19), (0, .ref (ad 0)), (1, .int x1)]) C.1.1 C.1.2.1 dX7_readPath_72 rfl hl (by decide) rfl (fun ls hl => ?_)
    refine lv_iconst (v := 0) C.1.1 C.1.2.1 dX7_readPath_73 (by decide) ?_
    refine lv_istore (lv' := [(4, .int 0), (3, .int x1), (2, .int x2_19), (0, .ref (ad 0)), (1, .int x1)]) C.1.1 C.1.2.1 dX7_readPath_74 hl (by decide) rfl (fun ls hl => ?_)
    refine lv_iconst (v := 1) C.1.1 C.1.2.1 dX7_readPath_76 (by decide) ?_
    refine lv_istore (lv' := [(5, .int 1), (4, .int 0), (3, .int x1), (2, .int x2_19), (0, .ref (ad 0)), (1, .int x1)]) C.1.1 C.1.2.1 dX7_readPath_77 hl (by decide) rfl (fun ls hl => ?_)
    exact w_X7_readPath_79L C hx FU _ _ _ _ _ _ _ hw (lv_sub hl [4, 3, 2, 1, 0] rfl) h
  · replace h := ite_pos' h hc
    cases h
    exact r_vret C hw rfl dX7_readPath_28
set_option maxHeartbeats 4000000 in
set_option maxRecDepth 100000 in
theorem w_X7_readPath_17 {x1 : Int32} {g : GM} {gz : GM} (C : CX p s m args meth c RX7 yX7_readPath cX7_readPath 8 none D cA) (hx : HM hr ad) {H : Heap} {locs : List Loc} (hw : WS D cA ev hr ad A KM s H locs g) {ls : Array Slot} (hl : lv_has ls 8 [(0, .ref (ad 0)), (1, .int x1)]) (h : F_X7_readPath_17 x1 g = some gz) : W p l e (RM 3 0 0) s m args below meth c H locs 0 0 (MQ below (QV D cA ev hr ad A KM gz) args s 0 0 A) (F0 m 17 ls []) := by
  refine lv_aload_n C.1.1 C.1.2.1 dX7_readPath_17 rfl (lv_at hl 0 rfl) ?_
  obtain ⟨g_22, hc, h⟩ := bnd_some h
  refine r_vV (dc := 2) (As := []) (rest := []) C hw vX7_89 km0 (by decide) rfl (fun sz => c_X7_wrong hx hc sz) (by decide) rfl rfl hl.1 (Nat.le_of_ble_eq_true rfl) dX7_readPath_18 ⟨Nat.le_refl _, Nat.le_refl _⟩ (fun H locs hw => ?_)
  exact w_X7_readPath_21 C hx hw hl h
set_option maxHeartbeats 4000000 in
set_option maxRecDepth 100000 in
theorem w_X7_readPath_0 (C : CX p s m args meth c RX7 yX7_readPath cX7_readPath 8 none D cA) (hx : HM hr ad) {H : Heap} {locs : List Loc} {g : GM} (hw : WS D cA ev hr ad A KM s H locs g) {a1 : Int32} {ls : Array Slot} (hl : lv_has ls 8 [(0, .ref (ad 0)), (1, .int a1)]) {gz : GM} (h : F_X7_readPath a1 g = some gz) : W p l e (RM 3 0 0) s m args below meth c H locs 0 0 (MQ below (QV D cA ev hr ad A KM gz) args s 0 0 A) (F0 m 0 ls []) := by
  refine lv_aload_n C.1.1 C.1.2.1 dX7_readPath_0 rfl (lv_at hl 0 rfl) ?_
  refine r_getI C hw km0 fX7_53 rfl dX7_readPath_1 ?_
  refine lv_iconst (v := 2) C.1.1 C.1.2.1 dX7_readPath_4 (by decide) ?_
  refine lv_icmp_ne (tgt := 17) C.1.1 C.1.2.1 dX7_readPath_5 (by decide) (fun hc => ?_) (fun hc => ?_)
  · replace h := ite_neg' h hc
    exact w_X7_readPath_17 C hx hw hl h
  · replace h := ite_pos' h hc
    refine lv_aload_n C.1.1 C.1.2.1 dX7_readPath_8 rfl (lv_at hl 0 rfl) ?_
    refine r_getI C hw km0 fX7_217 rfl dX7_readPath_9 ?_
    refine lv_bipush (v := 40) C.1.1 C.1.2.1 dX7_readPath_12 (by decide) ?_
    refine lv_icmp_ne (tgt := 21) C.1.1 C.1.2.1 dX7_readPath_14 (by decide) (fun hc => ?_) (fun hc => ?_)
    · replace h := ite_neg' h hc
      exact w_X7_readPath_21 C hx hw hl h
    · replace h := ite_pos' h hc
      exact w_X7_readPath_17 C hx hw hl h
set_option maxHeartbeats 4000000 in
set_option maxRecDepth 100000 in
theorem c_X7_readPath (hx : HM hr ad) {a1 : Int32} {g : GM} {gz : GM} (h : F_X7_readPath a1 g = some gz) (sz : Nat) : Met l yX7_readPath (WSX yX7_readPath cX7_readPath 8 none) (RM 3 0 0) (va_Pc [.ref (ad 0), .int a1] (PX D cA ev hr ad KM g sz)) (QV D cA ev hr ad (AX ad KM.length sz) KM gz) 0 0 (AX ad KM.length sz) :=
  met_of (own := RX7) pnX7 rfl (Nat.le_of_ble_eq_true rfl) (fun p e s m below meth c ls C hw hsz hl => w_X7_readPath_0 C hx hw hl h)
set_option maxHeartbeats 4000000 in
set_option maxRecDepth 100000 in
theorem w_X7_step_0 (C : CX p s m args meth c RX7 yX7_step cX7_step 3 none D cA) (hx : HM hr ad) {H : Heap} {locs : List Loc} {g : GM} (hw : WS D cA ev hr ad A KM s H locs g) {a1 : Int32} {a2 : Int32} {ls : Array Slot} (hl : lv_has ls 3 [(0, .ref (ad 0)), (1, .int a1), (2, .int a2)]) {gz : GM} (h : F_X7_step a1 a2 g = some gz) : W p l e (RM 1 0 0) s m args below meth c H locs 0 0 (MQ below (QV D cA ev hr ad A KM gz) args s 0 0 A) (F0 m 0 ls []) := by
  refine lv_aload_n C.1.1 C.1.2.1 dX7_step_0 rfl (lv_at hl 0 rfl) ?_
  refine r_getR (v := .ref (ad 21)) C hw km0 fX7_257 rfl (hm32 hx) dX7_step_1 ?_
  refine lv_sipush (v := 600) C.1.1 C.1.2.1 dX7_step_4 (by decide) ?_
  refine lv_aload_n C.1.1 C.1.2.1 dX7_step_7 rfl (lv_at hl 0 rfl) ?_
  refine r_getI C hw km0 fX7_211 rfl dX7_step_8 ?_
  refine lv_imul C.1.1 C.1.2.1 dX7_step_11 ?_
  refine lv_aload_n C.1.1 C.1.2.1 dX7_step_12 rfl (lv_at hl 0 rfl) ?_
  refine r_getI C hw km0 fX7_214 rfl dX7_step_13 ?_
  refine lv_iadd C.1.1 C.1.2.1 dX7_step_16 ?_
  refine lv_iload_n C.1.1 C.1.2.1 dX7_step_17 rfl (lv_at hl 1 rfl) ?_
  obtain ⟨hz, h⟩ := ck_some h
  refine r_iast C hw km21 (inB_in hz) dX7_step_18 (fun H locs hw => ?_)
  refine lt_gen (P := fun g => WS D cA ev hr ad A KM s H locs g) h hw (fun g_1 h hw => ?_)
  refine lv_aload_n C.1.1 C.1.2.1 dX7_step_19 rfl (lv_at hl 0 rfl) ?_
  refine r_getR (v := .ref (ad 22)) C hw km0 fX7_260 rfl (hm33 hx) dX7_step_20 ?_
  refine lv_sipush (v := 600) C.1.1 C.1.2.1 dX7_step_23 (by decide) ?_
  refine lv_aload_n C.1.1 C.1.2.1 dX7_step_26 rfl (lv_at hl 0 rfl) ?_
  refine r_getI C hw km0 fX7_211 rfl dX7_step_27 ?_
  refine lv_imul C.1.1 C.1.2.1 dX7_step_30 ?_
  refine lv_aload_n C.1.1 C.1.2.1 dX7_step_31 rfl (lv_at hl 0 rfl) ?_
  refine r_getI C hw km0 fX7_214 rfl dX7_step_32 ?_
  refine lv_iadd C.1.1 C.1.2.1 dX7_step_35 ?_
  refine lv_iload_n C.1.1 C.1.2.1 dX7_step_36 rfl (lv_at hl 2 rfl) ?_
  obtain ⟨hz, h⟩ := ck_some h
  refine r_iast C hw km22 (inB_in hz) dX7_step_37 (fun H locs hw => ?_)
  refine lt_gen (P := fun g => WS D cA ev hr ad A KM s H locs g) h hw (fun g_2 h hw => ?_)
  refine lv_aload_n C.1.1 C.1.2.1 dX7_step_38 rfl (lv_at hl 0 rfl) ?_
  refine lv_dup C.1.1 C.1.2.1 dX7_step_39 rfl ?_
  refine r_getI C hw km0 fX7_214 rfl dX7_step_40 ?_
  refine lv_iconst (v := 1) C.1.1 C.1.2.1 dX7_step_43 (by decide) ?_
  refine lv_iadd C.1.1 C.1.2.1 dX7_step_44 ?_
  refine r_putI C hw km0 fX7_214 rfl rfl (Or.inl rfl) dX7_step_45 (fun H locs hw => ?_)
  refine lt_gen (P := fun g => WS D cA ev hr ad A KM s H locs g) h hw (fun g_3 h hw => ?_)
  cases h
  exact r_vret C hw rfl dX7_step_48
set_option maxHeartbeats 4000000 in
set_option maxRecDepth 100000 in
theorem c_X7_step (hx : HM hr ad) {a1 : Int32} {a2 : Int32} {g : GM} {gz : GM} (h : F_X7_step a1 a2 g = some gz) (sz : Nat) : Met l yX7_step (WSX yX7_step cX7_step 3 none) (RM 1 0 0) (va_Pc [.ref (ad 0), .int a1, .int a2] (PX D cA ev hr ad KM g sz)) (QV D cA ev hr ad (AX ad KM.length sz) KM gz) 0 0 (AX ad KM.length sz) :=
  met_of (own := RX7) pnX7 rfl (Nat.le_of_ble_eq_true rfl) (fun p e s m below meth c ls C hw hsz hl => w_X7_step_0 C hx hw hl h)
set_option maxHeartbeats 4000000 in
set_option maxRecDepth 100000 in
theorem w_X7_one_34 {s0 : Int32} {g : GM} {r : Int32} {gz : GM} (C : CX p s m args meth c RX7 yX7_one cX7_one 3 (some .boolean) D cA) (hx : HM hr ad) {H : Heap} {locs : List Loc} (hw : WS D cA ev hr ad A KM s H locs g) {ls : Array Slot} (hl : lv_has ls 3 [(0, .ref (ad 0))]) (h : F_X7_one_34 s0 g = some (r, gz)) : W p l e (RM 4 0 0) s m args below meth c H locs 0 0 (MQ below (QI D cA ev hr ad A KM r gz) args s 0 0 A) (F0 m 34 ls [.int s0, .ref (ad 0)]) := by
  obtain ⟨g_1, hc, h⟩ := bnd_some h
  refine r_vV (dc := 1) (As := [.int s0]) (rest := []) C hw vX7_272 km0 (by decide) rfl (fun sz => c_X7_pile hx hc sz) (by decide) rfl rfl hl.1 (Nat.le_of_ble_eq_true rfl) dX7_one_34 ⟨Nat.le_refl _, Nat.le_refl _⟩ (fun H locs hw => ?_)
  refine lv_aload_n C.1.1 C.1.2.1 dX7_one_37 rfl (lv_at hl 0 rfl) ?_
  obtain ⟨g_2, hc, h⟩ := bnd_some h
  refine r_vV (dc := 2) (As := []) (rest := []) C hw vX7_85 km0 (by decide) rfl (fun sz => c_X7_next hx hc sz) (by decide) rfl rfl hl.1 (Nat.le_of_ble_eq_true rfl) dX7_one_38 ⟨Nat.le_refl _, Nat.le_refl _⟩ (fun H locs hw => ?_)
  refine lv_aload_n C.1.1 C.1.2.1 dX7_one_41 rfl (lv_at hl 0 rfl) ?_
  refine lv_dup C.1.1 C.1.2.1 dX7_one_42 rfl ?_
  refine r_getI C hw km0 fX7_269 rfl dX7_one_43 ?_
  refine lv_iconst (v := 1) C.1.1 C.1.2.1 dX7_one_46 (by decide) ?_
  refine lv_iadd C.1.1 C.1.2.1 dX7_one_47 ?_
  refine r_putI C hw km0 fX7_269 rfl rfl (Or.inl rfl) dX7_one_48 (fun H locs hw => ?_)
  refine lt_gen (P := fun g => WS D cA ev hr ad A KM s H locs g) h hw (fun g_3 h hw => ?_)
  refine lv_aload_n C.1.1 C.1.2.1 dX7_one_51 rfl (lv_at hl 0 rfl) ?_
  refine r_getI C hw km0 fX7_269 rfl dX7_one_52 ?_
  refine lv_bipush (v := 6) C.1.1 C.1.2.1 dX7_one_55 (by decide) ?_
  refine lv_icmp_lt (tgt := 64) C.1.1 C.1.2.1 dX7_one_57 (by decide) (fun hc => ?_) (fun hc => ?_)
  · replace h := ite_pos' h hc
    refine lv_iconst (v := 1) C.1.1 C.1.2.1 dX7_one_64 (by decide) ?_
    cases h
    exact r_iret C hw (Or.inr ⟨rfl, Or.inr rfl⟩) dX7_one_65
  · replace h := ite_neg' h hc
    refine lv_aload_n C.1.1 C.1.2.1 dX7_one_60 rfl (lv_at hl 0 rfl) ?_
    obtain ⟨g_4, hc, h⟩ := bnd_some h
    refine r_vV (dc := 2) (As := []) (rest := []) C hw vX7_89 km0 (by decide) rfl (fun sz => c_X7_wrong hx hc sz) (by decide) rfl rfl hl.1 (Nat.le_of_ble_eq_true rfl) dX7_one_61 ⟨Nat.le_refl _, Nat.le_refl _⟩ (fun H locs hw => ?_)
    refine lv_iconst (v := 1) C.1.1 C.1.2.1 dX7_one_64 (by decide) ?_
    cases h
    exact r_iret C hw (Or.inr ⟨rfl, Or.inr rfl⟩) dX7_one_65
set_option maxHeartbeats 4000000 in
set_option maxRecDepth 100000 in
theorem w_X7_one_19 {g : GM} {r : Int32} {gz : GM} (C : CX p s m args meth c RX7 yX7_one cX7_one 3 (some .boolean) D cA) (hx : HM hr ad) {H : Heap} {locs : List Loc} (hw : WS D cA ev hr ad A KM s H locs g) {ls : Array Slot} (hl : lv_has ls 3 [(0, .ref (ad 0))]) (h : F_X7_one_19 g = some (r, gz)) : W p l e (RM 4 0 0) s m args below meth c H locs 0 0 (MQ below (QI D cA ev hr ad A KM r gz) args s 0 0 A) (F0 m 19 ls []) := by
  refine lv_aload_n C.1.1 C.1.2.1 dX7_one_19 rfl (lv_at hl 0 rfl) ?_
  refine lv_aload_n C.1.1 C.1.2.1 dX7_one_20 rfl (lv_at hl 0 rfl) ?_
  refine lv_bipush (v := 40) C.1.1 C.1.2.1 dX7_one_21 (by decide) ?_
  obtain ⟨r_5, hc, h⟩ := bnd_some h
  refine r_vI (dc := 2) (As := [.int 40]) (rest := [.ref (ad 0)]) C hw vX7_163 km0 (by decide) rfl (fun sz => c_X7_is hx hc sz) (by decide) rfl rfl hl.1 (Nat.le_of_ble_eq_true rfl) dX7_one_23 ⟨Nat.le_refl _, Nat.le_refl _⟩ (fun H locs hw => ?_)
  refine lv_if_eq (tgt := 33) C.1.1 C.1.2.1 dX7_one_26 (by decide) (fun hc => ?_) (fun hc => ?_)
  · replace h := ite_pos' h hc
    refine lv_iconst (v := 3) C.1.1 C.1.2.1 dX7_one_33 (by decide) ?_
    exact w_X7_one_34 C hx hw hl h
  · replace h := ite_neg' h hc
    refine lv_iconst (v := 4) C.1.1 C.1.2.1 dX7_one_29 (by decide) ?_
    refine lv_goto (tgt := 34) C.1.1 C.1.2.1 dX7_one_30 (by decide) ?_
    exact w_X7_one_34 C hx hw hl h
set_option maxHeartbeats 4000000 in
set_option maxRecDepth 100000 in
theorem w_X7_one_205 {s0 : Int32} {s1 : Int32} {g : GM} {r : Int32} {gz : GM} (C : CX p s m args meth c RX7 yX7_one cX7_one 3 (some .boolean) D cA) (hx : HM hr ad) {H : Heap} {locs : List Loc} (hw : WS D cA ev hr ad A KM s H locs g) {ls : Array Slot} (hl : lv_has ls 3 [(0, .ref (ad 0))]) (h : F_X7_one_205 s0 s1 g = some (r, gz)) : W p l e (RM 4 0 0) s m args below meth c H locs 0 0 (MQ below (QI D cA ev hr ad A KM r gz) args s 0 0 A) (F0 m 205 ls [.int s0, .int s1, .ref (ad 0)]) := by
  obtain ⟨g_6, hc, h⟩ := bnd_some h
  refine r_vV (dc := 1) (As := [.int s1, .int s0]) (rest := []) C hw vX7_284 km0 (by decide) rfl (fun sz => c_X7_step hx hc sz) (by decide) rfl rfl hl.1 (Nat.le_of_ble_eq_true rfl) dX7_one_205 ⟨Nat.le_refl _, Nat.le_refl _⟩ (fun H locs hw => ?_)
  refine lv_aload_n C.1.1 C.1.2.1 dX7_one_208 rfl (lv_at hl 0 rfl) ?_
  obtain ⟨g_7, hc, h⟩ := bnd_some h
  refine r_vV (dc := 2) (As := []) (rest := []) C hw vX7_85 km0 (by decide) rfl (fun sz => c_X7_next hx hc sz) (by decide) rfl rfl hl.1 (Nat.le_of_ble_eq_true rfl) dX7_one_209 ⟨Nat.le_refl _, Nat.le_refl _⟩ (fun H locs hw => ?_)
  refine lv_iconst (v := 0) C.1.1 C.1.2.1 dX7_one_212 (by decide) ?_
  cases h
  exact r_iret C hw (Or.inr ⟨rfl, Or.inl rfl⟩) dX7_one_213
set_option maxHeartbeats 4000000 in
set_option maxRecDepth 100000 in
theorem w_X7_one_157 {x2 : Int32} {g : GM} {r : Int32} {gz : GM} (C : CX p s m args meth c RX7 yX7_one cX7_one 3 (some .boolean) D cA) (hx : HM hr ad) {H : Heap} {locs : List Loc} (hw : WS D cA ev hr ad A KM s H locs g) {ls : Array Slot} (hl : lv_has ls 3 [(0, .ref (ad 0)), (2, .int x2)]) (h : F_X7_one_157 x2 g = some (r, gz)) : W p l e (RM 4 0 0) s m args below meth c H locs 0 0 (MQ below (QI D cA ev hr ad A KM r gz) args s 0 0 A) (F0 m 157 ls []) := by
  refine lv_aload_n C.1.1 C.1.2.1 dX7_one_157 rfl (lv_at hl 0 rfl) ?_
  obtain ⟨r_8, hc, h⟩ := bnd_some h
  refine r_vI (dc := 1) (As := []) (rest := []) C hw vX7_81 km0 (by decide) rfl (fun sz => c_X7_isGood hx hc sz) (by decide) rfl rfl hl.1 (Nat.le_of_ble_eq_true rfl) dX7_one_158 ⟨Nat.le_refl _, Nat.le_refl _⟩ (fun H locs hw => ?_)
  refine lv_if_ne (tgt := 166) C.1.1 C.1.2.1 dX7_one_161 (by decide) (fun hc => ?_) (fun hc => ?_)
  · replace h := ite_neg' h hc
    refine lv_aload_n C.1.1 C.1.2.1 dX7_one_166 rfl (lv_at hl 0 rfl) ?_
    refine lv_bipush (v := 112) C.1.1 C.1.2.1 dX7_one_167 (by decide) ?_
    refine lv_bipush (v := 40) C.1.1 C.1.2.1 dX7_one_169 (by decide) ?_
    refine lv_aload_n C.1.1 C.1.2.1 dX7_one_171 rfl (lv_at hl 0 rfl) ?_
    refine r_getI C hw km0 fX7_211 rfl dX7_one_172 ?_
    refine lv_imul C.1.1 C.1.2.1 dX7_one_175 ?_
    refine lv_aload_n C.1.1 C.1.2.1 dX7_one_176 rfl (lv_at hl 0 rfl) ?_
    refine r_getI C hw km0 fX7_217 rfl dX7_one_177 ?_
    refine lv_iadd C.1.1 C.1.2.1 dX7_one_180 ?_
    refine lv_iconst (v := 1) C.1.1 C.1.2.1 dX7_one_181 (by decide) ?_
    refine lv_isub C.1.1 C.1.2.1 dX7_one_182 ?_
    obtain ⟨g_9, hc, h⟩ := bnd_some h
    refine r_vV (dc := 1) (As := [.int 112, .int (((40 * (gi g 0 38)) + (gi g 0 40)) - 1)]) (rest := []) C hw vX7_284 km0 (by decide) rfl (fun sz => c_X7_step hx hc sz) (by decide) rfl rfl hl.1 (Nat.le_of_ble_eq_true rfl) dX7_one_183 ⟨Nat.le_refl _, Nat.le_refl _⟩ (fun H locs hw => ?_)
    refine lv_aload_n C.1.1 C.1.2.1 dX7_one_186 rfl (lv_at hl 0 rfl) ?_
    refine lv_iload_n C.1.1 C.1.2.1 dX7_one_187 rfl (lv_at hl 1 rfl) ?_
    refine lv_aload_n C.1.1 C.1.2.1 dX7_one_188 rfl (lv_at hl 0 rfl) ?_
    refine lv_bipush (v := 45) C.1.1 C.1.2.1 dX7_one_189 (by decide) ?_
    obtain ⟨r_10, hc, h⟩ := bnd_some h
    refine r_vI (dc := 2) (As := [.int 45]) (rest := [.int x2, .ref (ad 0)]) C hw vX7_163 km0 (by decide) rfl (fun sz => c_X7_is hx hc sz) (by decide) rfl rfl hl.1 (Nat.le_of_ble_eq_true rfl) dX7_one_191 ⟨Nat.le_refl _, Nat.le_refl _⟩ (fun H locs hw => ?_)
    refine lv_if_eq (tgt := 201) C.1.1 C.1.2.1 dX7_one_194 (by decide) (fun hc => ?_) (fun hc => ?_)
    · replace h := ite_pos' h hc
      refine lv_aload_n C.1.1 C.1.2.1 dX7_one_201 rfl (lv_at hl 0 rfl) ?_
      refine r_getI C hw km0 fX7_71 rfl dX7_one_202 ?_
      exact w_X7_one_205 C hx hw (lv_sub hl [0] rfl) h
    · replace h := ite_neg' h hc
      refine lv_iconst (v := (-1)) C.1.1 C.1.2.1 dX7_one_197 (by decide) ?_
      refine lv_goto (tgt := 205) C.1.1 C.1.2.1 dX7_one_198 (by decide) ?_
      exact w_X7_one_205 C hx hw (lv_sub hl [0] rfl) h
  · replace h := ite_pos' h hc
    refine lv_iconst (v := 1) C.1.1 C.1.2.1 dX7_one_164 (by decide) ?_
    cases h
    exact r_iret C hw (Or.inr ⟨rfl, Or.inr rfl⟩) dX7_one_165
set_option maxHeartbeats 4000000 in
set_option maxRecDepth 100000 in
theorem w_X7_one_114 {g : GM} {r : Int32} {gz : GM} (C : CX p s m args meth c RX7 yX7_one cX7_one 3 (some .boolean) D cA) (hx : HM hr ad) {H : Heap} {locs : List Loc} (hw : WS D cA ev hr ad A KM s H locs g) {ls : Array Slot} (hl : lv_has ls 3 [(0, .ref (ad 0))]) (h : F_X7_one_114 g = some (r, gz)) : W p l e (RM 4 0 0) s m args below meth c H locs 0 0 (MQ below (QI D cA ev hr ad A KM r gz) args s 0 0 A) (F0 m 114 ls []) := by
  refine lv_aload_n C.1.1 C.1.2.1 dX7_one_114 rfl (lv_at hl 0 rfl) ?_
  obtain ⟨r_11, hc, h⟩ := bnd_some h
  refine r_vI (dc := 1) (As := []) (rest := []) C hw vX7_81 km0 (by decide) rfl (fun sz => c_X7_isGood hx hc sz) (by decide) rfl rfl hl.1 (Nat.le_of_ble_eq_true rfl) dX7_one_115 ⟨Nat.le_refl _, Nat.le_refl _⟩ (fun H locs hw => ?_)
  refine lv_if_ne (tgt := 123) C.1.1 C.1.2.1 dX7_one_118 (by decide) (fun hc => ?_) (fun hc => ?_)
  · replace h := ite_neg' h hc
    refine lv_aload_n C.1.1 C.1.2.1 dX7_one_123 rfl (lv_at hl 0 rfl) ?_
    refine lv_aload_n C.1.1 C.1.2.1 dX7_one_124 rfl (lv_at hl 0 rfl) ?_
    refine r_getI C hw km0 fX7_46 rfl dX7_one_125 ?_
    obtain ⟨r_12, hc, h⟩ := bnd_some h
    refine r_vI (dc := 1) (As := [.int (gi g 0 6)]) (rest := []) C hw vX7_49 km0 (by decide) rfl (fun sz => c_X7_sign hx hc sz) (by decide) rfl rfl hl.1 (Nat.le_of_ble_eq_true rfl) dX7_one_128 ⟨Nat.le_refl _, Nat.le_refl _⟩ (fun H locs hw => ?_)
    refine lv_istore_n (lv' := [(2, .int r_12), (0, .ref (ad 0))]) C.1.1 C.1.2.1 dX7_one_131 rfl hl (by decide) rfl (fun ls hl => ?_)
    refine lt_gen (P := fun x => lv_has ls 3 [(2, .int x), (0, .ref (ad 0))]) h hl (fun x2_13 h hl => ?_)
    refine lv_aload_n C.1.1 C.1.2.1 dX7_one_132 rfl (lv_at hl 1 rfl) ?_
    obtain ⟨g_14, hc, h⟩ := bnd_some h
    refine r_vV (dc := 2) (As := []) (rest := []) C hw vX7_85 km0 (by decide) rfl (fun sz => c_X7_next hx hc sz) (by decide) rfl rfl hl.1 (Nat.le_of_ble_eq_true rfl) dX7_one_133 ⟨Nat.le_refl _, Nat.le_refl _⟩ (fun H locs hw => ?_)
    refine lv_aload_n C.1.1 C.1.2.1 dX7_one_136 rfl (lv_at hl 1 rfl) ?_
    refine r_getI C hw km0 fX7_53 rfl dX7_one_137 ?_
    refine lv_iconst (v := 4) C.1.1 C.1.2.1 dX7_one_140 (by decide) ?_
    refine lv_icmp_eq (tgt := 157) C.1.1 C.1.2.1 dX7_one_141 (by decide) (fun hc => ?_) (fun hc => ?_)
    · replace h := ite_pos' h hc
      exact w_X7_one_157 C hx hw (lv_sub hl [1, 0] rfl) h
    · replace h := ite_neg' h hc
      refine lv_aload_n C.1.1 C.1.2.1 dX7_one_144 rfl (lv_at hl 1 rfl) ?_
      refine lv_bipush (v := 45) C.1.1 C.1.2.1 dX7_one_145 (by decide) ?_
      obtain ⟨r_15, hc, h⟩ := bnd_some h
      refine r_vI (dc := 2) (As := [.int 45]) (rest := []) C hw vX7_163 km0 (by decide) rfl (fun sz => c_X7_is hx hc sz) (by decide) rfl rfl hl.1 (Nat.le_of_ble_eq_true rfl) dX7_one_147 ⟨Nat.le_refl _, Nat.le_refl _⟩ (fun H locs hw => ?_)
      refine lv_if_ne (tgt := 157) C.1.1 C.1.2.1 dX7_one_150 (by decide) (fun hc => ?_) (fun hc => ?_)
      · replace h := ite_neg' h hc
        exact w_X7_one_157 C hx hw (lv_sub hl [1, 0] rfl) h
      · replace h := ite_pos' h hc
        refine lv_aload_n C.1.1 C.1.2.1 dX7_one_153 rfl (lv_at hl 1 rfl) ?_
        obtain ⟨g_16, hc, h⟩ := bnd_some h
        refine r_vV (dc := 2) (As := []) (rest := []) C hw vX7_89 km0 (by decide) rfl (fun sz => c_X7_wrong hx hc sz) (by decide) rfl rfl hl.1 (Nat.le_of_ble_eq_true rfl) dX7_one_154 ⟨Nat.le_refl _, Nat.le_refl _⟩ (fun H locs hw => ?_)
        exact w_X7_one_157 C hx hw (lv_sub hl [1, 0] rfl) h
  · replace h := ite_pos' h hc
    refine lv_iconst (v := 1) C.1.1 C.1.2.1 dX7_one_121 (by decide) ?_
    cases h
    exact r_iret C hw (Or.inr ⟨rfl, Or.inr rfl⟩) dX7_one_122
set_option maxHeartbeats 4000000 in
set_option maxRecDepth 100000 in
theorem w_X7_one_0 (C : CX p s m args meth c RX7 yX7_one cX7_one 3 (some .boolean) D cA) (hx : HM hr ad) {H : Heap} {locs : List Loc} {g : GM} (hw : WS D cA ev hr ad A KM s H locs g) {a1 : Int32} {ls : Array Slot} (hl : lv_has ls 3 [(0, .ref (ad 0)), (1, .int a1)]) {r : Int32} {gz : GM} (h : F_X7_one a1 g = some (r, gz)) : W p l e (RM 4 0 0) s m args below meth c H locs 0 0 (MQ below (QI D cA ev hr ad A KM r gz) args s 0 0 A) (F0 m 0 ls []) := by
  refine lv_aload_n C.1.1 C.1.2.1 dX7_one_0 rfl (lv_at hl 0 rfl) ?_
  refine lv_bipush (v := 40) C.1.1 C.1.2.1 dX7_one_1 (by decide) ?_
  obtain ⟨r_17, hc, h⟩ := bnd_some h
  refine r_vI (dc := 2) (As := [.int 40]) (rest := []) C hw vX7_163 km0 (by decide) rfl (fun sz => c_X7_is hx hc sz) (by decide) rfl rfl hl.1 (Nat.le_of_ble_eq_true rfl) dX7_one_3 ⟨Nat.le_refl _, Nat.le_refl _⟩ (fun H locs hw => ?_)
  refine lv_if_ne (tgt := 19) C.1.1 C.1.2.1 dX7_one_6 (by decide) (fun hc => ?_) (fun hc => ?_)
  · replace h := ite_neg' h hc
    exact w_X7_one_19 C hx hw (lv_sub hl [0] rfl) h
  · replace h := ite_pos' h hc
    refine lv_aload_n C.1.1 C.1.2.1 dX7_one_9 rfl (lv_at hl 0 rfl) ?_
    refine lv_ldc2 (v := 7237492) C.1.1 C.1.2.1 C.1.2.2.2.1 (C.w kc818) dX7_one_10 ?_
    obtain ⟨r_18, hc, h⟩ := bnd_some h
    refine r_vI (dc := 1) (As := [.long 7237492]) (rest := []) C hw vX7_125 km0 (by decide) rfl (fun sz => c_X7_isWord hx hc sz) (by decide) rfl rfl hl.1 (Nat.le_of_ble_eq_true rfl) dX7_one_13 ⟨Nat.le_refl _, Nat.le_refl _⟩ (fun H locs hw => ?_)
    refine lv_if_eq (tgt := 66) C.1.1 C.1.2.1 dX7_one_16 (by decide) (fun hc => ?_) (fun hc => ?_)
    · replace h := ite_pos' h hc
      refine lv_aload_n C.1.1 C.1.2.1 dX7_one_66 rfl (lv_at hl 0 rfl) ?_
      refine lv_aload_n C.1.1 C.1.2.1 dX7_one_67 rfl (lv_at hl 0 rfl) ?_
      refine r_getR (v := .ref (ad 15)) C hw km0 fX7_229 rfl (hm26 hx) dX7_one_68 ?_
      refine lv_iload_n C.1.1 C.1.2.1 dX7_one_71 rfl (lv_at hl 1 rfl) ?_
      obtain ⟨hz, h⟩ := ck_some h
      refine r_iald C hw km15 (inB_in hz) dX7_one_72 ?_
      obtain ⟨g_19, hc, h⟩ := bnd_some h
      refine r_vV (dc := 3) (As := [.int (gi g 15 a1.toNatClampNeg)]) (rest := []) C hw vX7_281 km0 (by decide) rfl (fun sz => c_X7_readPath hx hc sz) (by decide) rfl rfl hl.1 (Nat.le_of_ble_eq_true rfl) dX7_one_73 ⟨Nat.le_refl _, Nat.le_refl _⟩ (fun H locs hw => ?_)
      refine lv_aload_n C.1.1 C.1.2.1 dX7_one_76 rfl (lv_at hl 0 rfl) ?_
      obtain ⟨r_20, hc, h⟩ := bnd_some h
      refine r_vI (dc := 1) (As := []) (rest := []) C hw vX7_81 km0 (by decide) rfl (fun sz => c_X7_isGood hx hc sz) (by decide) rfl rfl hl.1 (Nat.le_of_ble_eq_true rfl) dX7_one_77 ⟨Nat.le_refl _, Nat.le_refl _⟩ (fun H locs hw => ?_)
      refine lv_if_eq (tgt := 114) C.1.1 C.1.2.1 dX7_one_80 (by decide) (fun hc => ?_) (fun hc => ?_)
      · replace h := ite_pos' h hc
        exact w_X7_one_114 C hx hw (lv_sub hl [0] rfl) h
      · replace h := ite_neg' h hc
        refine lv_aload_n C.1.1 C.1.2.1 dX7_one_83 rfl (lv_at hl 0 rfl) ?_
        refine lv_bipush (v := 60) C.1.1 C.1.2.1 dX7_one_84 (by decide) ?_
        obtain ⟨r_21, hc, h⟩ := bnd_some h
        refine r_vI (dc := 2) (As := [.int 60]) (rest := []) C hw vX7_163 km0 (by decide) rfl (fun sz => c_X7_is hx hc sz) (by decide) rfl rfl hl.1 (Nat.le_of_ble_eq_true rfl) dX7_one_86 ⟨Nat.le_refl _, Nat.le_refl _⟩ (fun H locs hw => ?_)
        refine lv_if_ne (tgt := 114) C.1.1 C.1.2.1 dX7_one_89 (by decide) (fun hc => ?_) (fun hc => ?_)
        · replace h := ite_neg' h hc
          exact w_X7_one_114 C hx hw (lv_sub hl [0] rfl) h
        · replace h := ite_pos' h hc
          refine lv_aload_n C.1.1 C.1.2.1 dX7_one_92 rfl (lv_at hl 0 rfl) ?_
          refine lv_bipush (v := 62) C.1.1 C.1.2.1 dX7_one_93 (by decide) ?_
          obtain ⟨r_22, hc, h⟩ := bnd_some h
          refine r_vI (dc := 2) (As := [.int 62]) (rest := []) C hw vX7_163 km0 (by decide) rfl (fun sz => c_X7_is hx hc sz) (by decide) rfl rfl hl.1 (Nat.le_of_ble_eq_true rfl) dX7_one_95 ⟨Nat.le_refl _, Nat.le_refl _⟩ (fun H locs hw => ?_)
          refine lv_if_ne (tgt := 114) C.1.1 C.1.2.1 dX7_one_98 (by decide) (fun hc => ?_) (fun hc => ?_)
          · replace h := ite_neg' h hc
            exact w_X7_one_114 C hx hw (lv_sub hl [0] rfl) h
          · replace h := ite_pos' h hc
            refine lv_aload_n C.1.1 C.1.2.1 dX7_one_101 rfl (lv_at hl 0 rfl) ?_
            refine lv_bipush (v := 61) C.1.1 C.1.2.1 dX7_one_102 (by decide) ?_
            obtain ⟨r_23, hc, h⟩ := bnd_some h
            refine r_vI (dc := 2) (As := [.int 61]) (rest := []) C hw vX7_163 km0 (by decide) rfl (fun sz => c_X7_is hx hc sz) (by decide) rfl rfl hl.1 (Nat.le_of_ble_eq_true rfl) dX7_one_104 ⟨Nat.le_refl _, Nat.le_refl _⟩ (fun H locs hw => ?_)
            refine lv_if_ne (tgt := 114) C.1.1 C.1.2.1 dX7_one_107 (by decide) (fun hc => ?_) (fun hc => ?_)
            · replace h := ite_neg' h hc
              exact w_X7_one_114 C hx hw (lv_sub hl [0] rfl) h
            · replace h := ite_pos' h hc
              refine lv_aload_n C.1.1 C.1.2.1 dX7_one_110 rfl (lv_at hl 0 rfl) ?_
              obtain ⟨g_24, hc, h⟩ := bnd_some h
              refine r_vV (dc := 2) (As := []) (rest := []) C hw vX7_89 km0 (by decide) rfl (fun sz => c_X7_wrong hx hc sz) (by decide) rfl rfl hl.1 (Nat.le_of_ble_eq_true rfl) dX7_one_111 ⟨Nat.le_refl _, Nat.le_refl _⟩ (fun H locs hw => ?_)
              exact w_X7_one_114 C hx hw (lv_sub hl [0] rfl) h
    · replace h := ite_neg' h hc
      exact w_X7_one_19 C hx hw (lv_sub hl [0] rfl) h
set_option maxHeartbeats 4000000 in
set_option maxRecDepth 100000 in
theorem c_X7_one (hx : HM hr ad) {a1 : Int32} {g : GM} {r : Int32} {gz : GM} (h : F_X7_one a1 g = some (r, gz)) (sz : Nat) : Met l yX7_one (WSX yX7_one cX7_one 3 (some .boolean)) (RM 4 0 0) (va_Pc [.ref (ad 0), .int a1] (PX D cA ev hr ad KM g sz)) (QI D cA ev hr ad (AX ad KM.length sz) KM r gz) 0 0 (AX ad KM.length sz) :=
  met_of (own := RX7) pnX7 rfl (Nat.le_of_ble_eq_true rfl) (fun p e s m below meth c ls C hw hsz hl => w_X7_one_0 C hx hw hl h)
set_option maxHeartbeats 4000000 in
set_option maxRecDepth 100000 in
theorem w_X7_behind_139 {x1 : Int32} {g : GM} {r : Int32} {gz : GM} (C : CX p s m args meth c RX7 yX7_behind cX7_behind 2 (some .boolean) D cA) (hx : HM hr ad) {H : Heap} {locs : List Loc} (hw : WS D cA ev hr ad A KM s H locs g) {ls : Array Slot} (hl : lv_has ls 2 [(0, .ref (ad 0)), (1, .int x1)]) (h : F_X7_behind_139 x1 g = some (r, gz)) : W p l e (RM 4 0 0) s m args below meth c H locs 0 0 (MQ below (QI D cA ev hr ad A KM r gz) args s 0 0 A) (F0 m 139 ls []) := by
  refine lv_iload_n C.1.1 C.1.2.1 dX7_behind_139 rfl (lv_at hl 1 rfl) ?_
  refine lv_if_le (tgt := 154) C.1.1 C.1.2.1 dX7_behind_140 (by decide) (fun hc => ?_) (fun hc => ?_)
  · replace h := ite_pos' h hc
    refine lv_aload_n C.1.1 C.1.2.1 dX7_behind_154 rfl (lv_at hl 0 rfl) ?_
    refine lv_dup C.1.1 C.1.2.1 dX7_behind_155 rfl ?_
    refine r_getI C hw km0 fX7_266 rfl dX7_behind_156 ?_
    refine lv_iconst (v := 1) C.1.1 C.1.2.1 dX7_behind_159 (by decide) ?_
    refine lv_isub C.1.1 C.1.2.1 dX7_behind_160 ?_
    refine r_putI C hw km0 fX7_266 rfl rfl (Or.inl rfl) dX7_behind_161 (fun H locs hw => ?_)
    refine lt_gen (P := fun g => WS D cA ev hr ad A KM s H locs g) h hw (fun g_1 h hw => ?_)
    refine lv_aload_n C.1.1 C.1.2.1 dX7_behind_164 rfl (lv_at hl 0 rfl) ?_
    refine r_getR (v := .ref (ad 26)) C hw km0 fX7_263 rfl (hm42 hx) dX7_behind_165 ?_
    refine lv_aload_n C.1.1 C.1.2.1 dX7_behind_168 rfl (lv_at hl 0 rfl) ?_
    refine r_getI C hw km0 fX7_266 rfl dX7_behind_169 ?_
    obtain ⟨hz, h⟩ := ck_some h
    refine r_iald C hw km26 (inB_in hz) dX7_behind_172 ?_
    refine lv_iconst (v := 4) C.1.1 C.1.2.1 dX7_behind_173 (by decide) ?_
    refine lv_icmp_ne (tgt := 197) C.1.1 C.1.2.1 dX7_behind_174 (by decide) (fun hc => ?_) (fun hc => ?_)
    · replace h := ite_neg' h hc
      refine lv_iconst (v := 0) C.1.1 C.1.2.1 dX7_behind_197 (by decide) ?_
      cases h
      exact r_iret C hw (Or.inr ⟨rfl, Or.inl rfl⟩) dX7_behind_198
    · replace h := ite_pos' h hc
      refine lv_aload_n C.1.1 C.1.2.1 dX7_behind_177 rfl (lv_at hl 0 rfl) ?_
      refine lv_dup C.1.1 C.1.2.1 dX7_behind_178 rfl ?_
      refine r_getI C hw km0 fX7_269 rfl dX7_behind_179 ?_
      refine lv_iconst (v := 1) C.1.1 C.1.2.1 dX7_behind_182 (by decide) ?_
      refine lv_isub C.1.1 C.1.2.1 dX7_behind_183 ?_
      refine r_putI C hw km0 fX7_269 rfl rfl (Or.inl rfl) dX7_behind_184 (fun H locs hw => ?_)
      refine lt_gen (P := fun g => WS D cA ev hr ad A KM s H locs g) h hw (fun g_2 h hw => ?_)
      refine lv_aload_n C.1.1 C.1.2.1 dX7_behind_187 rfl (lv_at hl 0 rfl) ?_
      refine lv_aload_n C.1.1 C.1.2.1 dX7_behind_188 rfl (lv_at hl 0 rfl) ?_
      refine lv_bipush (v := 41) C.1.1 C.1.2.1 dX7_behind_189 (by decide) ?_
      obtain ⟨r_3, hc, h⟩ := bnd_some h
      refine r_vI (dc := 2) (As := [.int 41]) (rest := [.ref (ad 0)]) C hw vX7_163 km0 (by decide) rfl (fun sz => c_X7_is hx hc sz) (by decide) rfl rfl hl.1 (Nat.le_of_ble_eq_true rfl) dX7_behind_191 ⟨Nat.le_refl _, Nat.le_refl _⟩ (fun H locs hw => ?_)
      obtain ⟨g_4, hc, h⟩ := bnd_some h
      refine r_vV (dc := 3) (As := [.int r_3]) (rest := []) C hw vX7_166 km0 (by decide) rfl (fun sz => c_X7_must hx hc sz) (by decide) rfl rfl hl.1 (Nat.le_of_ble_eq_true rfl) dX7_behind_194 ⟨Nat.le_refl _, Nat.le_refl _⟩ (fun H locs hw => ?_)
      refine lv_iconst (v := 0) C.1.1 C.1.2.1 dX7_behind_197 (by decide) ?_
      cases h
      exact r_iret C hw (Or.inr ⟨rfl, Or.inl rfl⟩) dX7_behind_198
  · replace h := ite_neg' h hc
    refine lv_aload_n C.1.1 C.1.2.1 dX7_behind_143 rfl (lv_at hl 0 rfl) ?_
    refine lv_iload_n C.1.1 C.1.2.1 dX7_behind_144 rfl (lv_at hl 1 rfl) ?_
    obtain ⟨g_5, hc, h⟩ := bnd_some h
    refine r_vV (dc := 1) (As := [.int x1]) (rest := []) C hw vX7_272 km0 (by decide) rfl (fun sz => c_X7_pile hx hc sz) (by decide) rfl rfl hl.1 (Nat.le_of_ble_eq_true rfl) dX7_behind_145 ⟨Nat.le_refl _, Nat.le_refl _⟩ (fun H locs hw => ?_)
    refine lv_aload_n C.1.1 C.1.2.1 dX7_behind_148 rfl (lv_at hl 0 rfl) ?_
    obtain ⟨g_6, hc, h⟩ := bnd_some h
    refine r_vV (dc := 2) (As := []) (rest := []) C hw vX7_85 km0 (by decide) rfl (fun sz => c_X7_next hx hc sz) (by decide) rfl rfl hl.1 (Nat.le_of_ble_eq_true rfl) dX7_behind_149 ⟨Nat.le_refl _, Nat.le_refl _⟩ (fun H locs hw => ?_)
    refine lv_iconst (v := 1) C.1.1 C.1.2.1 dX7_behind_152 (by decide) ?_
    cases h
    exact r_iret C hw (Or.inr ⟨rfl, Or.inr rfl⟩) dX7_behind_153
set_option maxHeartbeats 4000000 in
set_option maxRecDepth 100000 in
theorem w_X7_behind_132 {x1 : Int32} {s0 : Int32} {g : GM} {r : Int32} {gz : GM} (kb30 : GM → Option (Int32 × GM)) (hk30 : ∀ (g : GM) (H : Heap) (locs : List Loc) (ls : Array Slot), WS D cA ev hr ad A KM s H locs g → lv_has ls 2 [(0, .ref (ad 0)), (1, .int x1)] → kb30 g = some (r, gz) → W p l e (RM 4 0 0) s m args below meth c H locs 0 0 (MQ below (QI D cA ev hr ad A KM r gz) args s 0 0 A) (F0 m 30 ls [])) (C : CX p s m args meth c RX7 yX7_behind cX7_behind 2 (some .boolean) D cA) (hx : HM hr ad) {H : Heap} {locs : List Loc} (hw : WS D cA ev hr ad A KM s H locs g) {ls : Array Slot} (hl : lv_has ls 2 [(0, .ref (ad 0)), (1, .int x1)]) (h : F_X7_behind_132 kb30 x1 s0 g = some (r, gz)) : W p l e (RM 4 0 0) s m args below meth c H locs 0 0 (MQ below (QI D cA ev hr ad A KM r gz) args s 0 0 A) (F0 m 132 ls [.int s0, .ref (ad 0)]) := by
  refine lv_iconst (v := 0) C.1.1 C.1.2.1 dX7_behind_132 (by decide) ?_
  obtain ⟨g_7, hc, h⟩ := bnd_some h
  refine r_vV (dc := 1) (As := [.int s0, .int 0]) (rest := []) C hw vX7_284 km0 (by decide) rfl (fun sz => c_X7_step hx hc sz) (by decide) rfl rfl hl.1 (Nat.le_of_ble_eq_true rfl) dX7_behind_133 ⟨Nat.le_refl _, Nat.le_refl _⟩ (fun H locs hw => ?_)
  refine lv_goto (tgt := 30) C.1.1 C.1.2.1 dX7_behind_136 (by decide) ?_
  exact hk30 _ _ _ _ hw hl h
set_option maxHeartbeats 4000000 in
set_option maxRecDepth 100000 in
theorem w_X7_behind_93 {x1 : Int32} {g : GM} {r : Int32} {gz : GM} (kb30 : GM → Option (Int32 × GM)) (hk30 : ∀ (g : GM) (H : Heap) (locs : List Loc) (ls : Array Slot), WS D cA ev hr ad A KM s H locs g → lv_has ls 2 [(0, .ref (ad 0)), (1, .int x1)] → kb30 g = some (r, gz) → W p l e (RM 4 0 0) s m args below meth c H locs 0 0 (MQ below (QI D cA ev hr ad A KM r gz) args s 0 0 A) (F0 m 30 ls [])) (C : CX p s m args meth c RX7 yX7_behind cX7_behind 2 (some .boolean) D cA) (hx : HM hr ad) {H : Heap} {locs : List Loc} (hw : WS D cA ev hr ad A KM s H locs g) {ls : Array Slot} (hl : lv_has ls 2 [(0, .ref (ad 0)), (1, .int x1)]) (h : F_X7_behind_93 kb30 x1 g = some (r, gz)) : W p l e (RM 4 0 0) s m args below meth c H locs 0 0 (MQ below (QI D cA ev hr ad A KM r gz) args s 0 0 A) (F0 m 93 ls []) := by
  refine lv_aload_n C.1.1 C.1.2.1 dX7_behind_93 rfl (lv_at hl 0 rfl) ?_
  refine lv_aload_n C.1.1 C.1.2.1 dX7_behind_94 rfl (lv_at hl 0 rfl) ?_
  refine r_getR (v := .ref (ad 26)) C hw km0 fX7_263 rfl (hm42 hx) dX7_behind_95 ?_
  refine lv_aload_n C.1.1 C.1.2.1 dX7_behind_98 rfl (lv_at hl 0 rfl) ?_
  refine r_getI C hw km0 fX7_266 rfl dX7_behind_99 ?_
  obtain ⟨hz, h⟩ := ck_some h
  refine r_iald C hw km26 (inB_in hz) dX7_behind_102 ?_
  refine lv_iconst (v := 3) C.1.1 C.1.2.1 dX7_behind_103 (by decide) ?_
  refine lv_icmp_ne (tgt := 112) C.1.1 C.1.2.1 dX7_behind_104 (by decide) (fun hc => ?_) (fun hc => ?_)
  · replace h := ite_neg' h hc
    refine lv_aload_n C.1.1 C.1.2.1 dX7_behind_112 rfl (lv_at hl 0 rfl) ?_
    refine r_getR (v := .ref (ad 26)) C hw km0 fX7_263 rfl (hm42 hx) dX7_behind_113 ?_
    refine lv_aload_n C.1.1 C.1.2.1 dX7_behind_116 rfl (lv_at hl 0 rfl) ?_
    refine r_getI C hw km0 fX7_266 rfl dX7_behind_117 ?_
    obtain ⟨hz, h⟩ := ck_some h
    refine r_iald C hw km26 (inB_in hz) dX7_behind_120 ?_
    refine lv_iconst (v := 2) C.1.1 C.1.2.1 dX7_behind_121 (by decide) ?_
    refine lv_icmp_ne (tgt := 130) C.1.1 C.1.2.1 dX7_behind_122 (by decide) (fun hc => ?_) (fun hc => ?_)
    · replace h := ite_neg' h hc
      refine lv_bipush (v := 124) C.1.1 C.1.2.1 dX7_behind_130 (by decide) ?_
      exact w_X7_behind_132 kb30 hk30 C hx hw hl h
    · replace h := ite_pos' h hc
      refine lv_bipush (v := 38) C.1.1 C.1.2.1 dX7_behind_125 (by decide) ?_
      refine lv_goto (tgt := 132) C.1.1 C.1.2.1 dX7_behind_127 (by decide) ?_
      exact w_X7_behind_132 kb30 hk30 C hx hw hl h
  · replace h := ite_pos' h hc
    refine lv_bipush (v := 126) C.1.1 C.1.2.1 dX7_behind_107 (by decide) ?_
    refine lv_goto (tgt := 132) C.1.1 C.1.2.1 dX7_behind_109 (by decide) ?_
    exact w_X7_behind_132 kb30 hk30 C hx hw hl h
set_option maxHeartbeats 4000000 in
set_option maxRecDepth 100000 in
theorem w_X7_behind_30 {x1 : Int32} {r : Int32} {gz : GM} (kb30 : GM → Option (Int32 × GM)) (hk30 : ∀ (g : GM) (H : Heap) (locs : List Loc) (ls : Array Slot), WS D cA ev hr ad A KM s H locs g → lv_has ls 2 [(0, .ref (ad 0)), (1, .int x1)] → kb30 g = some (r, gz) → W p l e (RM 4 0 0) s m args below meth c H locs 0 0 (MQ below (QI D cA ev hr ad A KM r gz) args s 0 0 A) (F0 m 30 ls [])) (C : CX p s m args meth c RX7 yX7_behind cX7_behind 2 (some .boolean) D cA) (hx : HM hr ad) {H : Heap} {locs : List Loc} {g : GM} (hw : WS D cA ev hr ad A KM s H locs g) {ls : Array Slot} (hl : lv_has ls 2 [(0, .ref (ad 0)), (1, .int x1)]) (h : F_X7_behind_30B x1 kb30 g = some (r, gz)) : W p l e (RM 4 0 0) s m args below meth c H locs 0 0 (MQ below (QI D cA ev hr ad A KM r gz) args s 0 0 A) (F0 m 30 ls []) := by
  refine lv_aload_n C.1.1 C.1.2.1 dX7_behind_30 rfl (lv_at hl 0 rfl) ?_
  refine r_getR (v := .ref (ad 26)) C hw km0 fX7_263 rfl (hm42 hx) dX7_behind_31 ?_
  refine lv_aload_n C.1.1 C.1.2.1 dX7_behind_34 rfl (lv_at hl 0 rfl) ?_
  refine r_getI C hw km0 fX7_266 rfl dX7_behind_35 ?_
  refine lv_iconst (v := 1) C.1.1 C.1.2.1 dX7_behind_38 (by decide) ?_
  refine lv_isub C.1.1 C.1.2.1 dX7_behind_39 ?_
  obtain ⟨hz, h⟩ := ck_some h
  refine r_iald C hw km26 (inB_in hz) dX7_behind_40 ?_
  refine lv_iconst (v := 3) C.1.1 C.1.2.1 dX7_behind_41 (by decide) ?_
  refine lv_icmp_gt (tgt := 139) C.1.1 C.1.2.1 dX7_behind_42 (by decide) (fun hc => ?_) (fun hc => ?_)
  · replace h := ite_pos' h hc
    exact w_X7_behind_139 C hx hw hl h
  · replace h := ite_neg' h hc
    refine lv_aload_n C.1.1 C.1.2.1 dX7_behind_45 rfl (lv_at hl 0 rfl) ?_
    refine r_getR (v := .ref (ad 26)) C hw km0 fX7_263 rfl (hm42 hx) dX7_behind_46 ?_
    refine lv_aload_n C.1.1 C.1.2.1 dX7_behind_49 rfl (lv_at hl 0 rfl) ?_
    refine r_getI C hw km0 fX7_266 rfl dX7_behind_50 ?_
    refine lv_iconst (v := 1) C.1.1 C.1.2.1 dX7_behind_53 (by decide) ?_
    refine lv_isub C.1.1 C.1.2.1 dX7_behind_54 ?_
    obtain ⟨hz, h⟩ := ck_some h
    refine r_iald C hw km26 (inB_in hz) dX7_behind_55 ?_
    refine lv_iload_n C.1.1 C.1.2.1 dX7_behind_56 rfl (lv_at hl 1 rfl) ?_
    refine lv_icmp_lt (tgt := 139) C.1.1 C.1.2.1 dX7_behind_57 (by decide) (fun hc => ?_) (fun hc => ?_)
    · replace h := ite_pos' h hc
      exact w_X7_behind_139 C hx hw hl h
    · replace h := ite_neg' h hc
      refine lv_aload_n C.1.1 C.1.2.1 dX7_behind_60 rfl (lv_at hl 0 rfl) ?_
      refine lv_dup C.1.1 C.1.2.1 dX7_behind_61 rfl ?_
      refine r_getI C hw km0 fX7_266 rfl dX7_behind_62 ?_
      refine lv_iconst (v := 1) C.1.1 C.1.2.1 dX7_behind_65 (by decide) ?_
      refine lv_isub C.1.1 C.1.2.1 dX7_behind_66 ?_
      refine r_putI C hw km0 fX7_266 rfl rfl (Or.inl rfl) dX7_behind_67 (fun H locs hw => ?_)
      refine lt_gen (P := fun g => WS D cA ev hr ad A KM s H locs g) h hw (fun g_8 h hw => ?_)
      refine lv_aload_n C.1.1 C.1.2.1 dX7_behind_70 rfl (lv_at hl 0 rfl) ?_
      refine r_getR (v := .ref (ad 26)) C hw km0 fX7_263 rfl (hm42 hx) dX7_behind_71 ?_
      refine lv_aload_n C.1.1 C.1.2.1 dX7_behind_74 rfl (lv_at hl 0 rfl) ?_
      refine r_getI C hw km0 fX7_266 rfl dX7_behind_75 ?_
      obtain ⟨hz, h⟩ := ck_some h
      refine r_iald C hw km26 (inB_in hz) dX7_behind_78 ?_
      refine lv_iconst (v := 3) C.1.1 C.1.2.1 dX7_behind_79 (by decide) ?_
      refine lv_icmp_ne (tgt := 93) C.1.1 C.1.2.1 dX7_behind_80 (by decide) (fun hc => ?_) (fun hc => ?_)
      · replace h := ite_neg' h hc
        exact w_X7_behind_93 kb30 hk30 C hx hw hl h
      · replace h := ite_pos' h hc
        refine lv_aload_n C.1.1 C.1.2.1 dX7_behind_83 rfl (lv_at hl 0 rfl) ?_
        refine lv_dup C.1.1 C.1.2.1 dX7_behind_84 rfl ?_
        refine r_getI C hw km0 fX7_269 rfl dX7_behind_85 ?_
        refine lv_iconst (v := 1) C.1.1 C.1.2.1 dX7_behind_88 (by decide) ?_
        refine lv_isub C.1.1 C.1.2.1 dX7_behind_89 ?_
        refine r_putI C hw km0 fX7_269 rfl rfl (Or.inl rfl) dX7_behind_90 (fun H locs hw => ?_)
        refine lt_gen (P := fun g => WS D cA ev hr ad A KM s H locs g) h hw (fun g_9 h hw => ?_)
        exact w_X7_behind_93 kb30 hk30 C hx hw hl h
set_option maxHeartbeats 4000000 in
set_option maxRecDepth 100000 in
theorem w_X7_behind_30L {x1 : Int32} {r : Int32} {gz : GM} (C : CX p s m args meth c RX7 yX7_behind cX7_behind 2 (some .boolean) D cA) (hx : HM hr ad) : ∀ (n : Nat) (g : GM) (H : Heap) (locs : List Loc) (ls : Array Slot), WS D cA ev hr ad A KM s H locs g → lv_has ls 2 [(0, .ref (ad 0)), (1, .int x1)] → fixN (F_X7_behind_30B x1) n g = some (r, gz) → W p l e (RM 4 0 0) s m args below meth c H locs 0 0 (MQ below (QI D cA ev hr ad A KM r gz) args s 0 0 A) (F0 m 30 ls []) := by
  intro n
  induction n with
  | zero => intro g H locs ls hw hl h; exact (fix_zero h).elim
  | succ n ih => intro g H locs ls hw hl h; exact w_X7_behind_30 (fixN (F_X7_behind_30B x1) n) ih C hx hw hl h
set_option maxHeartbeats 4000000 in
set_option maxRecDepth 100000 in
theorem w_X7_behind_29 {s0 : Int32} {g : GM} {r : Int32} {gz : GM} (C : CX p s m args meth c RX7 yX7_behind cX7_behind 2 (some .boolean) D cA) (hx : HM hr ad) {H : Heap} {locs : List Loc} (hw : WS D cA ev hr ad A KM s H locs g) {ls : Array Slot} (hl : lv_has ls 2 [(0, .ref (ad 0))]) (h : F_X7_behind_29 s0 g = some (r, gz)) : W p l e (RM 4 0 0) s m args below meth c H locs 0 0 (MQ below (QI D cA ev hr ad A KM r gz) args s 0 0 A) (F0 m 29 ls [.int s0]) := by
  refine lv_istore_n (lv' := [(1, .int s0), (0, .ref (ad 0))]) C.1.1 C.1.2.1 dX7_behind_29 rfl hl (by decide) rfl (fun ls hl => ?_)
  exact w_X7_behind_30L C hx FU _ _ _ _ hw (lv_sub hl [1, 0] rfl) h
set_option maxHeartbeats 4000000 in
set_option maxRecDepth 100000 in
theorem w_X7_behind_0 (C : CX p s m args meth c RX7 yX7_behind cX7_behind 2 (some .boolean) D cA) (hx : HM hr ad) {H : Heap} {locs : List Loc} {g : GM} (hw : WS D cA ev hr ad A KM s H locs g) {ls : Array Slot} (hl : lv_has ls 2 [(0, .ref (ad 0))]) {r : Int32} {gz : GM} (h : F_X7_behind g = some (r, gz)) : W p l e (RM 4 0 0) s m args below meth c H locs 0 0 (MQ below (QI D cA ev hr ad A KM r gz) args s 0 0 A) (F0 m 0 ls []) := by
  refine lv_aload_n C.1.1 C.1.2.1 dX7_behind_0 rfl (lv_at hl 0 rfl) ?_
  refine lv_ldc2 (v := 6385252) C.1.1 C.1.2.1 C.1.2.2.2.1 (C.w kc819) dX7_behind_1 ?_
  obtain ⟨r_10, hc, h⟩ := bnd_some h
  refine r_vI (dc := 1) (As := [.long 6385252]) (rest := []) C hw vX7_125 km0 (by decide) rfl (fun sz => c_X7_isWord hx hc sz) (by decide) rfl rfl hl.1 (Nat.le_of_ble_eq_true rfl) dX7_behind_4 ⟨Nat.le_refl _, Nat.le_refl _⟩ (fun H locs hw => ?_)
  refine lv_if_eq (tgt := 14) C.1.1 C.1.2.1 dX7_behind_7 (by decide) (fun hc => ?_) (fun hc => ?_)
  · replace h := ite_pos' h hc
    refine lv_aload_n C.1.1 C.1.2.1 dX7_behind_14 rfl (lv_at hl 0 rfl) ?_
    refine lv_ldc2 (v := 28530) C.1.1 C.1.2.1 C.1.2.2.2.1 (C.w kc820) dX7_behind_15 ?_
    obtain ⟨r_11, hc, h⟩ := bnd_some h
    refine r_vI (dc := 1) (As := [.long 28530]) (rest := []) C hw vX7_125 km0 (by decide) rfl (fun sz => c_X7_isWord hx hc sz) (by decide) rfl rfl hl.1 (Nat.le_of_ble_eq_true rfl) dX7_behind_18 ⟨Nat.le_refl _, Nat.le_refl _⟩ (fun H locs hw => ?_)
    refine lv_if_eq (tgt := 28) C.1.1 C.1.2.1 dX7_behind_21 (by decide) (fun hc => ?_) (fun hc => ?_)
    · replace h := ite_pos' h hc
      refine lv_iconst (v := 0) C.1.1 C.1.2.1 dX7_behind_28 (by decide) ?_
      exact w_X7_behind_29 C hx hw hl h
    · replace h := ite_neg' h hc
      refine lv_iconst (v := 1) C.1.1 C.1.2.1 dX7_behind_24 (by decide) ?_
      refine lv_goto (tgt := 29) C.1.1 C.1.2.1 dX7_behind_25 (by decide) ?_
      exact w_X7_behind_29 C hx hw hl h
  · replace h := ite_neg' h hc
    refine lv_iconst (v := 2) C.1.1 C.1.2.1 dX7_behind_10 (by decide) ?_
    refine lv_goto (tgt := 29) C.1.1 C.1.2.1 dX7_behind_11 (by decide) ?_
    exact w_X7_behind_29 C hx hw hl h
set_option maxHeartbeats 4000000 in
set_option maxRecDepth 100000 in
theorem c_X7_behind (hx : HM hr ad) {g : GM} {r : Int32} {gz : GM} (h : F_X7_behind g = some (r, gz)) (sz : Nat) : Met l yX7_behind (WSX yX7_behind cX7_behind 2 (some .boolean)) (RM 4 0 0) (va_Pc [.ref (ad 0)] (PX D cA ev hr ad KM g sz)) (QI D cA ev hr ad (AX ad KM.length sz) KM r gz) 0 0 (AX ad KM.length sz) :=
  met_of (own := RX7) pnX7 rfl (Nat.le_of_ble_eq_true rfl) (fun p e s m below meth c ls C hw hsz hl => w_X7_behind_0 C hx hw hl h)
set_option maxHeartbeats 4000000 in
set_option maxRecDepth 100000 in
theorem w_X7_e_47 {x1 : Int32} {s0 : Int32} {g : GM} {gz : GM} (kb17 : Int32 × GM → Option (GM)) (hk17 : ∀ (x2 : Int32) (g : GM) (H : Heap) (locs : List Loc) (ls : Array Slot), WS D cA ev hr ad A KM s H locs g → lv_has ls 3 [(0, .ref (ad 0)), (1, .int x1), (2, .int x2)] → kb17 (x2, g) = some gz → W p l e (RM 5 0 0) s m args below meth c H locs 0 0 (MQ below (QV D cA ev hr ad A KM gz) args s 0 0 A) (F0 m 17 ls [])) (C : CX p s m args meth c RX7 yX7_e cX7_e 3 none D cA) (hx : HM hr ad) {H : Heap} {locs : List Loc} (hw : WS D cA ev hr ad A KM s H locs g) {ls : Array Slot} (hl : lv_has ls 3 [(0, .ref (ad 0)), (1, .int x1)]) (h : F_X7_e_47 kb17 x1 s0 g = some gz) : W p l e (RM 5 0 0) s m args below meth c H locs 0 0 (MQ below (QV D cA ev hr ad A KM gz) args s 0 0 A) (F0 m 47 ls [.int s0]) := by
  refine lv_istore_n (lv' := [(2, .int s0), (0, .ref (ad 0)), (1, .int x1)]) C.1.1 C.1.2.1 dX7_e_47 rfl hl (by decide) rfl (fun ls hl => ?_)
  refine lv_goto (tgt := 17) C.1.1 C.1.2.1 dX7_e_48 (by decide) ?_
  exact hk17 _ _ _ _ _ hw (lv_sub hl [1, 2, 0] rfl) h
set_option maxHeartbeats 4000000 in
set_option maxRecDepth 100000 in
theorem w_X7_e_17 {x1 : Int32} {gz : GM} (kb17 : Int32 × GM → Option (GM)) (hk17 : ∀ (x2 : Int32) (g : GM) (H : Heap) (locs : List Loc) (ls : Array Slot), WS D cA ev hr ad A KM s H locs g → lv_has ls 3 [(0, .ref (ad 0)), (1, .int x1), (2, .int x2)] → kb17 (x2, g) = some gz → W p l e (RM 5 0 0) s m args below meth c H locs 0 0 (MQ below (QV D cA ev hr ad A KM gz) args s 0 0 A) (F0 m 17 ls [])) (C : CX p s m args meth c RX7 yX7_e cX7_e 3 none D cA) (hx : HM hr ad) {H : Heap} {locs : List Loc} {x2 : Int32} {g : GM} (hw : WS D cA ev hr ad A KM s H locs g) {ls : Array Slot} (hl : lv_has ls 3 [(0, .ref (ad 0)), (1, .int x1), (2, .int x2)]) (h : F_X7_e_17B x1 kb17 (x2, g) = some gz) : W p l e (RM 5 0 0) s m args below meth c H locs 0 0 (MQ below (QV D cA ev hr ad A KM gz) args s 0 0 A) (F0 m 17 ls []) := by
  refine lv_aload_n C.1.1 C.1.2.1 dX7_e_17 rfl (lv_at hl 0 rfl) ?_
  obtain ⟨r_1, hc, h⟩ := bnd_some h
  refine r_vI (dc := 1) (As := []) (rest := []) C hw vX7_81 km0 (by decide) rfl (fun sz => c_X7_isGood hx hc sz) (by decide) rfl rfl hl.1 (Nat.le_of_ble_eq_true rfl) dX7_e_18 ⟨Nat.le_refl _, Nat.le_refl _⟩ (fun H locs hw => ?_)
  refine lv_if_eq (tgt := 51) C.1.1 C.1.2.1 dX7_e_21 (by decide) (fun hc => ?_) (fun hc => ?_)
  · replace h := ite_pos' h hc
    cases h
    exact r_vret C hw rfl dX7_e_51
  · replace h := ite_neg' h hc
    refine lv_aload_n C.1.1 C.1.2.1 dX7_e_24 rfl (lv_at hl 0 rfl) ?_
    refine r_getI C hw km0 fX7_266 rfl dX7_e_25 ?_
    refine lv_if_le (tgt := 51) C.1.1 C.1.2.1 dX7_e_28 (by decide) (fun hc => ?_) (fun hc => ?_)
    · replace h := ite_pos' h hc
      cases h
      exact r_vret C hw rfl dX7_e_51
    · replace h := ite_neg' h hc
      refine lv_iload_n C.1.1 C.1.2.1 dX7_e_31 rfl (lv_at hl 2 rfl) ?_
      refine lv_if_eq (tgt := 43) C.1.1 C.1.2.1 dX7_e_32 (by decide) (fun hc => ?_) (fun hc => ?_)
      · replace h := ite_pos' h hc
        refine lv_aload_n C.1.1 C.1.2.1 dX7_e_43 rfl (lv_at hl 0 rfl) ?_
        obtain ⟨⟨r_2, g_3⟩, hc, h⟩ := bnd_some h
        refine r_vI (dc := 4) (As := []) (rest := []) C hw vX7_278 km0 (by decide) rfl (fun sz => c_X7_behind hx hc sz) (by decide) rfl rfl hl.1 (Nat.le_of_ble_eq_true rfl) dX7_e_44 ⟨Nat.le_refl _, Nat.le_refl _⟩ (fun H locs hw => ?_)
        exact w_X7_e_47 kb17 hk17 C hx hw (lv_sub hl [0, 1] rfl) h
      · replace h := ite_neg' h hc
        refine lv_aload_n C.1.1 C.1.2.1 dX7_e_35 rfl (lv_at hl 0 rfl) ?_
        refine lv_iload_n C.1.1 C.1.2.1 dX7_e_36 rfl (lv_at hl 1 rfl) ?_
        obtain ⟨⟨r_4, g_5⟩, hc, h⟩ := bnd_some h
        refine r_vI (dc := 4) (As := [.int x1]) (rest := []) C hw vX7_275 km0 (by decide) rfl (fun sz => c_X7_one hx hc sz) (by decide) rfl rfl hl.1 (Nat.le_of_ble_eq_true rfl) dX7_e_37 ⟨Nat.le_refl _, Nat.le_refl _⟩ (fun H locs hw => ?_)
        refine lv_goto (tgt := 47) C.1.1 C.1.2.1 dX7_e_40 (by decide) ?_
        exact w_X7_e_47 kb17 hk17 C hx hw (lv_sub hl [0, 1] rfl) h
set_option maxHeartbeats 4000000 in
set_option maxRecDepth 100000 in
theorem w_X7_e_17L {x1 : Int32} {gz : GM} (C : CX p s m args meth c RX7 yX7_e cX7_e 3 none D cA) (hx : HM hr ad) : ∀ (n : Nat) (x2 : Int32) (g : GM) (H : Heap) (locs : List Loc) (ls : Array Slot), WS D cA ev hr ad A KM s H locs g → lv_has ls 3 [(0, .ref (ad 0)), (1, .int x1), (2, .int x2)] → fixN (F_X7_e_17B x1) n (x2, g) = some gz → W p l e (RM 5 0 0) s m args below meth c H locs 0 0 (MQ below (QV D cA ev hr ad A KM gz) args s 0 0 A) (F0 m 17 ls []) := by
  intro n
  induction n with
  | zero => intro x2 g H locs ls hw hl h; exact (fix_zero h).elim
  | succ n ih => intro x2 g H locs ls hw hl h; exact w_X7_e_17 (fixN (F_X7_e_17B x1) n) ih C hx hw hl h
set_option maxHeartbeats 4000000 in
set_option maxRecDepth 100000 in
theorem w_X7_e_0 (C : CX p s m args meth c RX7 yX7_e cX7_e 3 none D cA) (hx : HM hr ad) {H : Heap} {locs : List Loc} {g : GM} (hw : WS D cA ev hr ad A KM s H locs g) {a1 : Int32} {ls : Array Slot} (hl : lv_has ls 3 [(0, .ref (ad 0)), (1, .int a1)]) {gz : GM} (h : F_X7_e a1 g = some gz) : W p l e (RM 5 0 0) s m args below meth c H locs 0 0 (MQ below (QV D cA ev hr ad A KM gz) args s 0 0 A) (F0 m 0 ls []) := by
  refine lv_aload_n C.1.1 C.1.2.1 dX7_e_0 rfl (lv_at hl 0 rfl) ?_
  refine lv_iconst (v := 0) C.1.1 C.1.2.1 dX7_e_1 (by decide) ?_
  refine r_putI C hw km0 fX7_266 rfl rfl (Or.inl rfl) dX7_e_2 (fun H locs hw => ?_)
  refine lt_gen (P := fun g => WS D cA ev hr ad A KM s H locs g) h hw (fun g_6 h hw => ?_)
  refine lv_aload_n C.1.1 C.1.2.1 dX7_e_5 rfl (lv_at hl 0 rfl) ?_
  refine lv_iconst (v := 0) C.1.1 C.1.2.1 dX7_e_6 (by decide) ?_
  refine r_putI C hw km0 fX7_269 rfl rfl (Or.inl rfl) dX7_e_7 (fun H locs hw => ?_)
  refine lt_gen (P := fun g => WS D cA ev hr ad A KM s H locs g) h hw (fun g_7 h hw => ?_)
  refine lv_aload_n C.1.1 C.1.2.1 dX7_e_10 rfl (lv_at hl 0 rfl) ?_
  refine lv_iconst (v := 5) C.1.1 C.1.2.1 dX7_e_11 (by decide) ?_
  obtain ⟨g_8, hc, h⟩ := bnd_some h
  refine r_vV (dc := 1) (As := [.int 5]) (rest := []) C hw vX7_272 km0 (by decide) rfl (fun sz => c_X7_pile hx hc sz) (by decide) rfl rfl hl.1 (Nat.le_of_ble_eq_true rfl) dX7_e_12 ⟨Nat.le_refl _, Nat.le_refl _⟩ (fun H locs hw => ?_)
  refine lv_iconst (v := 1) C.1.1 C.1.2.1 dX7_e_15 (by decide) ?_
  refine lv_istore_n (lv' := [(2, .int 1), (0, .ref (ad 0)), (1, .int a1)]) C.1.1 C.1.2.1 dX7_e_16 rfl hl (by decide) rfl (fun ls hl => ?_)
  exact w_X7_e_17L C hx FU _ _ _ _ _ hw (lv_sub hl [1, 2, 0] rfl) h
set_option maxHeartbeats 4000000 in
set_option maxRecDepth 100000 in
theorem c_X7_e (hx : HM hr ad) {a1 : Int32} {g : GM} {gz : GM} (h : F_X7_e a1 g = some gz) (sz : Nat) : Met l yX7_e (WSX yX7_e cX7_e 3 none) (RM 5 0 0) (va_Pc [.ref (ad 0), .int a1] (PX D cA ev hr ad KM g sz)) (QV D cA ev hr ad (AX ad KM.length sz) KM gz) 0 0 (AX ad KM.length sz) :=
  met_of (own := RX7) pnX7 rfl (Nat.le_of_ble_eq_true rfl) (fun p e s m below meth c ls C hw hsz hl => w_X7_e_0 C hx hw hl h)
set_option maxHeartbeats 4000000 in
set_option maxRecDepth 100000 in
theorem w_X7_readWish_199 {x2 : Int32} {g : GM} {gz : GM} (C : CX p s m args meth c RX7 yX7_readWish cX7_readWish 3 none D cA) (hx : HM hr ad) {H : Heap} {locs : List Loc} (hw : WS D cA ev hr ad A KM s H locs g) {ls : Array Slot} (hl : lv_has ls 3 [(0, .ref (ad 0)), (2, .int x2)]) (h : F_X7_readWish_199 x2 g = some gz) : W p l e (RM 6 0 0) s m args below meth c H locs 0 0 (MQ below (QV D cA ev hr ad A KM gz) args s 0 0 A) (F0 m 199 ls []) := by
  refine lv_aload_n C.1.1 C.1.2.1 dX7_readWish_199 rfl (lv_at hl 0 rfl) ?_
  refine r_getR (v := .ref (ad 20)) C hw km0 fX7_251 rfl (hm31 hx) dX7_readWish_200 ?_
  refine lv_iload_n C.1.1 C.1.2.1 dX7_readWish_203 rfl (lv_at hl 1 rfl) ?_
  refine lv_aload_n C.1.1 C.1.2.1 dX7_readWish_204 rfl (lv_at hl 0 rfl) ?_
  refine r_getI C hw km0 fX7_214 rfl dX7_readWish_205 ?_
  obtain ⟨hz, h⟩ := ck_some h
  refine r_iast C hw km20 (inB_in hz) dX7_readWish_208 (fun H locs hw => ?_)
  refine lt_gen (P := fun g => WS D cA ev hr ad A KM s H locs g) h hw (fun g_1 h hw => ?_)
  refine lv_aload_n C.1.1 C.1.2.1 dX7_readWish_209 rfl (lv_at hl 0 rfl) ?_
  refine lv_aload_n C.1.1 C.1.2.1 dX7_readWish_210 rfl (lv_at hl 0 rfl) ?_
  refine lv_bipush (v := 59) C.1.1 C.1.2.1 dX7_readWish_211 (by decide) ?_
  obtain ⟨r_2, hc, h⟩ := bnd_some h
  refine r_vI (dc := 2) (As := [.int 59]) (rest := [.ref (ad 0)]) C hw vX7_163 km0 (by decide) rfl (fun sz => c_X7_is hx hc sz) (by decide) rfl rfl hl.1 (Nat.le_of_ble_eq_true rfl) dX7_readWish_213 ⟨Nat.le_refl _, Nat.le_refl _⟩ (fun H locs hw => ?_)
  obtain ⟨g_3, hc, h⟩ := bnd_some h
  refine r_vV (dc := 3) (As := [.int r_2]) (rest := []) C hw vX7_166 km0 (by decide) rfl (fun sz => c_X7_must hx hc sz) (by decide) rfl rfl hl.1 (Nat.le_of_ble_eq_true rfl) dX7_readWish_216 ⟨Nat.le_refl _, Nat.le_refl _⟩ (fun H locs hw => ?_)
  refine lv_aload_n C.1.1 C.1.2.1 dX7_readWish_219 rfl (lv_at hl 0 rfl) ?_
  refine r_getR (v := .ref (ad 14)) C hw km0 fX7_138 rfl (hm25 hx) dX7_readWish_220 ?_
  refine lv_aload_n C.1.1 C.1.2.1 dX7_readWish_223 rfl (lv_at hl 0 rfl) ?_
  refine r_getI C hw km0 fX7_211 rfl dX7_readWish_224 ?_
  refine lv_dup2_11 C.1.1 C.1.2.1 dX7_readWish_227 rfl rfl ?_
  obtain ⟨hz, h⟩ := ck_some h
  refine r_iald C hw km14 (inB_in hz) dX7_readWish_228 ?_
  refine lv_iconst (v := 1) C.1.1 C.1.2.1 dX7_readWish_229 (by decide) ?_
  refine lv_iadd C.1.1 C.1.2.1 dX7_readWish_230 ?_
  obtain ⟨hz, h⟩ := ck_some h
  refine r_iast C hw km14 (inB_in hz) dX7_readWish_231 (fun H locs hw => ?_)
  refine lt_gen (P := fun g => WS D cA ev hr ad A KM s H locs g) h hw (fun g_4 h hw => ?_)
  cases h
  exact r_vret C hw rfl dX7_readWish_232
set_option maxHeartbeats 4000000 in
set_option maxRecDepth 100000 in
theorem w_X7_readWish_159 {x1 : Int32} {x2 : Int32} {g : GM} {gz : GM} (C : CX p s m args meth c RX7 yX7_readWish cX7_readWish 3 none D cA) (hx : HM hr ad) {H : Heap} {locs : List Loc} (hw : WS D cA ev hr ad A KM s H locs g) {ls : Array Slot} (hl : lv_has ls 3 [(0, .ref (ad 0)), (1, .int x1), (2, .int x2)]) (h : F_X7_readWish_159 x1 x2 g = some gz) : W p l e (RM 6 0 0) s m args below meth c H locs 0 0 (MQ below (QV D cA ev hr ad A KM gz) args s 0 0 A) (F0 m 159 ls []) := by
  refine lv_aload_n C.1.1 C.1.2.1 dX7_readWish_159 rfl (lv_at hl 0 rfl) ?_
  refine r_getR (v := .ref (ad 19)) C hw km0 fX7_245 rfl (hm30 hx) dX7_readWish_160 ?_
  refine lv_iload_n C.1.1 C.1.2.1 dX7_readWish_163 rfl (lv_at hl 2 rfl) ?_
  refine lv_aload_n C.1.1 C.1.2.1 dX7_readWish_164 rfl (lv_at hl 0 rfl) ?_
  refine r_getI C hw km0 fX7_214 rfl dX7_readWish_165 ?_
  obtain ⟨hz, h⟩ := ck_some h
  refine r_iast C hw km19 (inB_in hz) dX7_readWish_168 (fun H locs hw => ?_)
  refine lt_gen (P := fun g => WS D cA ev hr ad A KM s H locs g) h hw (fun g_5 h hw => ?_)
  refine lv_iload_n C.1.1 C.1.2.1 dX7_readWish_169 rfl (lv_at hl 1 rfl) ?_
  refine lv_if_ne (tgt := 199) C.1.1 C.1.2.1 dX7_readWish_170 (by decide) (fun hc => ?_) (fun hc => ?_)
  · replace h := ite_neg' h hc
    exact w_X7_readWish_199 C hx hw (lv_sub hl [0, 2] rfl) h
  · replace h := ite_pos' h hc
    refine lv_aload_n C.1.1 C.1.2.1 dX7_readWish_173 rfl (lv_at hl 0 rfl) ?_
    obtain ⟨r_6, hc, h⟩ := bnd_some h
    refine r_vI (dc := 1) (As := []) (rest := []) C hw vX7_81 km0 (by decide) rfl (fun sz => c_X7_isGood hx hc sz) (by decide) rfl rfl hl.1 (Nat.le_of_ble_eq_true rfl) dX7_readWish_174 ⟨Nat.le_refl _, Nat.le_refl _⟩ (fun H locs hw => ?_)
    refine lv_if_eq (tgt := 199) C.1.1 C.1.2.1 dX7_readWish_177 (by decide) (fun hc => ?_) (fun hc => ?_)
    · replace h := ite_pos' h hc
      exact w_X7_readWish_199 C hx hw (lv_sub hl [0, 2] rfl) h
    · replace h := ite_neg' h hc
      refine lv_aload_n C.1.1 C.1.2.1 dX7_readWish_180 rfl (lv_at hl 0 rfl) ?_
      refine lv_ldc2 (v := 512852587109) C.1.1 C.1.2.1 C.1.2.2.2.1 (C.w kc815) dX7_readWish_181 ?_
      obtain ⟨r_7, hc, h⟩ := bnd_some h
      refine r_vI (dc := 1) (As := [.long 512852587109]) (rest := []) C hw vX7_125 km0 (by decide) rfl (fun sz => c_X7_isWord hx hc sz) (by decide) rfl rfl hl.1 (Nat.le_of_ble_eq_true rfl) dX7_readWish_184 ⟨Nat.le_refl _, Nat.le_refl _⟩ (fun H locs hw => ?_)
      refine lv_if_eq (tgt := 199) C.1.1 C.1.2.1 dX7_readWish_187 (by decide) (fun hc => ?_) (fun hc => ?_)
      · replace h := ite_pos' h hc
        exact w_X7_readWish_199 C hx hw (lv_sub hl [0, 2] rfl) h
      · replace h := ite_neg' h hc
        refine lv_aload_n C.1.1 C.1.2.1 dX7_readWish_190 rfl (lv_at hl 0 rfl) ?_
        obtain ⟨g_8, hc, h⟩ := bnd_some h
        refine r_vV (dc := 2) (As := []) (rest := []) C hw vX7_85 km0 (by decide) rfl (fun sz => c_X7_next hx hc sz) (by decide) rfl rfl hl.1 (Nat.le_of_ble_eq_true rfl) dX7_readWish_191 ⟨Nat.le_refl _, Nat.le_refl _⟩ (fun H locs hw => ?_)
        refine lv_aload_n C.1.1 C.1.2.1 dX7_readWish_194 rfl (lv_at hl 0 rfl) ?_
        refine lv_iload_n C.1.1 C.1.2.1 dX7_readWish_195 rfl (lv_at hl 2 rfl) ?_
        obtain ⟨g_9, hc, h⟩ := bnd_some h
        refine r_vV (dc := 5) (As := [.int x2]) (rest := []) C hw vX7_248 km0 (by decide) rfl (fun sz => c_X7_e hx hc sz) (by decide) rfl rfl hl.1 (Nat.le_of_ble_eq_true rfl) dX7_readWish_196 ⟨Nat.le_refl _, Nat.le_refl _⟩ (fun H locs hw => ?_)
        exact w_X7_readWish_199 C hx hw (lv_sub hl [0, 2] rfl) h
set_option maxHeartbeats 4000000 in
set_option maxRecDepth 100000 in
theorem w_X7_readWish_106 {x1 : Int32} {x2 : Int32} {g : GM} {gz : GM} (C : CX p s m args meth c RX7 yX7_readWish cX7_readWish 3 none D cA) (hx : HM hr ad) {H : Heap} {locs : List Loc} (hw : WS D cA ev hr ad A KM s H locs g) {ls : Array Slot} (hl : lv_has ls 3 [(0, .ref (ad 0)), (1, .int x1), (2, .int x2)]) (h : F_X7_readWish_106 x1 x2 g = some gz) : W p l e (RM 6 0 0) s m args below meth c H locs 0 0 (MQ below (QV D cA ev hr ad A KM gz) args s 0 0 A) (F0 m 106 ls []) := by
  refine lv_aload_n C.1.1 C.1.2.1 dX7_readWish_106 rfl (lv_at hl 0 rfl) ?_
  refine r_getR (v := .ref (ad 16)) C hw km0 fX7_236 rfl (hm27 hx) dX7_readWish_107 ?_
  refine lv_iload_n C.1.1 C.1.2.1 dX7_readWish_110 rfl (lv_at hl 2 rfl) ?_
  refine lv_aload_n C.1.1 C.1.2.1 dX7_readWish_111 rfl (lv_at hl 0 rfl) ?_
  obtain ⟨⟨r_10, g_11⟩, hc, h⟩ := bnd_some h
  refine r_vI (dc := 3) (As := []) (rest := [.int x2, .ref (ad 16)]) C hw vX7_239 km0 (by decide) rfl (fun sz => c_X7_howMany hx hc sz) (by decide) rfl rfl hl.1 (Nat.le_of_ble_eq_true rfl) dX7_readWish_112 ⟨Nat.le_refl _, Nat.le_refl _⟩ (fun H locs hw => ?_)
  obtain ⟨hz, h⟩ := ck_some h
  refine r_iast C hw km16 (inB_in hz) dX7_readWish_115 (fun H locs hw => ?_)
  refine lt_gen (P := fun g => WS D cA ev hr ad A KM s H locs g) h hw (fun g_12 h hw => ?_)
  refine lv_iload_n C.1.1 C.1.2.1 dX7_readWish_116 rfl (lv_at hl 1 rfl) ?_
  refine lv_if_eq (tgt := 149) C.1.1 C.1.2.1 dX7_readWish_117 (by decide) (fun hc => ?_) (fun hc => ?_)
  · replace h := ite_pos' h hc
    refine lv_aload_n C.1.1 C.1.2.1 dX7_readWish_149 rfl (lv_at hl 0 rfl) ?_
    refine r_getR (v := .ref (ad 15)) C hw km0 fX7_229 rfl (hm26 hx) dX7_readWish_150 ?_
    refine lv_iload_n C.1.1 C.1.2.1 dX7_readWish_153 rfl (lv_at hl 2 rfl) ?_
    refine lv_aload_n C.1.1 C.1.2.1 dX7_readWish_154 rfl (lv_at hl 0 rfl) ?_
    obtain ⟨⟨r_13, g_14⟩, hc, h⟩ := bnd_some h
    refine r_vI (dc := 3) (As := []) (rest := [.int x2, .ref (ad 15)]) C hw vX7_232 km0 (by decide) rfl (fun sz => c_X7_aTable hx hc sz) (by decide) rfl rfl hl.1 (Nat.le_of_ble_eq_true rfl) dX7_readWish_155 ⟨Nat.le_refl _, Nat.le_refl _⟩ (fun H locs hw => ?_)
    obtain ⟨hz, h⟩ := ck_some h
    refine r_iast C hw km15 (inB_in hz) dX7_readWish_158 (fun H locs hw => ?_)
    refine lt_gen (P := fun g => WS D cA ev hr ad A KM s H locs g) h hw (fun g_15 h hw => ?_)
    exact w_X7_readWish_159 C hx hw hl h
  · replace h := ite_neg' h hc
    refine lv_aload_n C.1.1 C.1.2.1 dX7_readWish_120 rfl (lv_at hl 0 rfl) ?_
    refine r_getR (v := .ref (ad 17)) C hw km0 fX7_226 rfl (hm28 hx) dX7_readWish_121 ?_
    refine lv_iload_n C.1.1 C.1.2.1 dX7_readWish_124 rfl (lv_at hl 2 rfl) ?_
    refine lv_aload_n C.1.1 C.1.2.1 dX7_readWish_125 rfl (lv_at hl 0 rfl) ?_
    obtain ⟨⟨r_16, g_17⟩, hc, h⟩ := bnd_some h
    refine r_vI (dc := 3) (As := []) (rest := [.int x2, .ref (ad 17)]) C hw vX7_232 km0 (by decide) rfl (fun sz => c_X7_aTable hx hc sz) (by decide) rfl rfl hl.1 (Nat.le_of_ble_eq_true rfl) dX7_readWish_126 ⟨Nat.le_refl _, Nat.le_refl _⟩ (fun H locs hw => ?_)
    obtain ⟨hz, h⟩ := ck_some h
    refine r_iast C hw km17 (inB_in hz) dX7_readWish_129 (fun H locs hw => ?_)
    refine lt_gen (P := fun g => WS D cA ev hr ad A KM s H locs g) h hw (fun g_18 h hw => ?_)
    refine lv_aload_n C.1.1 C.1.2.1 dX7_readWish_130 rfl (lv_at hl 0 rfl) ?_
    refine lv_aload_n C.1.1 C.1.2.1 dX7_readWish_131 rfl (lv_at hl 0 rfl) ?_
    refine lv_ldc2 (v := 25209) C.1.1 C.1.2.1 C.1.2.2.2.1 (C.w kc817) dX7_readWish_132 ?_
    obtain ⟨r_19, hc, h⟩ := bnd_some h
    refine r_vI (dc := 1) (As := [.long 25209]) (rest := [.ref (ad 0)]) C hw vX7_125 km0 (by decide) rfl (fun sz => c_X7_isWord hx hc sz) (by decide) rfl rfl hl.1 (Nat.le_of_ble_eq_true rfl) dX7_readWish_135 ⟨Nat.le_refl _, Nat.le_refl _⟩ (fun H locs hw => ?_)
    obtain ⟨g_20, hc, h⟩ := bnd_some h
    refine r_vV (dc := 3) (As := [.int r_19]) (rest := []) C hw vX7_166 km0 (by decide) rfl (fun sz => c_X7_must hx hc sz) (by decide) rfl rfl hl.1 (Nat.le_of_ble_eq_true rfl) dX7_readWish_138 ⟨Nat.le_refl _, Nat.le_refl _⟩ (fun H locs hw => ?_)
    refine lv_aload_n C.1.1 C.1.2.1 dX7_readWish_141 rfl (lv_at hl 0 rfl) ?_
    refine lv_iload_n C.1.1 C.1.2.1 dX7_readWish_142 rfl (lv_at hl 2 rfl) ?_
    obtain ⟨g_21, hc, h⟩ := bnd_some h
    refine r_vV (dc := 3) (As := [.int x2]) (rest := []) C hw vX7_242 km0 (by decide) rfl (fun sz => c_X7_readBy hx hc sz) (by decide) rfl rfl hl.1 (Nat.le_of_ble_eq_true rfl) dX7_readWish_143 ⟨Nat.le_refl _, Nat.le_refl _⟩ (fun H locs hw => ?_)
    refine lv_goto (tgt := 159) C.1.1 C.1.2.1 dX7_readWish_146 (by decide) ?_
    exact w_X7_readWish_159 C hx hw hl h
set_option maxHeartbeats 4000000 in
set_option maxRecDepth 100000 in
theorem w_X7_readWish_91 {x1 : Int32} {x2 : Int32} {g : GM} {gz : GM} (C : CX p s m args meth c RX7 yX7_readWish cX7_readWish 3 none D cA) (hx : HM hr ad) {H : Heap} {locs : List Loc} (hw : WS D cA ev hr ad A KM s H locs g) {ls : Array Slot} (hl : lv_has ls 3 [(0, .ref (ad 0)), (1, .int x1), (2, .int x2)]) (h : F_X7_readWish_91 x1 x2 g = some gz) : W p l e (RM 6 0 0) s m args below meth c H locs 0 0 (MQ below (QV D cA ev hr ad A KM gz) args s 0 0 A) (F0 m 91 ls []) := by
  refine lv_iload_n C.1.1 C.1.2.1 dX7_readWish_91 rfl (lv_at hl 1 rfl) ?_
  refine lv_if_eq (tgt := 106) C.1.1 C.1.2.1 dX7_readWish_92 (by decide) (fun hc => ?_) (fun hc => ?_)
  · replace h := ite_pos' h hc
    exact w_X7_readWish_106 C hx hw hl h
  · replace h := ite_neg' h hc
    refine lv_aload_n C.1.1 C.1.2.1 dX7_readWish_95 rfl (lv_at hl 0 rfl) ?_
    refine lv_aload_n C.1.1 C.1.2.1 dX7_readWish_96 rfl (lv_at hl 0 rfl) ?_
    refine lv_ldc2 (v := 474147546227) C.1.1 C.1.2.1 C.1.2.2.2.1 (C.w kc816) dX7_readWish_97 ?_
    obtain ⟨r_22, hc, h⟩ := bnd_some h
    refine r_vI (dc := 1) (As := [.long 474147546227]) (rest := [.ref (ad 0)]) C hw vX7_125 km0 (by decide) rfl (fun sz => c_X7_isWord hx hc sz) (by decide) rfl rfl hl.1 (Nat.le_of_ble_eq_true rfl) dX7_readWish_100 ⟨Nat.le_refl _, Nat.le_refl _⟩ (fun H locs hw => ?_)
    obtain ⟨g_23, hc, h⟩ := bnd_some h
    refine r_vV (dc := 3) (As := [.int r_22]) (rest := []) C hw vX7_166 km0 (by decide) rfl (fun sz => c_X7_must hx hc sz) (by decide) rfl rfl hl.1 (Nat.le_of_ble_eq_true rfl) dX7_readWish_103 ⟨Nat.le_refl _, Nat.le_refl _⟩ (fun H locs hw => ?_)
    exact w_X7_readWish_106 C hx hw hl h
set_option maxHeartbeats 4000000 in
set_option maxRecDepth 100000 in
theorem w_X7_readWish_40 {x1 : Int32} {g : GM} {gz : GM} (C : CX p s m args meth c RX7 yX7_readWish cX7_readWish 3 none D cA) (hx : HM hr ad) {H : Heap} {locs : List Loc} (hw : WS D cA ev hr ad A KM s H locs g) {ls : Array Slot} (hl : lv_has ls 3 [(0, .ref (ad 0)), (1, .int x1)]) (h : F_X7_readWish_40 x1 g = some gz) : W p l e (RM 6 0 0) s m args below meth c H locs 0 0 (MQ below (QV D cA ev hr ad A KM gz) args s 0 0 A) (F0 m 40 ls []) := by
  refine lv_aload_n C.1.1 C.1.2.1 dX7_readWish_40 rfl (lv_at hl 0 rfl) ?_
  obtain ⟨r_24, hc, h⟩ := bnd_some h
  refine r_vI (dc := 1) (As := []) (rest := []) C hw vX7_81 km0 (by decide) rfl (fun sz => c_X7_isGood hx hc sz) (by decide) rfl rfl hl.1 (Nat.le_of_ble_eq_true rfl) dX7_readWish_41 ⟨Nat.le_refl _, Nat.le_refl _⟩ (fun H locs hw => ?_)
  refine lv_if_ne (tgt := 48) C.1.1 C.1.2.1 dX7_readWish_44 (by decide) (fun hc => ?_) (fun hc => ?_)
  · replace h := ite_neg' h hc
    refine lv_bipush (v := 10) C.1.1 C.1.2.1 dX7_readWish_48 (by decide) ?_
    refine lv_aload_n C.1.1 C.1.2.1 dX7_readWish_50 rfl (lv_at hl 0 rfl) ?_
    refine r_getI C hw km0 fX7_211 rfl dX7_readWish_51 ?_
    refine lv_imul C.1.1 C.1.2.1 dX7_readWish_54 ?_
    refine lv_aload_n C.1.1 C.1.2.1 dX7_readWish_55 rfl (lv_at hl 0 rfl) ?_
    refine r_getR (v := .ref (ad 14)) C hw km0 fX7_138 rfl (hm25 hx) dX7_readWish_56 ?_
    refine lv_aload_n C.1.1 C.1.2.1 dX7_readWish_59 rfl (lv_at hl 0 rfl) ?_
    refine r_getI C hw km0 fX7_211 rfl dX7_readWish_60 ?_
    obtain ⟨hz, h⟩ := ck_some h
    refine r_iald C hw km14 (inB_in hz) dX7_readWish_63 ?_
    refine lv_iadd C.1.1 C.1.2.1 dX7_readWish_64 ?_
    refine lv_istore_n (lv' := [(2, .int ((10 * (gi g 0 38)) + (gi g 14 (gi g 0 38).toNatClampNeg))), (0, .ref (ad 0)), (1, .int x1)]) C.1.1 C.1.2.1 dX7_readWish_65 rfl hl (by decide) rfl (fun ls hl => ?_)
    refine lt_gen (P := fun x => lv_has ls 3 [(2, .int x), (0, .ref (ad 0)), (1, .int x1)]) h hl (fun x2_25 h hl => ?_)
    refine lv_aload_n C.1.1 C.1.2.1 dX7_readWish_66 rfl (lv_at hl 1 rfl) ?_
    obtain ⟨g_26, hc, h⟩ := bnd_some h
    refine r_vV (dc := 2) (As := []) (rest := []) C hw vX7_85 km0 (by decide) rfl (fun sz => c_X7_next hx hc sz) (by decide) rfl rfl hl.1 (Nat.le_of_ble_eq_true rfl) dX7_readWish_67 ⟨Nat.le_refl _, Nat.le_refl _⟩ (fun H locs hw => ?_)
    refine lv_aload_n C.1.1 C.1.2.1 dX7_readWish_70 rfl (lv_at hl 1 rfl) ?_
    refine r_getR (v := .ref (ad 17)) C hw km0 fX7_226 rfl (hm28 hx) dX7_readWish_71 ?_
    refine lv_iload_n C.1.1 C.1.2.1 dX7_readWish_74 rfl (lv_at hl 0 rfl) ?_
    refine lv_iconst (v := (-1)) C.1.1 C.1.2.1 dX7_readWish_75 (by decide) ?_
    obtain ⟨hz, h⟩ := ck_some h
    refine r_iast C hw km17 (inB_in hz) dX7_readWish_76 (fun H locs hw => ?_)
    refine lt_gen (P := fun g => WS D cA ev hr ad A KM s H locs g) h hw (fun g_27 h hw => ?_)
    refine lv_iload_n C.1.1 C.1.2.1 dX7_readWish_77 rfl (lv_at hl 2 rfl) ?_
    refine lv_if_eq (tgt := 91) C.1.1 C.1.2.1 dX7_readWish_78 (by decide) (fun hc => ?_) (fun hc => ?_)
    · replace h := ite_pos' h hc
      exact w_X7_readWish_91 C hx hw (lv_sub hl [1, 2, 0] rfl) h
    · replace h := ite_neg' h hc
      refine lv_aload_n C.1.1 C.1.2.1 dX7_readWish_81 rfl (lv_at hl 1 rfl) ?_
      refine r_getR (v := .ref (ad 15)) C hw km0 fX7_229 rfl (hm26 hx) dX7_readWish_82 ?_
      refine lv_iload_n C.1.1 C.1.2.1 dX7_readWish_85 rfl (lv_at hl 0 rfl) ?_
      refine lv_aload_n C.1.1 C.1.2.1 dX7_readWish_86 rfl (lv_at hl 1 rfl) ?_
      obtain ⟨⟨r_28, g_29⟩, hc, h⟩ := bnd_some h
      refine r_vI (dc := 3) (As := []) (rest := [.int x2_25, .ref (ad 15)]) C hw vX7_232 km0 (by decide) rfl (fun sz => c_X7_aTable hx hc sz) (by decide) rfl rfl hl.1 (Nat.le_of_ble_eq_true rfl) dX7_readWish_87 ⟨Nat.le_refl _, Nat.le_refl _⟩ (fun H locs hw => ?_)
      obtain ⟨hz, h⟩ := ck_some h
      refine r_iast C hw km15 (inB_in hz) dX7_readWish_90 (fun H locs hw => ?_)
      refine lt_gen (P := fun g => WS D cA ev hr ad A KM s H locs g) h hw (fun g_30 h hw => ?_)
      exact w_X7_readWish_91 C hx hw (lv_sub hl [1, 2, 0] rfl) h
  · replace h := ite_pos' h hc
    cases h
    exact r_vret C hw rfl dX7_readWish_47
set_option maxHeartbeats 4000000 in
set_option maxRecDepth 100000 in
theorem w_X7_readWish_36 {x1 : Int32} {g : GM} {gz : GM} (C : CX p s m args meth c RX7 yX7_readWish cX7_readWish 3 none D cA) (hx : HM hr ad) {H : Heap} {locs : List Loc} (hw : WS D cA ev hr ad A KM s H locs g) {ls : Array Slot} (hl : lv_has ls 3 [(0, .ref (ad 0)), (1, .int x1)]) (h : F_X7_readWish_36 x1 g = some gz) : W p l e (RM 6 0 0) s m args below meth c H locs 0 0 (MQ below (QV D cA ev hr ad A KM gz) args s 0 0 A) (F0 m 36 ls []) := by
  refine lv_aload_n C.1.1 C.1.2.1 dX7_readWish_36 rfl (lv_at hl 0 rfl) ?_
  obtain ⟨g_31, hc, h⟩ := bnd_some h
  refine r_vV (dc := 2) (As := []) (rest := []) C hw vX7_89 km0 (by decide) rfl (fun sz => c_X7_wrong hx hc sz) (by decide) rfl rfl hl.1 (Nat.le_of_ble_eq_true rfl) dX7_readWish_37 ⟨Nat.le_refl _, Nat.le_refl _⟩ (fun H locs hw => ?_)
  exact w_X7_readWish_40 C hx hw hl h
set_option maxHeartbeats 4000000 in
set_option maxRecDepth 100000 in
theorem w_X7_readWish_22 {x1 : Int32} {g : GM} {gz : GM} (C : CX p s m args meth c RX7 yX7_readWish cX7_readWish 3 none D cA) (hx : HM hr ad) {H : Heap} {locs : List Loc} (hw : WS D cA ev hr ad A KM s H locs g) {ls : Array Slot} (hl : lv_has ls 3 [(0, .ref (ad 0)), (1, .int x1)]) (h : F_X7_readWish_22 x1 g = some gz) : W p l e (RM 6 0 0) s m args below meth c H locs 0 0 (MQ below (QV D cA ev hr ad A KM gz) args s 0 0 A) (F0 m 22 ls []) := by
  refine lv_aload_n C.1.1 C.1.2.1 dX7_readWish_22 rfl (lv_at hl 0 rfl) ?_
  refine r_getR (v := .ref (ad 14)) C hw km0 fX7_138 rfl (hm25 hx) dX7_readWish_23 ?_
  refine lv_aload_n C.1.1 C.1.2.1 dX7_readWish_26 rfl (lv_at hl 0 rfl) ?_
  refine r_getI C hw km0 fX7_211 rfl dX7_readWish_27 ?_
  obtain ⟨hz, h⟩ := ck_some h
  refine r_iald C hw km14 (inB_in hz) dX7_readWish_30 ?_
  refine lv_bipush (v := 10) C.1.1 C.1.2.1 dX7_readWish_31 (by decide) ?_
  refine lv_icmp_ne (tgt := 40) C.1.1 C.1.2.1 dX7_readWish_33 (by decide) (fun hc => ?_) (fun hc => ?_)
  · replace h := ite_neg' h hc
    exact w_X7_readWish_40 C hx hw hl h
  · replace h := ite_pos' h hc
    exact w_X7_readWish_36 C hx hw hl h
set_option maxHeartbeats 4000000 in
set_option maxRecDepth 100000 in
theorem w_X7_readWish_0 (C : CX p s m args meth c RX7 yX7_readWish cX7_readWish 3 none D cA) (hx : HM hr ad) {H : Heap} {locs : List Loc} {g : GM} (hw : WS D cA ev hr ad A KM s H locs g) {ls : Array Slot} (hl : lv_has ls 3 [(0, .ref (ad 0))]) {gz : GM} (h : F_X7_readWish g = some gz) : W p l e (RM 6 0 0) s m args below meth c H locs 0 0 (MQ below (QV D cA ev hr ad A KM gz) args s 0 0 A) (F0 m 0 ls []) := by
  refine lv_aload_n C.1.1 C.1.2.1 dX7_readWish_0 rfl (lv_at hl 0 rfl) ?_
  refine lv_ldc2 (v := 7102839) C.1.1 C.1.2.1 C.1.2.2.2.1 (C.w kc814) dX7_readWish_1 ?_
  obtain ⟨r_32, hc, h⟩ := bnd_some h
  refine r_vI (dc := 1) (As := [.long 7102839]) (rest := []) C hw vX7_125 km0 (by decide) rfl (fun sz => c_X7_isWord hx hc sz) (by decide) rfl rfl hl.1 (Nat.le_of_ble_eq_true rfl) dX7_readWish_4 ⟨Nat.le_refl _, Nat.le_refl _⟩ (fun H locs hw => ?_)
  refine lv_istore_n (lv' := [(1, .int r_32), (0, .ref (ad 0))]) C.1.1 C.1.2.1 dX7_readWish_7 rfl hl (by decide) rfl (fun ls hl => ?_)
  refine lt_gen (P := fun x => lv_has ls 3 [(1, .int x), (0, .ref (ad 0))]) h hl (fun x1_33 h hl => ?_)
  refine lv_iload_n C.1.1 C.1.2.1 dX7_readWish_8 rfl (lv_at hl 0 rfl) ?_
  refine lv_if_ne (tgt := 22) C.1.1 C.1.2.1 dX7_readWish_9 (by decide) (fun hc => ?_) (fun hc => ?_)
  · replace h := ite_neg' h hc
    exact w_X7_readWish_22 C hx hw (lv_sub hl [1, 0] rfl) h
  · replace h := ite_pos' h hc
    refine lv_aload_n C.1.1 C.1.2.1 dX7_readWish_12 rfl (lv_at hl 1 rfl) ?_
    refine lv_ldc2 (v := 2003399528) C.1.1 C.1.2.1 C.1.2.2.2.1 (C.w kc813) dX7_readWish_13 ?_
    obtain ⟨r_34, hc, h⟩ := bnd_some h
    refine r_vI (dc := 1) (As := [.long 2003399528]) (rest := []) C hw vX7_125 km0 (by decide) rfl (fun sz => c_X7_isWord hx hc sz) (by decide) rfl rfl hl.1 (Nat.le_of_ble_eq_true rfl) dX7_readWish_16 ⟨Nat.le_refl _, Nat.le_refl _⟩ (fun H locs hw => ?_)
    refine lv_if_eq (tgt := 36) C.1.1 C.1.2.1 dX7_readWish_19 (by decide) (fun hc => ?_) (fun hc => ?_)
    · replace h := ite_pos' h hc
      exact w_X7_readWish_36 C hx hw (lv_sub hl [1, 0] rfl) h
    · replace h := ite_neg' h hc
      exact w_X7_readWish_22 C hx hw (lv_sub hl [1, 0] rfl) h
set_option maxHeartbeats 4000000 in
set_option maxRecDepth 100000 in
theorem c_X7_readWish (hx : HM hr ad) {g : GM} {gz : GM} (h : F_X7_readWish g = some gz) (sz : Nat) : Met l yX7_readWish (WSX yX7_readWish cX7_readWish 3 none) (RM 6 0 0) (va_Pc [.ref (ad 0)] (PX D cA ev hr ad KM g sz)) (QV D cA ev hr ad (AX ad KM.length sz) KM gz) 0 0 (AX ad KM.length sz) :=
  met_of (own := RX7) pnX7 rfl (Nat.le_of_ble_eq_true rfl) (fun p e s m below meth c ls C hw hsz hl => w_X7_readWish_0 C hx hw hl h)
set_option maxHeartbeats 4000000 in
set_option maxRecDepth 100000 in
theorem w_X7_wishes_78 {g : GM} {r : Int32} {gz : GM} (C : CX p s m args meth c RX7 yX7_wishes cX7_wishes 1 (some .int) D cA) (hx : HM hr ad) {H : Heap} {locs : List Loc} (hw : WS D cA ev hr ad A KM s H locs g) {ls : Array Slot} (hl : lv_has ls 1 [(0, .ref (ad 0))]) (h : F_X7_wishes_78 g = some (r, gz)) : W p l e (RM 7 0 0) s m args below meth c H locs 0 0 (MQ below (QI D cA ev hr ad A KM r gz) args s 0 0 A) (F0 m 78 ls []) := by
  refine lv_aload_n C.1.1 C.1.2.1 dX7_wishes_78 rfl (lv_at hl 0 rfl) ?_
  obtain ⟨r_1, hc, h⟩ := bnd_some h
  refine r_vI (dc := 1) (As := []) (rest := []) C hw vX7_81 km0 (by decide) rfl (fun sz => c_X7_isGood hx hc sz) (by decide) rfl rfl hl.1 (Nat.le_of_ble_eq_true rfl) dX7_wishes_79 ⟨Nat.le_refl _, Nat.le_refl _⟩ (fun H locs hw => ?_)
  refine lv_if_ne (tgt := 87) C.1.1 C.1.2.1 dX7_wishes_82 (by decide) (fun hc => ?_) (fun hc => ?_)
  · replace h := ite_neg' h hc
    refine lv_aload_n C.1.1 C.1.2.1 dX7_wishes_87 rfl (lv_at hl 0 rfl) ?_
    refine lv_aload_n C.1.1 C.1.2.1 dX7_wishes_88 rfl (lv_at hl 0 rfl) ?_
    refine r_getI C hw km0 fX7_211 rfl dX7_wishes_89 ?_
    refine r_putI C hw km0 fX7_141 rfl rfl (Or.inl rfl) dX7_wishes_92 (fun H locs hw => ?_)
    refine lt_gen (P := fun g => WS D cA ev hr ad A KM s H locs g) h hw (fun g_2 h hw => ?_)
    refine lv_aload_n C.1.1 C.1.2.1 dX7_wishes_95 rfl (lv_at hl 0 rfl) ?_
    refine lv_iconst (v := 0) C.1.1 C.1.2.1 dX7_wishes_96 (by decide) ?_
    refine r_putZ C hw km0 fX7_153 rfl rfl (Or.inl rfl) (Or.inl rfl) dX7_wishes_97 (fun H locs hw => ?_)
    refine lt_gen (P := fun g => WS D cA ev hr ad A KM s H locs g) h hw (fun g_3 h hw => ?_)
    refine lv_aload_n C.1.1 C.1.2.1 dX7_wishes_100 rfl (lv_at hl 0 rfl) ?_
    refine r_getR (v := .ref (ad 14)) C hw km0 fX7_138 rfl (hm25 hx) dX7_wishes_101 ?_
    refine lv_aload_n C.1.1 C.1.2.1 dX7_wishes_104 rfl (lv_at hl 0 rfl) ?_
    refine r_getI C hw km0 fX7_141 rfl dX7_wishes_105 ?_
    obtain ⟨hz, h⟩ := ck_some h
    refine r_iald C hw km14 (inB_in hz) dX7_wishes_108 ?_
    cases h
    exact r_iret C hw (Or.inl rfl) dX7_wishes_109
  · replace h := ite_pos' h hc
    refine lv_iconst (v := (-1)) C.1.1 C.1.2.1 dX7_wishes_85 (by decide) ?_
    cases h
    exact r_iret C hw (Or.inl rfl) dX7_wishes_86
set_option maxHeartbeats 4000000 in
set_option maxRecDepth 100000 in
theorem w_X7_wishes_57 {r : Int32} {gz : GM} (kb57 : GM → Option (Int32 × GM)) (hk57 : ∀ (g : GM) (H : Heap) (locs : List Loc) (ls : Array Slot), WS D cA ev hr ad A KM s H locs g → lv_has ls 1 [(0, .ref (ad 0))] → kb57 g = some (r, gz) → W p l e (RM 7 0 0) s m args below meth c H locs 0 0 (MQ below (QI D cA ev hr ad A KM r gz) args s 0 0 A) (F0 m 57 ls [])) (C : CX p s m args meth c RX7 yX7_wishes cX7_wishes 1 (some .int) D cA) (hx : HM hr ad) {H : Heap} {locs : List Loc} {g : GM} (hw : WS D cA ev hr ad A KM s H locs g) {ls : Array Slot} (hl : lv_has ls 1 [(0, .ref (ad 0))]) (h : F_X7_wishes_57B kb57 g = some (r, gz)) : W p l e (RM 7 0 0) s m args below meth c H locs 0 0 (MQ below (QI D cA ev hr ad A KM r gz) args s 0 0 A) (F0 m 57 ls []) := by
  refine lv_aload_n C.1.1 C.1.2.1 dX7_wishes_57 rfl (lv_at hl 0 rfl) ?_
  obtain ⟨r_4, hc, h⟩ := bnd_some h
  refine r_vI (dc := 1) (As := []) (rest := []) C hw vX7_81 km0 (by decide) rfl (fun sz => c_X7_isGood hx hc sz) (by decide) rfl rfl hl.1 (Nat.le_of_ble_eq_true rfl) dX7_wishes_58 ⟨Nat.le_refl _, Nat.le_refl _⟩ (fun H locs hw => ?_)
  refine lv_if_eq (tgt := 78) C.1.1 C.1.2.1 dX7_wishes_61 (by decide) (fun hc => ?_) (fun hc => ?_)
  · replace h := ite_pos' h hc
    exact w_X7_wishes_78 C hx hw hl h
  · replace h := ite_neg' h hc
    refine lv_aload_n C.1.1 C.1.2.1 dX7_wishes_64 rfl (lv_at hl 0 rfl) ?_
    refine r_getI C hw km0 fX7_53 rfl dX7_wishes_65 ?_
    refine lv_if_eq (tgt := 78) C.1.1 C.1.2.1 dX7_wishes_68 (by decide) (fun hc => ?_) (fun hc => ?_)
    · replace h := ite_pos' h hc
      exact w_X7_wishes_78 C hx hw hl h
    · replace h := ite_neg' h hc
      refine lv_aload_n C.1.1 C.1.2.1 dX7_wishes_71 rfl (lv_at hl 0 rfl) ?_
      obtain ⟨g_5, hc, h⟩ := bnd_some h
      refine r_vV (dc := 6) (As := []) (rest := []) C hw vX7_223 km0 (by decide) rfl (fun sz => c_X7_readWish hx hc sz) (by decide) rfl rfl hl.1 (Nat.le_of_ble_eq_true rfl) dX7_wishes_72 ⟨Nat.le_refl _, Nat.le_refl _⟩ (fun H locs hw => ?_)
      refine lv_goto (tgt := 57) C.1.1 C.1.2.1 dX7_wishes_75 (by decide) ?_
      exact hk57 _ _ _ _ hw hl h
set_option maxHeartbeats 4000000 in
set_option maxRecDepth 100000 in
theorem w_X7_wishes_57L {r : Int32} {gz : GM} (C : CX p s m args meth c RX7 yX7_wishes cX7_wishes 1 (some .int) D cA) (hx : HM hr ad) : ∀ (n : Nat) (g : GM) (H : Heap) (locs : List Loc) (ls : Array Slot), WS D cA ev hr ad A KM s H locs g → lv_has ls 1 [(0, .ref (ad 0))] → fixN (F_X7_wishes_57B) n g = some (r, gz) → W p l e (RM 7 0 0) s m args below meth c H locs 0 0 (MQ below (QI D cA ev hr ad A KM r gz) args s 0 0 A) (F0 m 57 ls []) := by
  intro n
  induction n with
  | zero => intro g H locs ls hw hl h; exact (fix_zero h).elim
  | succ n ih => intro g H locs ls hw hl h; exact w_X7_wishes_57 (fixN (F_X7_wishes_57B) n) ih C hx hw hl h
set_option maxHeartbeats 4000000 in
set_option maxRecDepth 100000 in
theorem w_X7_wishes_0 (C : CX p s m args meth c RX7 yX7_wishes cX7_wishes 1 (some .int) D cA) (hx : HM hr ad) {H : Heap} {locs : List Loc} {g : GM} (hw : WS D cA ev hr ad A KM s H locs g) {ls : Array Slot} (hl : lv_has ls 1 [(0, .ref (ad 0))]) {r : Int32} {gz : GM} (h : F_X7_wishes g = some (r, gz)) : W p l e (RM 7 0 0) s m args below meth c H locs 0 0 (MQ below (QI D cA ev hr ad A KM r gz) args s 0 0 A) (F0 m 0 ls []) := by
  refine lv_aload_n C.1.1 C.1.2.1 dX7_wishes_0 rfl (lv_at hl 0 rfl) ?_
  refine r_getI C hw km0 fX7_92 rfl dX7_wishes_1 ?_
  refine lv_sipush (v := 600) C.1.1 C.1.2.1 dX7_wishes_4 (by decide) ?_
  refine lv_icmp_le (tgt := 13) C.1.1 C.1.2.1 dX7_wishes_7 (by decide) (fun hc => ?_) (fun hc => ?_)
  · replace h := ite_pos' h hc
    refine lv_aload_n C.1.1 C.1.2.1 dX7_wishes_13 rfl (lv_at hl 0 rfl) ?_
    refine lv_iconst (v := 1) C.1.1 C.1.2.1 dX7_wishes_14 (by decide) ?_
    obtain ⟨g_6, hc, h⟩ := bnd_some h
    refine r_vV (dc := 1) (As := [.int 1]) (rest := []) C hw vX7_112 km0 (by decide) rfl (fun sz => c_X7_takeTape hx hc sz) (by decide) rfl rfl hl.1 (Nat.le_of_ble_eq_true rfl) dX7_wishes_15 ⟨Nat.le_refl _, Nat.le_refl _⟩ (fun H locs hw => ?_)
    refine lv_aload_n C.1.1 C.1.2.1 dX7_wishes_18 rfl (lv_at hl 0 rfl) ?_
    refine lv_iconst (v := 1) C.1.1 C.1.2.1 dX7_wishes_19 (by decide) ?_
    refine lv_aload_n C.1.1 C.1.2.1 dX7_wishes_20 rfl (lv_at hl 0 rfl) ?_
    refine r_getI C hw km0 fX7_141 rfl dX7_wishes_21 ?_
    refine lv_isub C.1.1 C.1.2.1 dX7_wishes_24 ?_
    refine r_putI C hw km0 fX7_211 rfl rfl (Or.inl rfl) dX7_wishes_25 (fun H locs hw => ?_)
    refine lt_gen (P := fun g => WS D cA ev hr ad A KM s H locs g) h hw (fun g_7 h hw => ?_)
    refine lv_aload_n C.1.1 C.1.2.1 dX7_wishes_28 rfl (lv_at hl 0 rfl) ?_
    refine r_getR (v := .ref (ad 14)) C hw km0 fX7_138 rfl (hm25 hx) dX7_wishes_29 ?_
    refine lv_aload_n C.1.1 C.1.2.1 dX7_wishes_32 rfl (lv_at hl 0 rfl) ?_
    refine r_getI C hw km0 fX7_211 rfl dX7_wishes_33 ?_
    refine lv_iconst (v := 0) C.1.1 C.1.2.1 dX7_wishes_36 (by decide) ?_
    obtain ⟨hz, h⟩ := ck_some h
    refine r_iast C hw km14 (inB_in hz) dX7_wishes_37 (fun H locs hw => ?_)
    refine lt_gen (P := fun g => WS D cA ev hr ad A KM s H locs g) h hw (fun g_8 h hw => ?_)
    refine lv_aload_n C.1.1 C.1.2.1 dX7_wishes_38 rfl (lv_at hl 0 rfl) ?_
    refine lv_iconst (v := 0) C.1.1 C.1.2.1 dX7_wishes_39 (by decide) ?_
    refine r_putI C hw km0 fX7_214 rfl rfl (Or.inl rfl) dX7_wishes_40 (fun H locs hw => ?_)
    refine lt_gen (P := fun g => WS D cA ev hr ad A KM s H locs g) h hw (fun g_9 h hw => ?_)
    refine lv_aload_n C.1.1 C.1.2.1 dX7_wishes_43 rfl (lv_at hl 0 rfl) ?_
    refine lv_iconst (v := 0) C.1.1 C.1.2.1 dX7_wishes_44 (by decide) ?_
    refine r_putI C hw km0 fX7_217 rfl rfl (Or.inl rfl) dX7_wishes_45 (fun H locs hw => ?_)
    refine lt_gen (P := fun g => WS D cA ev hr ad A KM s H locs g) h hw (fun g_10 h hw => ?_)
    refine lv_aload_n C.1.1 C.1.2.1 dX7_wishes_48 rfl (lv_at hl 0 rfl) ?_
    refine lv_iconst (v := 0) C.1.1 C.1.2.1 dX7_wishes_49 (by decide) ?_
    refine r_putI C hw km0 fX7_220 rfl rfl (Or.inl rfl) dX7_wishes_50 (fun H locs hw => ?_)
    refine lt_gen (P := fun g => WS D cA ev hr ad A KM s H locs g) h hw (fun g_11 h hw => ?_)
    refine lv_aload_n C.1.1 C.1.2.1 dX7_wishes_53 rfl (lv_at hl 0 rfl) ?_
    obtain ⟨g_12, hc, h⟩ := bnd_some h
    refine r_vV (dc := 2) (As := []) (rest := []) C hw vX7_85 km0 (by decide) rfl (fun sz => c_X7_next hx hc sz) (by decide) rfl rfl hl.1 (Nat.le_of_ble_eq_true rfl) dX7_wishes_54 ⟨Nat.le_refl _, Nat.le_refl _⟩ (fun H locs hw => ?_)
    exact w_X7_wishes_57L C hx FU _ _ _ _ hw hl h
  · replace h := ite_neg' h hc
    refine lv_bipush (v := (-2)) C.1.1 C.1.2.1 dX7_wishes_10 (by decide) ?_
    cases h
    exact r_iret C hw (Or.inl rfl) dX7_wishes_12
set_option maxHeartbeats 4000000 in
set_option maxRecDepth 100000 in
theorem c_X7_wishes (hx : HM hr ad) {g : GM} {r : Int32} {gz : GM} (h : F_X7_wishes g = some (r, gz)) (sz : Nat) : Met l yX7_wishes (WSX yX7_wishes cX7_wishes 1 (some .int)) (RM 7 0 0) (va_Pc [.ref (ad 0)] (PX D cA ev hr ad KM g sz)) (QI D cA ev hr ad (AX ad KM.length sz) KM r gz) 0 0 (AX ad KM.length sz) :=
  met_of (own := RX7) pnX7 rfl (Nat.le_of_ble_eq_true rfl) (fun p e s m below meth c ls C hw hsz hl => w_X7_wishes_0 C hx hw hl h)
set_option maxHeartbeats 4000000 in
set_option maxRecDepth 100000 in
theorem w_X7_along_10 {x1 : Int32} {g : GM} {r : Int32} (kb10 : Int32 × Int32 → Option (Int32)) (hk10 : ∀ (x3 : Int32) (x4 : Int32) (H : Heap) (locs : List Loc) (ls : Array Slot), WS D cA ev hr ad A KM s H locs g → lv_has ls 5 [(0, .ref (ad 0)), (1, .int x1), (3, .int x3), (4, .int x4)] → kb10 (x3, x4) = some r → W p l e (RM 3 0 0) s m args below meth c H locs 0 0 (MQ below (QI D cA ev hr ad A KM r g) args s 0 0 A) (F0 m 10 ls [])) (C : CX p s m args meth c RX7 yX7_along cX7_along 5 (some .int) D cA) (hx : HM hr ad) {H : Heap} {locs : List Loc} {x3 : Int32} {x4 : Int32} (hw : WS D cA ev hr ad A KM s H locs g) {ls : Array Slot} (hl : lv_has ls 5 [(0, .ref (ad 0)), (1, .int x1), (3, .int x3), (4, .int x4)]) (h : F_X7_along_10B x1 g kb10 (x3, x4) = some r) : W p l e (RM 3 0 0) s m args below meth c H locs 0 0 (MQ below (QI D cA ev hr ad A KM r g) args s 0 0 A) (F0 m 10 ls []) := by
  refine lv_iload C.1.1 C.1.2.1 dX7_along_10 (lv_at hl 3 rfl) ?_
  refine lv_aload_n C.1.1 C.1.2.1 dX7_along_12 rfl (lv_at hl 0 rfl) ?_
  refine r_getR (v := .ref (ad 24)) C hw km0 fX7_293 rfl (hm35 hx) dX7_along_13 ?_
  refine lv_iload_n C.1.1 C.1.2.1 dX7_along_16 rfl (lv_at hl 1 rfl) ?_
  obtain ⟨hz, h⟩ := ck_some h
  refine r_iald C hw km24 (inB_in hz) dX7_along_17 ?_
  refine lv_icmp_ge (tgt := 44) C.1.1 C.1.2.1 dX7_along_18 (by decide) (fun hc => ?_) (fun hc => ?_)
  · replace h := ite_pos' h hc
    refine lv_iload_n C.1.1 C.1.2.1 dX7_along_44 rfl (lv_at hl 2 rfl) ?_
    cases h
    exact r_iret C hw (Or.inl rfl) dX7_along_45
  · replace h := ite_neg' h hc
    refine lv_iload_n C.1.1 C.1.2.1 dX7_along_21 rfl (lv_at hl 2 rfl) ?_
    refine lv_if_lt (tgt := 44) C.1.1 C.1.2.1 dX7_along_22 (by decide) (fun hc => ?_) (fun hc => ?_)
    · replace h := ite_pos' h hc
      refine lv_iload_n C.1.1 C.1.2.1 dX7_along_44 rfl (lv_at hl 2 rfl) ?_
      cases h
      exact r_iret C hw (Or.inl rfl) dX7_along_45
    · replace h := ite_neg' h hc
      refine lv_aload_n C.1.1 C.1.2.1 dX7_along_25 rfl (lv_at hl 0 rfl) ?_
      refine lv_iload_n C.1.1 C.1.2.1 dX7_along_26 rfl (lv_at hl 2 rfl) ?_
      refine lv_aload_n C.1.1 C.1.2.1 dX7_along_27 rfl (lv_at hl 0 rfl) ?_
      refine r_getR (v := .ref (ad 25)) C hw km0 fX7_290 rfl (hm36 hx) dX7_along_28 ?_
      refine lv_iload C.1.1 C.1.2.1 dX7_along_31 (lv_at hl 3 rfl) ?_
      obtain ⟨hz, h⟩ := ck_some h
      refine r_iald C hw km25 (inB_in hz) dX7_along_33 ?_
      obtain ⟨r_1, hc, h⟩ := bnd_some h
      refine r_vI (dc := 2) (As := [.int x3, .int (gi g 25 x4.toNatClampNeg)]) (rest := []) C hw vX7_207 km0 (by decide) rfl (fun sz => c_X7_valueAt hx hc sz) (by decide) rfl rfl hl.1 (Nat.le_of_ble_eq_true rfl) dX7_along_34 ⟨Nat.le_refl _, Nat.le_refl _⟩ (fun H locs hw => ?_)
      refine lv_istore_n (lv' := [(3, .int r_1), (0, .ref (ad 0)), (1, .int x1), (4, .int x4)]) C.1.1 C.1.2.1 dX7_along_37 rfl hl (by decide) rfl (fun ls hl => ?_)
      refine lt_gen (P := fun x => lv_has ls 5 [(3, .int x), (0, .ref (ad 0)), (1, .int x1), (4, .int x4)]) h hl (fun x3_2 h hl => ?_)
      refine lv_iinc (v := x4 + 1) (lv' := [(4, .int (x4 + 1)), (3, .int x3_2), (0, .ref (ad 0)), (1, .int x1)]) C.1.1 C.1.2.1 dX7_along_38 hl (k := 3) rfl rfl (by decide) rfl (fun ls hl => ?_)
      refine lt_gen (P := fun x => lv_has ls 5 [(4, .int x), (3, .int x3_2), (0, .ref (ad 0)), (1, .int x1)]) h hl (fun x4_3 h hl => ?_)
      refine lv_goto (tgt := 10) C.1.1 C.1.2.1 dX7_along_41 (by decide) ?_
      exact hk10 _ _ _ _ _ hw (lv_sub hl [2, 3, 1, 0] rfl) h
set_option maxHeartbeats 4000000 in
set_option maxRecDepth 100000 in
theorem w_X7_along_10L {x1 : Int32} {g : GM} {r : Int32} (C : CX p s m args meth c RX7 yX7_along cX7_along 5 (some .int) D cA) (hx : HM hr ad) : ∀ (n : Nat) (x3 : Int32) (x4 : Int32) (H : Heap) (locs : List Loc) (ls : Array Slot), WS D cA ev hr ad A KM s H locs g → lv_has ls 5 [(0, .ref (ad 0)), (1, .int x1), (3, .int x3), (4, .int x4)] → fixN (F_X7_along_10B x1 g) n (x3, x4) = some r → W p l e (RM 3 0 0) s m args below meth c H locs 0 0 (MQ below (QI D cA ev hr ad A KM r g) args s 0 0 A) (F0 m 10 ls []) := by
  intro n
  induction n with
  | zero => intro x3 x4 H locs ls hw hl h; exact (fix_zero h).elim
  | succ n ih => intro x3 x4 H locs ls hw hl h; exact w_X7_along_10 (fixN (F_X7_along_10B x1 g) n) ih C hx hw hl h
set_option maxHeartbeats 4000000 in
set_option maxRecDepth 100000 in
theorem w_X7_along_0 (C : CX p s m args meth c RX7 yX7_along cX7_along 5 (some .int) D cA) (hx : HM hr ad) {H : Heap} {locs : List Loc} {g : GM} (hw : WS D cA ev hr ad A KM s H locs g) {a1 : Int32} {a2 : Int32} {ls : Array Slot} (hl : lv_has ls 5 [(0, .ref (ad 0)), (1, .int a1), (2, .int a2)]) {r : Int32} (h : F_X7_along a1 a2 g = some r) : W p l e (RM 3 0 0) s m args below meth c H locs 0 0 (MQ below (QI D cA ev hr ad A KM r g) args s 0 0 A) (F0 m 0 ls []) := by
  refine lv_iload_n C.1.1 C.1.2.1 dX7_along_0 rfl (lv_at hl 2 rfl) ?_
  refine lv_istore_n (lv' := [(3, .int a2), (0, .ref (ad 0)), (1, .int a1), (2, .int a2)]) C.1.1 C.1.2.1 dX7_along_1 rfl hl (by decide) rfl (fun ls hl => ?_)
  refine lv_aload_n C.1.1 C.1.2.1 dX7_along_2 rfl (lv_at hl 1 rfl) ?_
  refine r_getR (v := .ref (ad 23)) C hw km0 fX7_287 rfl (hm34 hx) dX7_along_3 ?_
  refine lv_iload_n C.1.1 C.1.2.1 dX7_along_6 rfl (lv_at hl 2 rfl) ?_
  obtain ⟨hz, h⟩ := ck_some h
  refine r_iald C hw km23 (inB_in hz) dX7_along_7 ?_
  refine lv_istore (lv' := [(4, .int (gi g 23 a1.toNatClampNeg)), (3, .int a2), (0, .ref (ad 0)), (1, .int a1), (2, .int a2)]) C.1.1 C.1.2.1 dX7_along_8 hl (by decide) rfl (fun ls hl => ?_)
  refine lt_gen (P := fun x => lv_has ls 5 [(4, .int x), (3, .int a2), (0, .ref (ad 0)), (1, .int a1), (2, .int a2)]) h hl (fun x4_4 h hl => ?_)
  exact w_X7_along_10L C hx FU _ _ _ _ _ hw (lv_sub hl [2, 3, 1, 0] rfl) h
set_option maxHeartbeats 4000000 in
set_option maxRecDepth 100000 in
theorem c_X7_along (hx : HM hr ad) {a1 : Int32} {a2 : Int32} {g : GM} {r : Int32} (h : F_X7_along a1 a2 g = some r) (sz : Nat) : Met l yX7_along (WSX yX7_along cX7_along 5 (some .int)) (RM 3 0 0) (va_Pc [.ref (ad 0), .int a1, .int a2] (PX D cA ev hr ad KM g sz)) (QI D cA ev hr ad (AX ad KM.length sz) KM r g) 0 0 (AX ad KM.length sz) :=
  met_of (own := RX7) pnX7 rfl (Nat.le_of_ble_eq_true rfl) (fun p e s m below meth c ls C hw hsz hl => w_X7_along_0 C hx hw hl h)
set_option maxHeartbeats 4000000 in
set_option maxRecDepth 100000 in
theorem w_X7_related_48 {g : GM} {r : Int32} (C : CX p s m args meth c RX7 yX7_related cX7_related 3 (some .boolean) D cA) (hx : HM hr ad) {H : Heap} {locs : List Loc} (hw : WS D cA ev hr ad A KM s H locs g) {ls : Array Slot} (hl : lv_has ls 3 []) (h : F_X7_related_48 = some r) : W p l e (RM 1 0 0) s m args below meth c H locs 0 0 (MQ below (QI D cA ev hr ad A KM r g) args s 0 0 A) (F0 m 48 ls []) := by
  refine lv_iconst (v := 0) C.1.1 C.1.2.1 dX7_related_48 (by decide) ?_
  cases h
  exact r_iret C hw (Or.inr ⟨rfl, Or.inl rfl⟩) dX7_related_49
set_option maxHeartbeats 4000000 in
set_option maxRecDepth 100000 in
theorem w_X7_related_44 {g : GM} {r : Int32} (C : CX p s m args meth c RX7 yX7_related cX7_related 3 (some .boolean) D cA) (hx : HM hr ad) {H : Heap} {locs : List Loc} (hw : WS D cA ev hr ad A KM s H locs g) {ls : Array Slot} (hl : lv_has ls 3 []) (h : F_X7_related_44 = some r) : W p l e (RM 1 0 0) s m args below meth c H locs 0 0 (MQ below (QI D cA ev hr ad A KM r g) args s 0 0 A) (F0 m 44 ls []) := by
  refine lv_iconst (v := 1) C.1.1 C.1.2.1 dX7_related_44 (by decide) ?_
  refine lv_goto (tgt := 49) C.1.1 C.1.2.1 dX7_related_45 (by decide) ?_
  cases h
  exact r_iret C hw (Or.inr ⟨rfl, Or.inr rfl⟩) dX7_related_49
set_option maxHeartbeats 4000000 in
set_option maxRecDepth 100000 in
theorem w_X7_related_0 (C : CX p s m args meth c RX7 yX7_related cX7_related 3 (some .boolean) D cA) (hx : HM hr ad) {H : Heap} {locs : List Loc} {g : GM} (hw : WS D cA ev hr ad A KM s H locs g) {a0 : Int32} {a1 : Int32} {a2 : Int32} {ls : Array Slot} (hl : lv_has ls 3 [(0, .int a0), (1, .int a1), (2, .int a2)]) {r : Int32} (h : F_X7_related a0 a1 a2 = some r) : W p l e (RM 1 0 0) s m args below meth c H locs 0 0 (MQ below (QI D cA ev hr ad A KM r g) args s 0 0 A) (F0 m 0 ls []) := by
  refine lv_iload_n C.1.1 C.1.2.1 dX7_related_0 rfl (lv_at hl 0 rfl) ?_
  refine lv_bipush (v := 61) C.1.1 C.1.2.1 dX7_related_1 (by decide) ?_
  refine lv_icmp_ne (tgt := 17) C.1.1 C.1.2.1 dX7_related_3 (by decide) (fun hc => ?_) (fun hc => ?_)
  · replace h := ite_neg' h hc
    refine lv_iload_n C.1.1 C.1.2.1 dX7_related_17 rfl (lv_at hl 1 rfl) ?_
    refine lv_if_lt (tgt := 48) C.1.1 C.1.2.1 dX7_related_18 (by decide) (fun hc => ?_) (fun hc => ?_)
    · replace h := ite_pos' h hc
      exact w_X7_related_48 C hx hw (lv_sub hl [] rfl) h
    · replace h := ite_neg' h hc
      refine lv_iload_n C.1.1 C.1.2.1 dX7_related_21 rfl (lv_at hl 2 rfl) ?_
      refine lv_if_lt (tgt := 48) C.1.1 C.1.2.1 dX7_related_22 (by decide) (fun hc => ?_) (fun hc => ?_)
      · replace h := ite_pos' h hc
        exact w_X7_related_48 C hx hw (lv_sub hl [] rfl) h
      · replace h := ite_neg' h hc
        refine lv_iload_n C.1.1 C.1.2.1 dX7_related_25 rfl (lv_at hl 0 rfl) ?_
        refine lv_bipush (v := 60) C.1.1 C.1.2.1 dX7_related_26 (by decide) ?_
        refine lv_icmp_ne (tgt := 39) C.1.1 C.1.2.1 dX7_related_28 (by decide) (fun hc => ?_) (fun hc => ?_)
        · replace h := ite_neg' h hc
          refine lv_iload_n C.1.1 C.1.2.1 dX7_related_39 rfl (lv_at hl 1 rfl) ?_
          refine lv_iload_n C.1.1 C.1.2.1 dX7_related_40 rfl (lv_at hl 2 rfl) ?_
          refine lv_icmp_le (tgt := 48) C.1.1 C.1.2.1 dX7_related_41 (by decide) (fun hc => ?_) (fun hc => ?_)
          · replace h := ite_pos' h hc
            exact w_X7_related_48 C hx hw (lv_sub hl [] rfl) h
          · replace h := ite_neg' h hc
            exact w_X7_related_44 C hx hw (lv_sub hl [] rfl) h
        · replace h := ite_pos' h hc
          refine lv_iload_n C.1.1 C.1.2.1 dX7_related_31 rfl (lv_at hl 1 rfl) ?_
          refine lv_iload_n C.1.1 C.1.2.1 dX7_related_32 rfl (lv_at hl 2 rfl) ?_
          refine lv_icmp_ge (tgt := 48) C.1.1 C.1.2.1 dX7_related_33 (by decide) (fun hc => ?_) (fun hc => ?_)
          · replace h := ite_pos' h hc
            exact w_X7_related_48 C hx hw (lv_sub hl [] rfl) h
          · replace h := ite_neg' h hc
            refine lv_goto (tgt := 44) C.1.1 C.1.2.1 dX7_related_36 (by decide) ?_
            exact w_X7_related_44 C hx hw (lv_sub hl [] rfl) h
  · replace h := ite_pos' h hc
    refine lv_iload_n C.1.1 C.1.2.1 dX7_related_6 rfl (lv_at hl 1 rfl) ?_
    refine lv_iload_n C.1.1 C.1.2.1 dX7_related_7 rfl (lv_at hl 2 rfl) ?_
    refine lv_icmp_ne (tgt := 15) C.1.1 C.1.2.1 dX7_related_8 (by decide) (fun hc => ?_) (fun hc => ?_)
    · replace h := ite_neg' h hc
      refine lv_iconst (v := 0) C.1.1 C.1.2.1 dX7_related_15 (by decide) ?_
      cases h
      exact r_iret C hw (Or.inr ⟨rfl, Or.inl rfl⟩) dX7_related_16
    · replace h := ite_pos' h hc
      refine lv_iconst (v := 1) C.1.1 C.1.2.1 dX7_related_11 (by decide) ?_
      refine lv_goto (tgt := 16) C.1.1 C.1.2.1 dX7_related_12 (by decide) ?_
      cases h
      exact r_iret C hw (Or.inr ⟨rfl, Or.inr rfl⟩) dX7_related_16
set_option maxHeartbeats 4000000 in
set_option maxRecDepth 100000 in
theorem c_X7_related (hx : HM hr ad) {a0 : Int32} {a1 : Int32} {a2 : Int32} {g : GM} {r : Int32} (h : F_X7_related a0 a1 a2 = some r) (sz : Nat) : Met l yX7_related (WSX yX7_related cX7_related 3 (some .boolean)) (RM 1 0 0) (va_Pc [.int a0, .int a1, .int a2] (PX D cA ev hr ad KM g sz)) (QI D cA ev hr ad (AX ad KM.length sz) KM r g) 0 0 (AX ad KM.length sz) :=
  met_of (own := RX7) pnX7 rfl (Nat.le_of_ble_eq_true rfl) (fun p e s m below meth c ls C hw hsz hl => w_X7_related_0 C hx hw hl h)
set_option maxHeartbeats 4000000 in
set_option maxRecDepth 100000 in
theorem w_X7_holdsFor_239 {g : GM} {r : Int32} {gz : GM} (C : CX p s m args meth c RX7 yX7_holdsFor cX7_holdsFor 7 (some .boolean) D cA) (hx : HM hr ad) {H : Heap} {locs : List Loc} (hw : WS D cA ev hr ad A KM s H locs g) {ls : Array Slot} (hl : lv_has ls 7 []) (h : F_X7_holdsFor_239 g = some (r, gz)) : W p l e (RM 4 0 0) s m args below meth c H locs 0 0 (MQ below (QI D cA ev hr ad A KM r gz) args s 0 0 A) (F0 m 239 ls []) := by
  refine lv_iconst (v := 1) C.1.1 C.1.2.1 dX7_holdsFor_239 (by decide) ?_
  refine lv_goto (tgt := 244) C.1.1 C.1.2.1 dX7_holdsFor_240 (by decide) ?_
  cases h
  exact r_iret C hw (Or.inr ⟨rfl, Or.inr rfl⟩) dX7_holdsFor_244
set_option maxHeartbeats 4000000 in
set_option maxRecDepth 100000 in
theorem w_X7_holdsFor_220 {x1 : Int32} {x2 : Int32} {x3 : Int32} {x4 : Int32} {x5 : Int32} {g : GM} {r : Int32} {gz : GM} (kb22 : Int32 × Int32 × Int32 × GM → Option (Int32 × GM)) (hk22 : ∀ (x3 : Int32) (x4 : Int32) (x5 : Int32) (g : GM) (H : Heap) (locs : List Loc) (ls : Array Slot), WS D cA ev hr ad A KM s H locs g → lv_has ls 7 [(0, .ref (ad 0)), (1, .int x1), (2, .int x2), (3, .int x3), (4, .int x4), (5, .int x5)] → kb22 (x3, x4, x5, g) = some (r, gz) → W p l e (RM 4 0 0) s m args below meth c H locs 0 0 (MQ below (QI D cA ev hr ad A KM r gz) args s 0 0 A) (F0 m 22 ls [])) (C : CX p s m args meth c RX7 yX7_holdsFor cX7_holdsFor 7 (some .boolean) D cA) (hx : HM hr ad) {H : Heap} {locs : List Loc} (hw : WS D cA ev hr ad A KM s H locs g) {ls : Array Slot} (hl : lv_has ls 7 [(0, .ref (ad 0)), (1, .int x1), (2, .int x2), (3, .int x3), (4, .int x4), (5, .int x5)]) (h : F_X7_holdsFor_220 kb22 x1 x2 x3 x4 x5 g = some (r, gz)) : W p l e (RM 4 0 0) s m args below meth c H locs 0 0 (MQ below (QI D cA ev hr ad A KM r gz) args s 0 0 A) (F0 m 220 ls []) := by
  refine lv_iinc (v := x5 + 1) (lv' := [(5, .int (x5 + 1)), (0, .ref (ad 0)), (1, .int x1), (2, .int x2), (3, .int x3), (4, .int x4)]) C.1.1 C.1.2.1 dX7_holdsFor_220 hl (k := 5) rfl rfl (by decide) rfl (fun ls hl => ?_)
  refine lt_gen (P := fun x => lv_has ls 7 [(5, .int x), (0, .ref (ad 0)), (1, .int x1), (2, .int x2), (3, .int x3), (4, .int x4)]) h hl (fun x5_1 h hl => ?_)
  refine lv_goto (tgt := 22) C.1.1 C.1.2.1 dX7_holdsFor_223 (by decide) ?_
  exact hk22 _ _ _ _ _ _ _ hw (lv_sub hl [1, 2, 3, 4, 5, 0] rfl) h
set_option maxHeartbeats 4000000 in
set_option maxRecDepth 100000 in
theorem w_X7_holdsFor_193 {x1 : Int32} {x2 : Int32} {x3 : Int32} {x4 : Int32} {x5 : Int32} {s0 : Int32} {s1 : Int32} {g : GM} {r : Int32} {gz : GM} (kb22 : Int32 × Int32 × Int32 × GM → Option (Int32 × GM)) (hk22 : ∀ (x3 : Int32) (x4 : Int32) (x5 : Int32) (g : GM) (H : Heap) (locs : List Loc) (ls : Array Slot), WS D cA ev hr ad A KM s H locs g → lv_has ls 7 [(0, .ref (ad 0)), (1, .int x1), (2, .int x2), (3, .int x3), (4, .int x4), (5, .int x5)] → kb22 (x3, x4, x5, g) = some (r, gz) → W p l e (RM 4 0 0) s m args below meth c H locs 0 0 (MQ below (QI D cA ev hr ad A KM r gz) args s 0 0 A) (F0 m 22 ls [])) (C : CX p s m args meth c RX7 yX7_holdsFor cX7_holdsFor 7 (some .boolean) D cA) (hx : HM hr ad) {H : Heap} {locs : List Loc} (hw : WS D cA ev hr ad A KM s H locs g) {ls : Array Slot} (hl : lv_has ls 7 [(0, .ref (ad 0)), (1, .int x1), (2, .int x2), (3, .int x3), (4, .int x4), (5, .int x5)]) (h : F_X7_holdsFor_193 kb22 x1 x2 x3 x4 x5 s0 s1 g = some (r, gz)) : W p l e (RM 4 0 0) s m args below meth c H locs 0 0 (MQ below (QI D cA ev hr ad A KM r gz) args s 0 0 A) (F0 m 193 ls [.int s0, .int s1, .ref (ad 27)]) := by
  obtain ⟨hz, h⟩ := ck_some h
  obtain ⟨hz2, h⟩ := ck_some h
  refine r_zast C hw km27 (isZ_or hz2) (inB_in hz) dX7_holdsFor_193 (fun H locs hw => ?_)
  refine lt_gen (P := fun g => WS D cA ev hr ad A KM s H locs g) h hw (fun g_2 h hw => ?_)
  refine lv_goto (tgt := 220) C.1.1 C.1.2.1 dX7_holdsFor_194 (by decide) ?_
  exact w_X7_holdsFor_220 kb22 hk22 C hx hw hl h
set_option maxHeartbeats 4000000 in
set_option maxRecDepth 100000 in
theorem w_X7_holdsFor_188 {x1 : Int32} {x2 : Int32} {x3 : Int32} {x4 : Int32} {x5 : Int32} {s0 : Int32} {g : GM} {r : Int32} {gz : GM} (kb22 : Int32 × Int32 × Int32 × GM → Option (Int32 × GM)) (hk22 : ∀ (x3 : Int32) (x4 : Int32) (x5 : Int32) (g : GM) (H : Heap) (locs : List Loc) (ls : Array Slot), WS D cA ev hr ad A KM s H locs g → lv_has ls 7 [(0, .ref (ad 0)), (1, .int x1), (2, .int x2), (3, .int x3), (4, .int x4), (5, .int x5)] → kb22 (x3, x4, x5, g) = some (r, gz) → W p l e (RM 4 0 0) s m args below meth c H locs 0 0 (MQ below (QI D cA ev hr ad A KM r gz) args s 0 0 A) (F0 m 22 ls [])) (C : CX p s m args meth c RX7 yX7_holdsFor cX7_holdsFor 7 (some .boolean) D cA) (hx : HM hr ad) {H : Heap} {locs : List Loc} (hw : WS D cA ev hr ad A KM s H locs g) {ls : Array Slot} (hl : lv_has ls 7 [(0, .ref (ad 0)), (1, .int x1), (2, .int x2), (3, .int x3), (4, .int x4), (5, .int x5)]) (h : F_X7_holdsFor_188 kb22 x1 x2 x3 x4 x5 s0 g = some (r, gz)) : W p l e (RM 4 0 0) s m args below meth c H locs 0 0 (MQ below (QI D cA ev hr ad A KM r gz) args s 0 0 A) (F0 m 188 ls [.int s0, .ref (ad 27)]) := by
  refine lv_iconst (v := 1) C.1.1 C.1.2.1 dX7_holdsFor_188 (by decide) ?_
  refine lv_goto (tgt := 193) C.1.1 C.1.2.1 dX7_holdsFor_189 (by decide) ?_
  exact w_X7_holdsFor_193 kb22 hk22 C hx hw hl h
set_option maxHeartbeats 4000000 in
set_option maxRecDepth 100000 in
theorem w_X7_holdsFor_164 {x1 : Int32} {x2 : Int32} {x3 : Int32} {x4 : Int32} {x5 : Int32} {s0 : Int32} {g : GM} {r : Int32} {gz : GM} (kb22 : Int32 × Int32 × Int32 × GM → Option (Int32 × GM)) (hk22 : ∀ (x3 : Int32) (x4 : Int32) (x5 : Int32) (g : GM) (H : Heap) (locs : List Loc) (ls : Array Slot), WS D cA ev hr ad A KM s H locs g → lv_has ls 7 [(0, .ref (ad 0)), (1, .int x1), (2, .int x2), (3, .int x3), (4, .int x4), (5, .int x5)] → kb22 (x3, x4, x5, g) = some (r, gz) → W p l e (RM 4 0 0) s m args below meth c H locs 0 0 (MQ below (QI D cA ev hr ad A KM r gz) args s 0 0 A) (F0 m 22 ls [])) (C : CX p s m args meth c RX7 yX7_holdsFor cX7_holdsFor 7 (some .boolean) D cA) (hx : HM hr ad) {H : Heap} {locs : List Loc} (hw : WS D cA ev hr ad A KM s H locs g) {ls : Array Slot} (hl : lv_has ls 7 [(0, .ref (ad 0)), (1, .int x1), (2, .int x2), (3, .int x3), (4, .int x4), (5, .int x5)]) (h : F_X7_holdsFor_164 kb22 x1 x2 x3 x4 x5 s0 g = some (r, gz)) : W p l e (RM 4 0 0) s m args below meth c H locs 0 0 (MQ below (QI D cA ev hr ad A KM r gz) args s 0 0 A) (F0 m 164 ls [.int s0, .ref (ad 27)]) := by
  refine lv_iconst (v := 0) C.1.1 C.1.2.1 dX7_holdsFor_164 (by decide) ?_
  refine lv_goto (tgt := 193) C.1.1 C.1.2.1 dX7_holdsFor_165 (by decide) ?_
  exact w_X7_holdsFor_193 kb22 hk22 C hx hw hl h
set_option maxHeartbeats 4000000 in
set_option maxRecDepth 100000 in
theorem w_X7_holdsFor_123 {x1 : Int32} {x2 : Int32} {x3 : Int32} {x4 : Int32} {x5 : Int32} {x6 : Int32} {g : GM} {r : Int32} {gz : GM} (kb22 : Int32 × Int32 × Int32 × GM → Option (Int32 × GM)) (hk22 : ∀ (x3 : Int32) (x4 : Int32) (x5 : Int32) (g : GM) (H : Heap) (locs : List Loc) (ls : Array Slot), WS D cA ev hr ad A KM s H locs g → lv_has ls 7 [(0, .ref (ad 0)), (1, .int x1), (2, .int x2), (3, .int x3), (4, .int x4), (5, .int x5)] → kb22 (x3, x4, x5, g) = some (r, gz) → W p l e (RM 4 0 0) s m args below meth c H locs 0 0 (MQ below (QI D cA ev hr ad A KM r gz) args s 0 0 A) (F0 m 22 ls [])) (C : CX p s m args meth c RX7 yX7_holdsFor cX7_holdsFor 7 (some .boolean) D cA) (hx : HM hr ad) {H : Heap} {locs : List Loc} (hw : WS D cA ev hr ad A KM s H locs g) {ls : Array Slot} (hl : lv_has ls 7 [(0, .ref (ad 0)), (1, .int x1), (2, .int x2), (3, .int x3), (4, .int x4), (5, .int x5), (6, .int x6)]) (h : F_X7_holdsFor_123 kb22 x1 x2 x3 x4 x5 x6 g = some (r, gz)) : W p l e (RM 4 0 0) s m args below meth c H locs 0 0 (MQ below (QI D cA ev hr ad A KM r gz) args s 0 0 A) (F0 m 123 ls []) := by
  refine lv_iinc (v := x3 + (-1)) (lv' := [(3, .int (x3 + (-1))), (0, .ref (ad 0)), (1, .int x1), (2, .int x2), (4, .int x4), (5, .int x5), (6, .int x6)]) C.1.1 C.1.2.1 dX7_holdsFor_123 hl (k := 3) rfl rfl (by decide) rfl (fun ls hl => ?_)
  refine lt_gen (P := fun x => lv_has ls 7 [(3, .int x), (0, .ref (ad 0)), (1, .int x1), (2, .int x2), (4, .int x4), (5, .int x5), (6, .int x6)]) h hl (fun x3_3 h hl => ?_)
  refine lv_aload_n C.1.1 C.1.2.1 dX7_holdsFor_126 rfl (lv_at hl 1 rfl) ?_
  refine r_getR (v := .ref (ad 27)) C hw km0 fX7_299 rfl (hm45 hx) dX7_holdsFor_127 ?_
  refine lv_iload_n C.1.1 C.1.2.1 dX7_holdsFor_130 rfl (lv_at hl 0 rfl) ?_
  refine lv_iconst (v := 1) C.1.1 C.1.2.1 dX7_holdsFor_131 (by decide) ?_
  refine lv_isub C.1.1 C.1.2.1 dX7_holdsFor_132 ?_
  refine lv_iload C.1.1 C.1.2.1 dX7_holdsFor_133 (lv_at hl 6 rfl) ?_
  refine lv_bipush (v := 38) C.1.1 C.1.2.1 dX7_holdsFor_135 (by decide) ?_
  refine lv_icmp_ne (tgt := 168) C.1.1 C.1.2.1 dX7_holdsFor_137 (by decide) (fun hc => ?_) (fun hc => ?_)
  · replace h := ite_neg' h hc
    refine lv_aload_n C.1.1 C.1.2.1 dX7_holdsFor_168 rfl (lv_at hl 1 rfl) ?_
    refine r_getR (v := .ref (ad 27)) C hw km0 fX7_299 rfl (hm45 hx) dX7_holdsFor_169 ?_
    refine lv_iload_n C.1.1 C.1.2.1 dX7_holdsFor_172 rfl (lv_at hl 0 rfl) ?_
    refine lv_iconst (v := 1) C.1.1 C.1.2.1 dX7_holdsFor_173 (by decide) ?_
    refine lv_isub C.1.1 C.1.2.1 dX7_holdsFor_174 ?_
    obtain ⟨hz, h⟩ := ck_some h
    refine r_zald C hw km27 (inB_in hz) dX7_holdsFor_175 ?_
    refine lv_if_ne (tgt := 188) C.1.1 C.1.2.1 dX7_holdsFor_176 (by decide) (fun hc => ?_) (fun hc => ?_)
    · replace h := ite_neg' h hc
      exact w_X7_holdsFor_188 kb22 hk22 C hx hw (lv_sub hl [1, 2, 3, 0, 4, 5] rfl) h
    · replace h := ite_pos' h hc
      refine lv_aload_n C.1.1 C.1.2.1 dX7_holdsFor_179 rfl (lv_at hl 1 rfl) ?_
      refine r_getR (v := .ref (ad 27)) C hw km0 fX7_299 rfl (hm45 hx) dX7_holdsFor_180 ?_
      refine lv_iload_n C.1.1 C.1.2.1 dX7_holdsFor_183 rfl (lv_at hl 0 rfl) ?_
      obtain ⟨hz, h⟩ := ck_some h
      refine r_zald C hw km27 (inB_in hz) dX7_holdsFor_184 ?_
      refine lv_if_eq (tgt := 192) C.1.1 C.1.2.1 dX7_holdsFor_185 (by decide) (fun hc => ?_) (fun hc => ?_)
      · replace h := ite_pos' h hc
        refine lv_iconst (v := 0) C.1.1 C.1.2.1 dX7_holdsFor_192 (by decide) ?_
        exact w_X7_holdsFor_193 kb22 hk22 C hx hw (lv_sub hl [1, 2, 3, 0, 4, 5] rfl) h
      · replace h := ite_neg' h hc
        exact w_X7_holdsFor_188 kb22 hk22 C hx hw (lv_sub hl [1, 2, 3, 0, 4, 5] rfl) h
  · replace h := ite_pos' h hc
    refine lv_aload_n C.1.1 C.1.2.1 dX7_holdsFor_140 rfl (lv_at hl 1 rfl) ?_
    refine r_getR (v := .ref (ad 27)) C hw km0 fX7_299 rfl (hm45 hx) dX7_holdsFor_141 ?_
    refine lv_iload_n C.1.1 C.1.2.1 dX7_holdsFor_144 rfl (lv_at hl 0 rfl) ?_
    refine lv_iconst (v := 1) C.1.1 C.1.2.1 dX7_holdsFor_145 (by decide) ?_
    refine lv_isub C.1.1 C.1.2.1 dX7_holdsFor_146 ?_
    obtain ⟨hz, h⟩ := ck_some h
    refine r_zald C hw km27 (inB_in hz) dX7_holdsFor_147 ?_
    refine lv_if_eq (tgt := 164) C.1.1 C.1.2.1 dX7_holdsFor_148 (by decide) (fun hc => ?_) (fun hc => ?_)
    · replace h := ite_pos' h hc
      exact w_X7_holdsFor_164 kb22 hk22 C hx hw (lv_sub hl [1, 2, 3, 0, 4, 5] rfl) h
    · replace h := ite_neg' h hc
      refine lv_aload_n C.1.1 C.1.2.1 dX7_holdsFor_151 rfl (lv_at hl 1 rfl) ?_
      refine r_getR (v := .ref (ad 27)) C hw km0 fX7_299 rfl (hm45 hx) dX7_holdsFor_152 ?_
      refine lv_iload_n C.1.1 C.1.2.1 dX7_holdsFor_155 rfl (lv_at hl 0 rfl) ?_
      obtain ⟨hz, h⟩ := ck_some h
      refine r_zald C hw km27 (inB_in hz) dX7_holdsFor_156 ?_
      refine lv_if_eq (tgt := 164) C.1.1 C.1.2.1 dX7_holdsFor_157 (by decide) (fun hc => ?_) (fun hc => ?_)
      · replace h := ite_pos' h hc
        exact w_X7_holdsFor_164 kb22 hk22 C hx hw (lv_sub hl [1, 2, 3, 0, 4, 5] rfl) h
      · replace h := ite_neg' h hc
        refine lv_iconst (v := 1) C.1.1 C.1.2.1 dX7_holdsFor_160 (by decide) ?_
        refine lv_goto (tgt := 193) C.1.1 C.1.2.1 dX7_holdsFor_161 (by decide) ?_
        exact w_X7_holdsFor_193 kb22 hk22 C hx hw (lv_sub hl [1, 2, 3, 0, 4, 5] rfl) h
set_option maxHeartbeats 4000000 in
set_option maxRecDepth 100000 in
theorem w_X7_holdsFor_105 {x1 : Int32} {x2 : Int32} {x3 : Int32} {x4 : Int32} {x5 : Int32} {s0 : Int32} {s1 : Int32} {g : GM} {r : Int32} {gz : GM} (kb22 : Int32 × Int32 × Int32 × GM → Option (Int32 × GM)) (hk22 : ∀ (x3 : Int32) (x4 : Int32) (x5 : Int32) (g : GM) (H : Heap) (locs : List Loc) (ls : Array Slot), WS D cA ev hr ad A KM s H locs g → lv_has ls 7 [(0, .ref (ad 0)), (1, .int x1), (2, .int x2), (3, .int x3), (4, .int x4), (5, .int x5)] → kb22 (x3, x4, x5, g) = some (r, gz) → W p l e (RM 4 0 0) s m args below meth c H locs 0 0 (MQ below (QI D cA ev hr ad A KM r gz) args s 0 0 A) (F0 m 22 ls [])) (C : CX p s m args meth c RX7 yX7_holdsFor cX7_holdsFor 7 (some .boolean) D cA) (hx : HM hr ad) {H : Heap} {locs : List Loc} (hw : WS D cA ev hr ad A KM s H locs g) {ls : Array Slot} (hl : lv_has ls 7 [(0, .ref (ad 0)), (1, .int x1), (2, .int x2), (3, .int x3), (4, .int x4), (5, .int x5)]) (h : F_X7_holdsFor_105 kb22 x1 x2 x3 x4 x5 s0 s1 g = some (r, gz)) : W p l e (RM 4 0 0) s m args below meth c H locs 0 0 (MQ below (QI D cA ev hr ad A KM r gz) args s 0 0 A) (F0 m 105 ls [.int s0, .int s1, .ref (ad 27)]) := by
  obtain ⟨hz, h⟩ := ck_some h
  obtain ⟨hz2, h⟩ := ck_some h
  refine r_zast C hw km27 (isZ_or hz2) (inB_in hz) dX7_holdsFor_105 (fun H locs hw => ?_)
  refine lt_gen (P := fun g => WS D cA ev hr ad A KM s H locs g) h hw (fun g_4 h hw => ?_)
  refine lv_goto (tgt := 220) C.1.1 C.1.2.1 dX7_holdsFor_106 (by decide) ?_
  exact w_X7_holdsFor_220 kb22 hk22 C hx hw hl h
set_option maxHeartbeats 4000000 in
set_option maxRecDepth 100000 in
theorem w_X7_holdsFor_22 {x1 : Int32} {x2 : Int32} {r : Int32} {gz : GM} (kb22 : Int32 × Int32 × Int32 × GM → Option (Int32 × GM)) (hk22 : ∀ (x3 : Int32) (x4 : Int32) (x5 : Int32) (g : GM) (H : Heap) (locs : List Loc) (ls : Array Slot), WS D cA ev hr ad A KM s H locs g → lv_has ls 7 [(0, .ref (ad 0)), (1, .int x1), (2, .int x2), (3, .int x3), (4, .int x4), (5, .int x5)] → kb22 (x3, x4, x5, g) = some (r, gz) → W p l e (RM 4 0 0) s m args below meth c H locs 0 0 (MQ below (QI D cA ev hr ad A KM r gz) args s 0 0 A) (F0 m 22 ls [])) (C : CX p s m args meth c RX7 yX7_holdsFor cX7_holdsFor 7 (some .boolean) D cA) (hx : HM hr ad) {H : Heap} {locs : List Loc} {x3 : Int32} {x4 : Int32} {x5 : Int32} {g : GM} (hw : WS D cA ev hr ad A KM s H locs g) {ls : Array Slot} (hl : lv_has ls 7 [(0, .ref (ad 0)), (1, .int x1), (2, .int x2), (3, .int x3), (4, .int x4), (5, .int x5)]) (h : F_X7_holdsFor_22B x1 x2 kb22 (x3, x4, x5, g) = some (r, gz)) : W p l e (RM 4 0 0) s m args below meth c H locs 0 0 (MQ below (QI D cA ev hr ad A KM r gz) args s 0 0 A) (F0 m 22 ls []) := by
  refine lv_iload C.1.1 C.1.2.1 dX7_holdsFor_22 (lv_at hl 5 rfl) ?_
  refine lv_sipush (v := 600) C.1.1 C.1.2.1 dX7_holdsFor_24 (by decide) ?_
  refine lv_aload_n C.1.1 C.1.2.1 dX7_holdsFor_27 rfl (lv_at hl 0 rfl) ?_
  refine r_getI C hw km0 fX7_141 rfl dX7_holdsFor_28 ?_
  refine lv_imul C.1.1 C.1.2.1 dX7_holdsFor_31 ?_
  refine lv_aload_n C.1.1 C.1.2.1 dX7_holdsFor_32 rfl (lv_at hl 0 rfl) ?_
  refine r_getR (v := .ref (ad 20)) C hw km0 fX7_251 rfl (hm31 hx) dX7_holdsFor_33 ?_
  refine lv_iload_n C.1.1 C.1.2.1 dX7_holdsFor_36 rfl (lv_at hl 1 rfl) ?_
  obtain ⟨hz, h⟩ := ck_some h
  refine r_iald C hw km20 (inB_in hz) dX7_holdsFor_37 ?_
  refine lv_iadd C.1.1 C.1.2.1 dX7_holdsFor_38 ?_
  refine lv_icmp_ge (tgt := 226) C.1.1 C.1.2.1 dX7_holdsFor_39 (by decide) (fun hc => ?_) (fun hc => ?_)
  · replace h := ite_pos' h hc
    refine lv_iload_n C.1.1 C.1.2.1 dX7_holdsFor_226 rfl (lv_at hl 3 rfl) ?_
    refine lv_if_eq (tgt := 239) C.1.1 C.1.2.1 dX7_holdsFor_227 (by decide) (fun hc => ?_) (fun hc => ?_)
    · replace h := ite_pos' h hc
      exact w_X7_holdsFor_239 C hx hw (lv_sub hl [] rfl) h
    · replace h := ite_neg' h hc
      refine lv_aload_n C.1.1 C.1.2.1 dX7_holdsFor_230 rfl (lv_at hl 0 rfl) ?_
      refine r_getR (v := .ref (ad 27)) C hw km0 fX7_299 rfl (hm45 hx) dX7_holdsFor_231 ?_
      refine lv_iconst (v := 0) C.1.1 C.1.2.1 dX7_holdsFor_234 (by decide) ?_
      obtain ⟨hz, h⟩ := ck_some h
      refine r_zald C hw km27 (inB_in hz) dX7_holdsFor_235 ?_
      refine lv_if_eq (tgt := 243) C.1.1 C.1.2.1 dX7_holdsFor_236 (by decide) (fun hc => ?_) (fun hc => ?_)
      · replace h := ite_pos' h hc
        refine lv_iconst (v := 0) C.1.1 C.1.2.1 dX7_holdsFor_243 (by decide) ?_
        cases h
        exact r_iret C hw (Or.inr ⟨rfl, Or.inl rfl⟩) dX7_holdsFor_244
      · replace h := ite_neg' h hc
        exact w_X7_holdsFor_239 C hx hw (lv_sub hl [] rfl) h
  · replace h := ite_neg' h hc
    refine lv_aload_n C.1.1 C.1.2.1 dX7_holdsFor_42 rfl (lv_at hl 0 rfl) ?_
    refine r_getR (v := .ref (ad 21)) C hw km0 fX7_257 rfl (hm32 hx) dX7_holdsFor_43 ?_
    refine lv_iload C.1.1 C.1.2.1 dX7_holdsFor_46 (lv_at hl 5 rfl) ?_
    obtain ⟨hz, h⟩ := ck_some h
    refine r_iald C hw km21 (inB_in hz) dX7_holdsFor_48 ?_
    refine lv_istore (lv' := [(6, .int (gi g 21 x5.toNatClampNeg)), (0, .ref (ad 0)), (1, .int x1), (2, .int x2), (3, .int x3), (4, .int x4), (5, .int x5)]) C.1.1 C.1.2.1 dX7_holdsFor_49 hl (by decide) rfl (fun ls hl => ?_)
    refine lt_gen (P := fun x => lv_has ls 7 [(6, .int x), (0, .ref (ad 0)), (1, .int x1), (2, .int x2), (3, .int x3), (4, .int x4), (5, .int x5)]) h hl (fun x6_5 h hl => ?_)
    refine lv_iload C.1.1 C.1.2.1 dX7_holdsFor_51 (lv_at hl 0 rfl) ?_
    refine lv_bipush (v := 112) C.1.1 C.1.2.1 dX7_holdsFor_53 (by decide) ?_
    refine lv_icmp_ne (tgt := 75) C.1.1 C.1.2.1 dX7_holdsFor_55 (by decide) (fun hc => ?_) (fun hc => ?_)
    · replace h := ite_neg' h hc
      refine lv_iload C.1.1 C.1.2.1 dX7_holdsFor_75 (lv_at hl 0 rfl) ?_
      refine lv_bipush (v := 126) C.1.1 C.1.2.1 dX7_holdsFor_77 (by decide) ?_
      refine lv_icmp_ne (tgt := 109) C.1.1 C.1.2.1 dX7_holdsFor_79 (by decide) (fun hc => ?_) (fun hc => ?_)
      · replace h := ite_neg' h hc
        refine lv_iload C.1.1 C.1.2.1 dX7_holdsFor_109 (lv_at hl 0 rfl) ?_
        refine lv_bipush (v := 38) C.1.1 C.1.2.1 dX7_holdsFor_111 (by decide) ?_
        refine lv_icmp_eq (tgt := 123) C.1.1 C.1.2.1 dX7_holdsFor_113 (by decide) (fun hc => ?_) (fun hc => ?_)
        · replace h := ite_pos' h hc
          exact w_X7_holdsFor_123 kb22 hk22 C hx hw (lv_sub hl [1, 2, 3, 4, 5, 6, 0] rfl) h
        · replace h := ite_neg' h hc
          refine lv_iload C.1.1 C.1.2.1 dX7_holdsFor_116 (lv_at hl 0 rfl) ?_
          refine lv_bipush (v := 124) C.1.1 C.1.2.1 dX7_holdsFor_118 (by decide) ?_
          refine lv_icmp_ne (tgt := 197) C.1.1 C.1.2.1 dX7_holdsFor_120 (by decide) (fun hc => ?_) (fun hc => ?_)
          · replace h := ite_neg' h hc
            refine lv_aload_n C.1.1 C.1.2.1 dX7_holdsFor_197 rfl (lv_at hl 1 rfl) ?_
            refine r_getR (v := .ref (ad 27)) C hw km0 fX7_299 rfl (hm45 hx) dX7_holdsFor_198 ?_
            refine lv_iload_n C.1.1 C.1.2.1 dX7_holdsFor_201 rfl (lv_at hl 4 rfl) ?_
            refine lv_iload C.1.1 C.1.2.1 dX7_holdsFor_202 (lv_at hl 0 rfl) ?_
            refine lv_iload C.1.1 C.1.2.1 dX7_holdsFor_204 (lv_at hl 5 rfl) ?_
            refine lv_aload_n C.1.1 C.1.2.1 dX7_holdsFor_206 rfl (lv_at hl 1 rfl) ?_
            refine r_getR (v := .ref (ad 22)) C hw km0 fX7_260 rfl (hm33 hx) dX7_holdsFor_207 ?_
            refine lv_iload C.1.1 C.1.2.1 dX7_holdsFor_210 (lv_at hl 6 rfl) ?_
            obtain ⟨hz, h⟩ := ck_some h
            refine r_iald C hw km22 (inB_in hz) dX7_holdsFor_212 ?_
            obtain ⟨r_6, hc, h⟩ := bnd_some h
            refine r_sI (dc := 1) (As := [.int x6_5, .int x4, .int (gi g 22 x5.toNatClampNeg)]) (rest := [.int x3, .ref (ad 27)]) C hw sX7_303 (fun sz => c_X7_related hx hc sz) (by decide) rfl rfl hl.1 (Nat.le_of_ble_eq_true rfl) dX7_holdsFor_213 ⟨Nat.le_refl _, Nat.le_refl _⟩ (fun H locs hw => ?_)
            obtain ⟨hz, h⟩ := ck_some h
            obtain ⟨hz2, h⟩ := ck_some h
            refine r_zast C hw km27 (isZ_or hz2) (inB_in hz) dX7_holdsFor_216 (fun H locs hw => ?_)
            refine lt_gen (P := fun g => WS D cA ev hr ad A KM s H locs g) h hw (fun g_7 h hw => ?_)
            refine lv_iinc (v := x3 + 1) (lv' := [(3, .int (x3 + 1)), (6, .int x6_5), (0, .ref (ad 0)), (1, .int x1), (2, .int x2), (4, .int x4), (5, .int x5)]) C.1.1 C.1.2.1 dX7_holdsFor_217 hl (k := 4) rfl rfl (by decide) rfl (fun ls hl => ?_)
            refine lt_gen (P := fun x => lv_has ls 7 [(3, .int x), (6, .int x6_5), (0, .ref (ad 0)), (1, .int x1), (2, .int x2), (4, .int x4), (5, .int x5)]) h hl (fun x3_8 h hl => ?_)
            exact w_X7_holdsFor_220 kb22 hk22 C hx hw (lv_sub hl [2, 3, 4, 0, 5, 6] rfl) h
          · replace h := ite_pos' h hc
            exact w_X7_holdsFor_123 kb22 hk22 C hx hw (lv_sub hl [1, 2, 3, 4, 5, 6, 0] rfl) h
      · replace h := ite_pos' h hc
        refine lv_aload_n C.1.1 C.1.2.1 dX7_holdsFor_82 rfl (lv_at hl 1 rfl) ?_
        refine r_getR (v := .ref (ad 27)) C hw km0 fX7_299 rfl (hm45 hx) dX7_holdsFor_83 ?_
        refine lv_iload_n C.1.1 C.1.2.1 dX7_holdsFor_86 rfl (lv_at hl 4 rfl) ?_
        refine lv_iconst (v := 1) C.1.1 C.1.2.1 dX7_holdsFor_87 (by decide) ?_
        refine lv_isub C.1.1 C.1.2.1 dX7_holdsFor_88 ?_
        refine lv_aload_n C.1.1 C.1.2.1 dX7_holdsFor_89 rfl (lv_at hl 1 rfl) ?_
        refine r_getR (v := .ref (ad 27)) C hw km0 fX7_299 rfl (hm45 hx) dX7_holdsFor_90 ?_
        refine lv_iload_n C.1.1 C.1.2.1 dX7_holdsFor_93 rfl (lv_at hl 4 rfl) ?_
        refine lv_iconst (v := 1) C.1.1 C.1.2.1 dX7_holdsFor_94 (by decide) ?_
        refine lv_isub C.1.1 C.1.2.1 dX7_holdsFor_95 ?_
        obtain ⟨hz, h⟩ := ck_some h
        refine r_zald C hw km27 (inB_in hz) dX7_holdsFor_96 ?_
        refine lv_if_ne (tgt := 104) C.1.1 C.1.2.1 dX7_holdsFor_97 (by decide) (fun hc => ?_) (fun hc => ?_)
        · replace h := ite_neg' h hc
          refine lv_iconst (v := 0) C.1.1 C.1.2.1 dX7_holdsFor_104 (by decide) ?_
          exact w_X7_holdsFor_105 kb22 hk22 C hx hw (lv_sub hl [1, 2, 3, 4, 5, 6] rfl) h
        · replace h := ite_pos' h hc
          refine lv_iconst (v := 1) C.1.1 C.1.2.1 dX7_holdsFor_100 (by decide) ?_
          refine lv_goto (tgt := 105) C.1.1 C.1.2.1 dX7_holdsFor_101 (by decide) ?_
          exact w_X7_holdsFor_105 kb22 hk22 C hx hw (lv_sub hl [1, 2, 3, 4, 5, 6] rfl) h
    · replace h := ite_pos' h hc
      refine lv_aload_n C.1.1 C.1.2.1 dX7_holdsFor_58 rfl (lv_at hl 1 rfl) ?_
      refine lv_aload_n C.1.1 C.1.2.1 dX7_holdsFor_59 rfl (lv_at hl 1 rfl) ?_
      refine r_getR (v := .ref (ad 22)) C hw km0 fX7_260 rfl (hm33 hx) dX7_holdsFor_60 ?_
      refine lv_iload C.1.1 C.1.2.1 dX7_holdsFor_63 (lv_at hl 6 rfl) ?_
      obtain ⟨hz, h⟩ := ck_some h
      refine r_iald C hw km22 (inB_in hz) dX7_holdsFor_65 ?_
      refine lv_iload_n C.1.1 C.1.2.1 dX7_holdsFor_66 rfl (lv_at hl 3 rfl) ?_
      obtain ⟨r_9, hc, h⟩ := bnd_some h
      refine r_vI (dc := 3) (As := [.int (gi g 22 x5.toNatClampNeg), .int x2]) (rest := []) C hw vX7_296 km0 (by decide) rfl (fun sz => c_X7_along hx hc sz) (by decide) rfl rfl hl.1 (Nat.le_of_ble_eq_true rfl) dX7_holdsFor_67 ⟨Nat.le_refl _, Nat.le_refl _⟩ (fun H locs hw => ?_)
      refine lv_istore (lv' := [(4, .int r_9), (6, .int x6_5), (0, .ref (ad 0)), (1, .int x1), (2, .int x2), (3, .int x3), (5, .int x5)]) C.1.1 C.1.2.1 dX7_holdsFor_70 hl (by decide) rfl (fun ls hl => ?_)
      refine lt_gen (P := fun x => lv_has ls 7 [(4, .int x), (6, .int x6_5), (0, .ref (ad 0)), (1, .int x1), (2, .int x2), (3, .int x3), (5, .int x5)]) h hl (fun x4_10 h hl => ?_)
      refine lv_goto (tgt := 220) C.1.1 C.1.2.1 dX7_holdsFor_72 (by decide) ?_
      exact w_X7_holdsFor_220 kb22 hk22 C hx hw (lv_sub hl [2, 3, 4, 5, 0, 6] rfl) h
set_option maxHeartbeats 4000000 in
set_option maxRecDepth 100000 in
theorem w_X7_holdsFor_22L {x1 : Int32} {x2 : Int32} {r : Int32} {gz : GM} (C : CX p s m args meth c RX7 yX7_holdsFor cX7_holdsFor 7 (some .boolean) D cA) (hx : HM hr ad) : ∀ (n : Nat) (x3 : Int32) (x4 : Int32) (x5 : Int32) (g : GM) (H : Heap) (locs : List Loc) (ls : Array Slot), WS D cA ev hr ad A KM s H locs g → lv_has ls 7 [(0, .ref (ad 0)), (1, .int x1), (2, .int x2), (3, .int x3), (4, .int x4), (5, .int x5)] → fixN (F_X7_holdsFor_22B x1 x2) n (x3, x4, x5, g) = some (r, gz) → W p l e (RM 4 0 0) s m args below meth c H locs 0 0 (MQ below (QI D cA ev hr ad A KM r gz) args s 0 0 A) (F0 m 22 ls []) := by
  intro n
  induction n with
  | zero => intro x3 x4 x5 g H locs ls hw hl h; exact (fix_zero h).elim
  | succ n ih => intro x3 x4 x5 g H locs ls hw hl h; exact w_X7_holdsFor_22 (fixN (F_X7_holdsFor_22B x1 x2) n) ih C hx hw hl h
set_option maxHeartbeats 4000000 in
set_option maxRecDepth 100000 in
theorem w_X7_holdsFor_0 (C : CX p s m args meth c RX7 yX7_holdsFor cX7_holdsFor 7 (some .boolean) D cA) (hx : HM hr ad) {H : Heap} {locs : List Loc} {g : GM} (hw : WS D cA ev hr ad A KM s H locs g) {a1 : Int32} {a2 : Int32} {ls : Array Slot} (hl : lv_has ls 7 [(0, .ref (ad 0)), (1, .int a1), (2, .int a2)]) {r : Int32} {gz : GM} (h : F_X7_holdsFor a1 a2 g = some (r, gz)) : W p l e (RM 4 0 0) s m args below meth c H locs 0 0 (MQ below (QI D cA ev hr ad A KM r gz) args s 0 0 A) (F0 m 0 ls []) := by
  refine lv_iconst (v := 0) C.1.1 C.1.2.1 dX7_holdsFor_0 (by decide) ?_
  refine lv_istore_n (lv' := [(3, .int 0), (0, .ref (ad 0)), (1, .int a1), (2, .int a2)]) C.1.1 C.1.2.1 dX7_holdsFor_1 rfl hl (by decide) rfl (fun ls hl => ?_)
  refine lv_iconst (v := (-1)) C.1.1 C.1.2.1 dX7_holdsFor_2 (by decide) ?_
  refine lv_istore (lv' := [(4, .int ((-1))), (3, .int 0), (0, .ref (ad 0)), (1, .int a1), (2, .int a2)]) C.1.1 C.1.2.1 dX7_holdsFor_3 hl (by decide) rfl (fun ls hl => ?_)
  refine lv_sipush (v := 600) C.1.1 C.1.2.1 dX7_holdsFor_5 (by decide) ?_
  refine lv_aload_n C.1.1 C.1.2.1 dX7_holdsFor_8 rfl (lv_at hl 2 rfl) ?_
  refine r_getI C hw km0 fX7_141 rfl dX7_holdsFor_9 ?_
  refine lv_imul C.1.1 C.1.2.1 dX7_holdsFor_12 ?_
  refine lv_aload_n C.1.1 C.1.2.1 dX7_holdsFor_13 rfl (lv_at hl 2 rfl) ?_
  refine r_getR (v := .ref (ad 19)) C hw km0 fX7_245 rfl (hm30 hx) dX7_holdsFor_14 ?_
  refine lv_iload_n C.1.1 C.1.2.1 dX7_holdsFor_17 rfl (lv_at hl 3 rfl) ?_
  obtain ⟨hz, h⟩ := ck_some h
  refine r_iald C hw km19 (inB_in hz) dX7_holdsFor_18 ?_
  refine lv_iadd C.1.1 C.1.2.1 dX7_holdsFor_19 ?_
  refine lv_istore (lv' := [(5, .int ((600 * (gi g 0 37)) + (gi g 19 a1.toNatClampNeg))), (4, .int ((-1))), (3, .int 0), (0, .ref (ad 0)), (1, .int a1), (2, .int a2)]) C.1.1 C.1.2.1 dX7_holdsFor_20 hl (by decide) rfl (fun ls hl => ?_)
  refine lt_gen (P := fun x => lv_has ls 7 [(5, .int x), (4, .int ((-1))), (3, .int 0), (0, .ref (ad 0)), (1, .int a1), (2, .int a2)]) h hl (fun x5_11 h hl => ?_)
  exact w_X7_holdsFor_22L C hx FU _ _ _ _ _ _ _ hw (lv_sub hl [3, 4, 5, 2, 1, 0] rfl) h
set_option maxHeartbeats 4000000 in
set_option maxRecDepth 100000 in
theorem c_X7_holdsFor (hx : HM hr ad) {a1 : Int32} {a2 : Int32} {g : GM} {r : Int32} {gz : GM} (h : F_X7_holdsFor a1 a2 g = some (r, gz)) (sz : Nat) : Met l yX7_holdsFor (WSX yX7_holdsFor cX7_holdsFor 7 (some .boolean)) (RM 4 0 0) (va_Pc [.ref (ad 0), .int a1, .int a2] (PX D cA ev hr ad KM g sz)) (QI D cA ev hr ad (AX ad KM.length sz) KM r gz) 0 0 (AX ad KM.length sz) :=
  met_of (own := RX7) pnX7 rfl (Nat.le_of_ble_eq_true rfl) (fun p e s m below meth c ls C hw hsz hl => w_X7_holdsFor_0 C hx hw hl h)
set_option maxHeartbeats 4000000 in
set_option maxRecDepth 100000 in
theorem w_X7_holds_0 (C : CX p s m args meth c RX7 yX7_holds cX7_holds 4 (some .int) D cA) (hx : HM hr ad) {H : Heap} {locs : List Loc} {g : GM} (hw : WS D cA ev hr ad A KM s H locs g) {a1 : Int32} {a2 : Int32} {ls : Array Slot} (hl : lv_has ls 4 [(0, .ref (ad 0)), (1, .int a1), (2, .int a2)]) {r : Int32} {gz : GM} (h : F_X7_holds a1 a2 g = some (r, gz)) : W p l e (RM 5 0 0) s m args below meth c H locs 0 0 (MQ below (QI D cA ev hr ad A KM r gz) args s 0 0 A) (F0 m 0 ls []) := by
  refine lv_bipush (v := 10) C.1.1 C.1.2.1 dX7_holds_0 (by decide) ?_
  refine lv_aload_n C.1.1 C.1.2.1 dX7_holds_2 rfl (lv_at hl 0 rfl) ?_
  refine r_getI C hw km0 fX7_141 rfl dX7_holds_3 ?_
  refine lv_imul C.1.1 C.1.2.1 dX7_holds_6 ?_
  refine lv_iload_n C.1.1 C.1.2.1 dX7_holds_7 rfl (lv_at hl 1 rfl) ?_
  refine lv_iadd C.1.1 C.1.2.1 dX7_holds_8 ?_
  refine lv_istore_n (lv' := [(3, .int ((10 * (gi g 0 37)) + a1)), (0, .ref (ad 0)), (1, .int a1), (2, .int a2)]) C.1.1 C.1.2.1 dX7_holds_9 rfl hl (by decide) rfl (fun ls hl => ?_)
  refine lt_gen (P := fun x => lv_has ls 4 [(3, .int x), (0, .ref (ad 0)), (1, .int a1), (2, .int a2)]) h hl (fun x3_1 h hl => ?_)
  refine lv_iload_n C.1.1 C.1.2.1 dX7_holds_10 rfl (lv_at hl 2 rfl) ?_
  refine lv_if_lt (tgt := 58) C.1.1 C.1.2.1 dX7_holds_11 (by decide) (fun hc => ?_) (fun hc => ?_)
  · replace h := ite_pos' h hc
    refine lv_iconst (v := (-1)) C.1.1 C.1.2.1 dX7_holds_58 (by decide) ?_
    cases h
    exact r_iret C hw (Or.inl rfl) dX7_holds_59
  · replace h := ite_neg' h hc
    refine lv_iload_n C.1.1 C.1.2.1 dX7_holds_14 rfl (lv_at hl 2 rfl) ?_
    refine lv_aload_n C.1.1 C.1.2.1 dX7_holds_15 rfl (lv_at hl 1 rfl) ?_
    refine r_getR (v := .ref (ad 14)) C hw km0 fX7_138 rfl (hm25 hx) dX7_holds_16 ?_
    refine lv_aload_n C.1.1 C.1.2.1 dX7_holds_19 rfl (lv_at hl 1 rfl) ?_
    refine r_getI C hw km0 fX7_141 rfl dX7_holds_20 ?_
    obtain ⟨hz, h⟩ := ck_some h
    refine r_iald C hw km14 (inB_in hz) dX7_holds_23 ?_
    refine lv_icmp_ge (tgt := 58) C.1.1 C.1.2.1 dX7_holds_24 (by decide) (fun hc => ?_) (fun hc => ?_)
    · replace h := ite_pos' h hc
      refine lv_iconst (v := (-1)) C.1.1 C.1.2.1 dX7_holds_58 (by decide) ?_
      cases h
      exact r_iret C hw (Or.inl rfl) dX7_holds_59
    · replace h := ite_neg' h hc
      refine lv_aload_n C.1.1 C.1.2.1 dX7_holds_27 rfl (lv_at hl 1 rfl) ?_
      refine r_getR (v := .ref (ad 17)) C hw km0 fX7_226 rfl (hm28 hx) dX7_holds_28 ?_
      refine lv_iload_n C.1.1 C.1.2.1 dX7_holds_31 rfl (lv_at hl 0 rfl) ?_
      obtain ⟨hz, h⟩ := ck_some h
      refine r_iald C hw km17 (inB_in hz) dX7_holds_32 ?_
      refine lv_if_ge (tgt := 58) C.1.1 C.1.2.1 dX7_holds_33 (by decide) (fun hc => ?_) (fun hc => ?_)
      · replace h := ite_pos' h hc
        refine lv_iconst (v := (-1)) C.1.1 C.1.2.1 dX7_holds_58 (by decide) ?_
        cases h
        exact r_iret C hw (Or.inl rfl) dX7_holds_59
      · replace h := ite_neg' h hc
        refine lv_aload_n C.1.1 C.1.2.1 dX7_holds_36 rfl (lv_at hl 1 rfl) ?_
        refine lv_iload_n C.1.1 C.1.2.1 dX7_holds_37 rfl (lv_at hl 3 rfl) ?_
        obtain ⟨r_2, hc, h⟩ := bnd_some h
        refine r_vI (dc := 1) (As := [.int a2]) (rest := []) C hw vX7_200 km0 (by decide) rfl (fun sz => c_X7_isRow hx hc sz) (by decide) rfl rfl hl.1 (Nat.le_of_ble_eq_true rfl) dX7_holds_38 ⟨Nat.le_refl _, Nat.le_refl _⟩ (fun H locs hw => ?_)
        refine lv_if_eq (tgt := 58) C.1.1 C.1.2.1 dX7_holds_41 (by decide) (fun hc => ?_) (fun hc => ?_)
        · replace h := ite_pos' h hc
          refine lv_iconst (v := (-1)) C.1.1 C.1.2.1 dX7_holds_58 (by decide) ?_
          cases h
          exact r_iret C hw (Or.inl rfl) dX7_holds_59
        · replace h := ite_neg' h hc
          refine lv_aload_n C.1.1 C.1.2.1 dX7_holds_44 rfl (lv_at hl 1 rfl) ?_
          refine lv_iload_n C.1.1 C.1.2.1 dX7_holds_45 rfl (lv_at hl 3 rfl) ?_
          obtain ⟨r_3, hc, h⟩ := bnd_some h
          refine r_vI (dc := 1) (As := [.int a2]) (rest := []) C hw vX7_194 km0 (by decide) rfl (fun sz => c_X7_tableAt hx hc sz) (by decide) rfl rfl hl.1 (Nat.le_of_ble_eq_true rfl) dX7_holds_46 ⟨Nat.le_refl _, Nat.le_refl _⟩ (fun H locs hw => ?_)
          refine lv_aload_n C.1.1 C.1.2.1 dX7_holds_49 rfl (lv_at hl 1 rfl) ?_
          refine r_getR (v := .ref (ad 15)) C hw km0 fX7_229 rfl (hm26 hx) dX7_holds_50 ?_
          refine lv_iload_n C.1.1 C.1.2.1 dX7_holds_53 rfl (lv_at hl 0 rfl) ?_
          obtain ⟨hz, h⟩ := ck_some h
          refine r_iald C hw km15 (inB_in hz) dX7_holds_54 ?_
          refine lv_icmp_eq (tgt := 60) C.1.1 C.1.2.1 dX7_holds_55 (by decide) (fun hc => ?_) (fun hc => ?_)
          · replace h := ite_pos' h hc
            refine lv_aload_n C.1.1 C.1.2.1 dX7_holds_60 rfl (lv_at hl 1 rfl) ?_
            refine lv_iload_n C.1.1 C.1.2.1 dX7_holds_61 rfl (lv_at hl 0 rfl) ?_
            refine lv_iload_n C.1.1 C.1.2.1 dX7_holds_62 rfl (lv_at hl 3 rfl) ?_
            obtain ⟨⟨r_4, g_5⟩, hc, h⟩ := bnd_some h
            refine r_vI (dc := 4) (As := [.int x3_1, .int a2]) (rest := []) C hw vX7_307 km0 (by decide) rfl (fun sz => c_X7_holdsFor hx hc sz) (by decide) rfl rfl hl.1 (Nat.le_of_ble_eq_true rfl) dX7_holds_63 ⟨Nat.le_refl _, Nat.le_refl _⟩ (fun H locs hw => ?_)
            refine lv_if_eq (tgt := 73) C.1.1 C.1.2.1 dX7_holds_66 (by decide) (fun hc => ?_) (fun hc => ?_)
            · replace h := ite_pos' h hc
              refine lv_iconst (v := 0) C.1.1 C.1.2.1 dX7_holds_73 (by decide) ?_
              cases h
              exact r_iret C hw (Or.inl rfl) dX7_holds_74
            · replace h := ite_neg' h hc
              refine lv_iconst (v := 1) C.1.1 C.1.2.1 dX7_holds_69 (by decide) ?_
              refine lv_goto (tgt := 74) C.1.1 C.1.2.1 dX7_holds_70 (by decide) ?_
              cases h
              exact r_iret C hw (Or.inl rfl) dX7_holds_74
          · replace h := ite_neg' h hc
            refine lv_iconst (v := (-1)) C.1.1 C.1.2.1 dX7_holds_58 (by decide) ?_
            cases h
            exact r_iret C hw (Or.inl rfl) dX7_holds_59
set_option maxHeartbeats 4000000 in
set_option maxRecDepth 100000 in
theorem c_X7_holds (hx : HM hr ad) {a1 : Int32} {a2 : Int32} {g : GM} {r : Int32} {gz : GM} (h : F_X7_holds a1 a2 g = some (r, gz)) (sz : Nat) : Met l yX7_holds (WSX yX7_holds cX7_holds 4 (some .int)) (RM 5 0 0) (va_Pc [.ref (ad 0), .int a1, .int a2] (PX D cA ev hr ad KM g sz)) (QI D cA ev hr ad (AX ad KM.length sz) KM r gz) 0 0 (AX ad KM.length sz) :=
  met_of (own := RX7) pnX7 rfl (Nat.le_of_ble_eq_true rfl) (fun p e s m below meth c ls C hw hsz hl => w_X7_holds_0 C hx hw hl h)
set_option maxHeartbeats 4000000 in
set_option maxRecDepth 100000 in
theorem w_X7_bitsOf_4 {x0 : Int32} {g : GM} {r : Int32} (kb4 : Int32 × Int32 → Option (Int32)) (hk4 : ∀ (x1 : Int32) (x2 : Int32) (H : Heap) (locs : List Loc) (ls : Array Slot), WS D cA ev hr ad A KM s H locs g → lv_has ls 3 [(0, .int x0), (1, .int x1), (2, .int x2)] → kb4 (x1, x2) = some r → W p l e (RM 1 0 0) s m args below meth c H locs 0 0 (MQ below (QI D cA ev hr ad A KM r g) args s 0 0 A) (F0 m 4 ls [])) (C : CX p s m args meth c RX7 yX7_bitsOf cX7_bitsOf 3 (some .int) D cA) (hx : HM hr ad) {H : Heap} {locs : List Loc} {x1 : Int32} {x2 : Int32} (hw : WS D cA ev hr ad A KM s H locs g) {ls : Array Slot} (hl : lv_has ls 3 [(0, .int x0), (1, .int x1), (2, .int x2)]) (h : F_X7_bitsOf_4B x0 kb4 (x1, x2) = some r) : W p l e (RM 1 0 0) s m args below meth c H locs 0 0 (MQ below (QI D cA ev hr ad A KM r g) args s 0 0 A) (F0 m 4 ls []) := by
  refine lv_iload_n C.1.1 C.1.2.1 dX7_bitsOf_4 rfl (lv_at hl 2 rfl) ?_
  refine lv_bipush (v := 16) C.1.1 C.1.2.1 dX7_bitsOf_5 (by decide) ?_
  refine lv_icmp_ge (tgt := 24) C.1.1 C.1.2.1 dX7_bitsOf_7 (by decide) (fun hc => ?_) (fun hc => ?_)
  · replace h := ite_pos' h hc
    refine lv_iload_n C.1.1 C.1.2.1 dX7_bitsOf_24 rfl (lv_at hl 1 rfl) ?_
    cases h
    exact r_iret C hw (Or.inl rfl) dX7_bitsOf_25
  · replace h := ite_neg' h hc
    refine lv_iload_n C.1.1 C.1.2.1 dX7_bitsOf_10 rfl (lv_at hl 1 rfl) ?_
    refine lv_iload_n C.1.1 C.1.2.1 dX7_bitsOf_11 rfl (lv_at hl 0 rfl) ?_
    refine lv_iload_n C.1.1 C.1.2.1 dX7_bitsOf_12 rfl (lv_at hl 2 rfl) ?_
    refine lv_ishr C.1.1 C.1.2.1 dX7_bitsOf_13 ?_
    refine lv_iconst (v := 1) C.1.1 C.1.2.1 dX7_bitsOf_14 (by decide) ?_
    refine lv_iand C.1.1 C.1.2.1 dX7_bitsOf_15 ?_
    refine lv_iadd C.1.1 C.1.2.1 dX7_bitsOf_16 ?_
    refine lv_istore_n (lv' := [(1, .int (x1 + ((x0 >>> (x2 &&& 31)) &&& 1))), (0, .int x0), (2, .int x2)]) C.1.1 C.1.2.1 dX7_bitsOf_17 rfl hl (by decide) rfl (fun ls hl => ?_)
    refine lt_gen (P := fun x => lv_has ls 3 [(1, .int x), (0, .int x0), (2, .int x2)]) h hl (fun x1_1 h hl => ?_)
    refine lv_iinc (v := x2 + 1) (lv' := [(2, .int (x2 + 1)), (1, .int x1_1), (0, .int x0)]) C.1.1 C.1.2.1 dX7_bitsOf_18 hl (k := 2) rfl rfl (by decide) rfl (fun ls hl => ?_)
    refine lt_gen (P := fun x => lv_has ls 3 [(2, .int x), (1, .int x1_1), (0, .int x0)]) h hl (fun x2_2 h hl => ?_)
    refine lv_goto (tgt := 4) C.1.1 C.1.2.1 dX7_bitsOf_21 (by decide) ?_
    exact hk4 _ _ _ _ _ hw (lv_sub hl [2, 1, 0] rfl) h
set_option maxHeartbeats 4000000 in
set_option maxRecDepth 100000 in
theorem w_X7_bitsOf_4L {x0 : Int32} {g : GM} {r : Int32} (C : CX p s m args meth c RX7 yX7_bitsOf cX7_bitsOf 3 (some .int) D cA) (hx : HM hr ad) : ∀ (n : Nat) (x1 : Int32) (x2 : Int32) (H : Heap) (locs : List Loc) (ls : Array Slot), WS D cA ev hr ad A KM s H locs g → lv_has ls 3 [(0, .int x0), (1, .int x1), (2, .int x2)] → fixN (F_X7_bitsOf_4B x0) n (x1, x2) = some r → W p l e (RM 1 0 0) s m args below meth c H locs 0 0 (MQ below (QI D cA ev hr ad A KM r g) args s 0 0 A) (F0 m 4 ls []) := by
  intro n
  induction n with
  | zero => intro x1 x2 H locs ls hw hl h; exact (fix_zero h).elim
  | succ n ih => intro x1 x2 H locs ls hw hl h; exact w_X7_bitsOf_4 (fixN (F_X7_bitsOf_4B x0) n) ih C hx hw hl h
set_option maxHeartbeats 4000000 in
set_option maxRecDepth 100000 in
theorem w_X7_bitsOf_0 (C : CX p s m args meth c RX7 yX7_bitsOf cX7_bitsOf 3 (some .int) D cA) (hx : HM hr ad) {H : Heap} {locs : List Loc} {g : GM} (hw : WS D cA ev hr ad A KM s H locs g) {a0 : Int32} {ls : Array Slot} (hl : lv_has ls 3 [(0, .int a0)]) {r : Int32} (h : F_X7_bitsOf a0 = some r) : W p l e (RM 1 0 0) s m args below meth c H locs 0 0 (MQ below (QI D cA ev hr ad A KM r g) args s 0 0 A) (F0 m 0 ls []) := by
  refine lv_iconst (v := 0) C.1.1 C.1.2.1 dX7_bitsOf_0 (by decide) ?_
  refine lv_istore_n (lv' := [(1, .int 0), (0, .int a0)]) C.1.1 C.1.2.1 dX7_bitsOf_1 rfl hl (by decide) rfl (fun ls hl => ?_)
  refine lv_iconst (v := 0) C.1.1 C.1.2.1 dX7_bitsOf_2 (by decide) ?_
  refine lv_istore_n (lv' := [(2, .int 0), (1, .int 0), (0, .int a0)]) C.1.1 C.1.2.1 dX7_bitsOf_3 rfl hl (by decide) rfl (fun ls hl => ?_)
  exact w_X7_bitsOf_4L C hx FU _ _ _ _ _ hw (lv_sub hl [2, 1, 0] rfl) h
set_option maxHeartbeats 4000000 in
set_option maxRecDepth 100000 in
theorem c_X7_bitsOf (hx : HM hr ad) {a0 : Int32} {g : GM} {r : Int32} (h : F_X7_bitsOf a0 = some r) (sz : Nat) : Met l yX7_bitsOf (WSX yX7_bitsOf cX7_bitsOf 3 (some .int)) (RM 1 0 0) (va_Pc [.int a0] (PX D cA ev hr ad KM g sz)) (QI D cA ev hr ad (AX ad KM.length sz) KM r g) 0 0 (AX ad KM.length sz) :=
  met_of (own := RX7) pnX7 rfl (Nat.le_of_ble_eq_true rfl) (fun p e s m below meth c ls C hw hsz hl => w_X7_bitsOf_0 C hx hw hl h)
end WM1

section WM0
variable {p : Program} {l : Launch} {e : Env} {s : State} {m : MethodId} {args : Array Value} {below : List Frame} {meth : Method} {c : Code} {D : va_G} {cA : Nat → ClassId} {ev : EVa} {hr : Nat → Nat → Value} {ad : Nat → Nat} {A : Nat → Prop}
set_option maxHeartbeats 4000000 in
set_option maxRecDepth 100000 in
theorem w_X7_sign_0 (C : CX p s m args meth c RX7 yX7_sign cX7_sign 2 (some .int) D cA) (hx : HM hr ad) {H : Heap} {locs : List Loc} {g : GM} (hw : WS D cA ev hr ad A KM s H locs g) {a1 : Int32} {ls : Array Slot} (hl : lv_has ls 2 [(0, .ref (ad 0)), (1, .int a1)]) {r : Int32} (h : F_X7_sign a1 g = some r) : W p l e (RM 1 0 0) s m args below meth c H locs 0 0 (MQ below (QI D cA ev hr ad A KM r g) args s 0 0 A) (F0 m 0 ls []) := by
  refine lv_iload_n C.1.1 C.1.2.1 dX7_sign_0 rfl (lv_at hl 1 rfl) ?_
  refine lv_aload_n C.1.1 C.1.2.1 dX7_sign_1 rfl (lv_at hl 0 rfl) ?_
  refine r_getI C hw km0 fX7_1 rfl dX7_sign_2 ?_
  refine lv_icmp_ge (tgt := 21) C.1.1 C.1.2.1 dX7_sign_5 (by decide) (fun hc => ?_) (fun hc => ?_)
  · replace h := ite_pos' h hc
    refine lv_iconst (v := 0) C.1.1 C.1.2.1 dX7_sign_21 (by decide) ?_
    cases h
    exact r_iret C hw (Or.inl rfl) dX7_sign_22
  · replace h := ite_neg' h hc
    refine lv_aload_n C.1.1 C.1.2.1 dX7_sign_8 rfl (lv_at hl 0 rfl) ?_
    refine r_getR (v := .ref (ad 2)) C hw km0 fX7_7 rfl (hm1 hx) dX7_sign_9 ?_
    refine lv_iload_n C.1.1 C.1.2.1 dX7_sign_12 rfl (lv_at hl 1 rfl) ?_
    obtain ⟨hz, h⟩ := ck_some h
    refine r_bald C hw km2 (inB_in hz) dX7_sign_13 ?_
    refine lv_sipush (v := 255) C.1.1 C.1.2.1 dX7_sign_14 (by decide) ?_
    refine lv_iand C.1.1 C.1.2.1 dX7_sign_17 ?_
    refine lv_goto (tgt := 22) C.1.1 C.1.2.1 dX7_sign_18 (by decide) ?_
    cases h
    exact r_iret C hw (Or.inl rfl) dX7_sign_22
set_option maxHeartbeats 4000000 in
set_option maxRecDepth 100000 in
theorem c_X7_sign (hx : HM hr ad) {a1 : Int32} {g : GM} {r : Int32} (h : F_X7_sign a1 g = some r) (sz : Nat) : Met l yX7_sign (WSX yX7_sign cX7_sign 2 (some .int)) (RM 1 0 0) (va_Pc [.ref (ad 0), .int a1] (PX D cA ev hr ad KM g sz)) (QI D cA ev hr ad (AX ad KM.length sz) KM r g) 0 0 (AX ad KM.length sz) :=
  met_of (own := RX7) pnX7 rfl (Nat.le_of_ble_eq_true rfl) (fun p e s m below meth c ls C hw hsz hl => w_X7_sign_0 C hx hw hl h)
set_option maxHeartbeats 4000000 in
set_option maxRecDepth 100000 in
theorem w_X7_isLetter_16 {g : GM} {r : Int32} (C : CX p s m args meth c RX7 yX7_isLetter cX7_isLetter 1 (some .boolean) D cA) (hx : HM hr ad) {H : Heap} {locs : List Loc} (hw : WS D cA ev hr ad A KM s H locs g) {ls : Array Slot} (hl : lv_has ls 1 []) (h : F_X7_isLetter_16 = some r) : W p l e (RM 1 0 0) s m args below meth c H locs 0 0 (MQ below (QI D cA ev hr ad A KM r g) args s 0 0 A) (F0 m 16 ls []) := by
  refine lv_iconst (v := 0) C.1.1 C.1.2.1 dX7_isLetter_16 (by decide) ?_
  cases h
  exact r_iret C hw (Or.inr ⟨rfl, Or.inl rfl⟩) dX7_isLetter_17
set_option maxHeartbeats 4000000 in
set_option maxRecDepth 100000 in
theorem w_X7_isLetter_0 (C : CX p s m args meth c RX7 yX7_isLetter cX7_isLetter 1 (some .boolean) D cA) (hx : HM hr ad) {H : Heap} {locs : List Loc} {g : GM} (hw : WS D cA ev hr ad A KM s H locs g) {a0 : Int32} {ls : Array Slot} (hl : lv_has ls 1 [(0, .int a0)]) {r : Int32} (h : F_X7_isLetter a0 = some r) : W p l e (RM 1 0 0) s m args below meth c H locs 0 0 (MQ below (QI D cA ev hr ad A KM r g) args s 0 0 A) (F0 m 0 ls []) := by
  refine lv_iload_n C.1.1 C.1.2.1 dX7_isLetter_0 rfl (lv_at hl 0 rfl) ?_
  refine lv_bipush (v := 97) C.1.1 C.1.2.1 dX7_isLetter_1 (by decide) ?_
  refine lv_icmp_lt (tgt := 16) C.1.1 C.1.2.1 dX7_isLetter_3 (by decide) (fun hc => ?_) (fun hc => ?_)
  · replace h := ite_pos' h hc
    exact w_X7_isLetter_16 C hx hw (lv_sub hl [] rfl) h
  · replace h := ite_neg' h hc
    refine lv_iload_n C.1.1 C.1.2.1 dX7_isLetter_6 rfl (lv_at hl 0 rfl) ?_
    refine lv_bipush (v := 122) C.1.1 C.1.2.1 dX7_isLetter_7 (by decide) ?_
    refine lv_icmp_gt (tgt := 16) C.1.1 C.1.2.1 dX7_isLetter_9 (by decide) (fun hc => ?_) (fun hc => ?_)
    · replace h := ite_pos' h hc
      exact w_X7_isLetter_16 C hx hw (lv_sub hl [] rfl) h
    · replace h := ite_neg' h hc
      refine lv_iconst (v := 1) C.1.1 C.1.2.1 dX7_isLetter_12 (by decide) ?_
      refine lv_goto (tgt := 17) C.1.1 C.1.2.1 dX7_isLetter_13 (by decide) ?_
      cases h
      exact r_iret C hw (Or.inr ⟨rfl, Or.inr rfl⟩) dX7_isLetter_17
set_option maxHeartbeats 4000000 in
set_option maxRecDepth 100000 in
theorem c_X7_isLetter (hx : HM hr ad) {a0 : Int32} {g : GM} {r : Int32} (h : F_X7_isLetter a0 = some r) (sz : Nat) : Met l yX7_isLetter (WSX yX7_isLetter cX7_isLetter 1 (some .boolean)) (RM 1 0 0) (va_Pc [.int a0] (PX D cA ev hr ad KM g sz)) (QI D cA ev hr ad (AX ad KM.length sz) KM r g) 0 0 (AX ad KM.length sz) :=
  met_of (own := RX7) pnX7 rfl (Nat.le_of_ble_eq_true rfl) (fun p e s m below meth c ls C hw hsz hl => w_X7_isLetter_0 C hx hw hl h)
set_option maxHeartbeats 4000000 in
set_option maxRecDepth 100000 in
theorem w_X7_isDigit_16 {g : GM} {r : Int32} (C : CX p s m args meth c RX7 yX7_isDigit cX7_isDigit 1 (some .boolean) D cA) (hx : HM hr ad) {H : Heap} {locs : List Loc} (hw : WS D cA ev hr ad A KM s H locs g) {ls : Array Slot} (hl : lv_has ls 1 []) (h : F_X7_isDigit_16 = some r) : W p l e (RM 1 0 0) s m args below meth c H locs 0 0 (MQ below (QI D cA ev hr ad A KM r g) args s 0 0 A) (F0 m 16 ls []) := by
  refine lv_iconst (v := 0) C.1.1 C.1.2.1 dX7_isDigit_16 (by decide) ?_
  cases h
  exact r_iret C hw (Or.inr ⟨rfl, Or.inl rfl⟩) dX7_isDigit_17
set_option maxHeartbeats 4000000 in
set_option maxRecDepth 100000 in
theorem w_X7_isDigit_0 (C : CX p s m args meth c RX7 yX7_isDigit cX7_isDigit 1 (some .boolean) D cA) (hx : HM hr ad) {H : Heap} {locs : List Loc} {g : GM} (hw : WS D cA ev hr ad A KM s H locs g) {a0 : Int32} {ls : Array Slot} (hl : lv_has ls 1 [(0, .int a0)]) {r : Int32} (h : F_X7_isDigit a0 = some r) : W p l e (RM 1 0 0) s m args below meth c H locs 0 0 (MQ below (QI D cA ev hr ad A KM r g) args s 0 0 A) (F0 m 0 ls []) := by
  refine lv_iload_n C.1.1 C.1.2.1 dX7_isDigit_0 rfl (lv_at hl 0 rfl) ?_
  refine lv_bipush (v := 48) C.1.1 C.1.2.1 dX7_isDigit_1 (by decide) ?_
  refine lv_icmp_lt (tgt := 16) C.1.1 C.1.2.1 dX7_isDigit_3 (by decide) (fun hc => ?_) (fun hc => ?_)
  · replace h := ite_pos' h hc
    exact w_X7_isDigit_16 C hx hw (lv_sub hl [] rfl) h
  · replace h := ite_neg' h hc
    refine lv_iload_n C.1.1 C.1.2.1 dX7_isDigit_6 rfl (lv_at hl 0 rfl) ?_
    refine lv_bipush (v := 57) C.1.1 C.1.2.1 dX7_isDigit_7 (by decide) ?_
    refine lv_icmp_gt (tgt := 16) C.1.1 C.1.2.1 dX7_isDigit_9 (by decide) (fun hc => ?_) (fun hc => ?_)
    · replace h := ite_pos' h hc
      exact w_X7_isDigit_16 C hx hw (lv_sub hl [] rfl) h
    · replace h := ite_neg' h hc
      refine lv_iconst (v := 1) C.1.1 C.1.2.1 dX7_isDigit_12 (by decide) ?_
      refine lv_goto (tgt := 17) C.1.1 C.1.2.1 dX7_isDigit_13 (by decide) ?_
      cases h
      exact r_iret C hw (Or.inr ⟨rfl, Or.inr rfl⟩) dX7_isDigit_17
set_option maxHeartbeats 4000000 in
set_option maxRecDepth 100000 in
theorem c_X7_isDigit (hx : HM hr ad) {a0 : Int32} {g : GM} {r : Int32} (h : F_X7_isDigit a0 = some r) (sz : Nat) : Met l yX7_isDigit (WSX yX7_isDigit cX7_isDigit 1 (some .boolean)) (RM 1 0 0) (va_Pc [.int a0] (PX D cA ev hr ad KM g sz)) (QI D cA ev hr ad (AX ad KM.length sz) KM r g) 0 0 (AX ad KM.length sz) :=
  met_of (own := RX7) pnX7 rfl (Nat.le_of_ble_eq_true rfl) (fun p e s m below meth c ls C hw hsz hl => w_X7_isDigit_0 C hx hw hl h)
set_option maxHeartbeats 4000000 in
set_option maxRecDepth 100000 in
theorem w_X7_fails_0 (C : CX p s m args meth c RX7 yX7_fails cX7_fails 3 none D cA) (hx : HM hr ad) {H : Heap} {locs : List Loc} {g : GM} (hw : WS D cA ev hr ad A KM s H locs g) {a1 : Int32} {a2 : Int32} {ls : Array Slot} (hl : lv_has ls 3 [(0, .ref (ad 0)), (1, .int a1), (2, .int a2)]) {gz : GM} (h : F_X7_fails a1 a2 g = some gz) : W p l e (RM 1 0 0) s m args below meth c H locs 0 0 (MQ below (QV D cA ev hr ad A KM gz) args s 0 0 A) (F0 m 0 ls []) := by
  refine lv_aload_n C.1.1 C.1.2.1 dX7_fails_0 rfl (lv_at hl 0 rfl) ?_
  refine r_getI C hw km0 fX7_11 rfl dX7_fails_1 ?_
  refine lv_if_le (tgt := 8) C.1.1 C.1.2.1 dX7_fails_4 (by decide) (fun hc => ?_) (fun hc => ?_)
  · replace h := ite_pos' h hc
    refine lv_aload_n C.1.1 C.1.2.1 dX7_fails_8 rfl (lv_at hl 0 rfl) ?_
    refine lv_iload_n C.1.1 C.1.2.1 dX7_fails_9 rfl (lv_at hl 1 rfl) ?_
    refine r_putI C hw km0 fX7_11 rfl rfl (Or.inl rfl) dX7_fails_10 (fun H locs hw => ?_)
    refine lt_gen (P := fun g => WS D cA ev hr ad A KM s H locs g) h hw (fun g_1 h hw => ?_)
    refine lv_aload_n C.1.1 C.1.2.1 dX7_fails_13 rfl (lv_at hl 0 rfl) ?_
    refine lv_iload_n C.1.1 C.1.2.1 dX7_fails_14 rfl (lv_at hl 2 rfl) ?_
    refine r_putI C hw km0 fX7_14 rfl rfl (Or.inl rfl) dX7_fails_15 (fun H locs hw => ?_)
    refine lt_gen (P := fun g => WS D cA ev hr ad A KM s H locs g) h hw (fun g_2 h hw => ?_)
    cases h
    exact r_vret C hw rfl dX7_fails_18
  · replace h := ite_neg' h hc
    cases h
    exact r_vret C hw rfl dX7_fails_7
set_option maxHeartbeats 4000000 in
set_option maxRecDepth 100000 in
theorem c_X7_fails (hx : HM hr ad) {a1 : Int32} {a2 : Int32} {g : GM} {gz : GM} (h : F_X7_fails a1 a2 g = some gz) (sz : Nat) : Met l yX7_fails (WSX yX7_fails cX7_fails 3 none) (RM 1 0 0) (va_Pc [.ref (ad 0), .int a1, .int a2] (PX D cA ev hr ad KM g sz)) (QV D cA ev hr ad (AX ad KM.length sz) KM gz) 0 0 (AX ad KM.length sz) :=
  met_of (own := RX7) pnX7 rfl (Nat.le_of_ble_eq_true rfl) (fun p e s m below meth c ls C hw hsz hl => w_X7_fails_0 C hx hw hl h)
set_option maxHeartbeats 4000000 in
set_option maxRecDepth 100000 in
theorem w_X7_isGood_0 (C : CX p s m args meth c RX7 yX7_isGood cX7_isGood 1 (some .boolean) D cA) (hx : HM hr ad) {H : Heap} {locs : List Loc} {g : GM} (hw : WS D cA ev hr ad A KM s H locs g) {ls : Array Slot} (hl : lv_has ls 1 [(0, .ref (ad 0))]) {r : Int32} (h : F_X7_isGood g = some r) : W p l e (RM 1 0 0) s m args below meth c H locs 0 0 (MQ below (QI D cA ev hr ad A KM r g) args s 0 0 A) (F0 m 0 ls []) := by
  refine lv_aload_n C.1.1 C.1.2.1 dX7_isGood_0 rfl (lv_at hl 0 rfl) ?_
  refine r_getI C hw km0 fX7_11 rfl dX7_isGood_1 ?_
  refine lv_if_ne (tgt := 11) C.1.1 C.1.2.1 dX7_isGood_4 (by decide) (fun hc => ?_) (fun hc => ?_)
  · replace h := ite_neg' h hc
    refine lv_iconst (v := 0) C.1.1 C.1.2.1 dX7_isGood_11 (by decide) ?_
    cases h
    exact r_iret C hw (Or.inr ⟨rfl, Or.inl rfl⟩) dX7_isGood_12
  · replace h := ite_pos' h hc
    refine lv_iconst (v := 1) C.1.1 C.1.2.1 dX7_isGood_7 (by decide) ?_
    refine lv_goto (tgt := 12) C.1.1 C.1.2.1 dX7_isGood_8 (by decide) ?_
    cases h
    exact r_iret C hw (Or.inr ⟨rfl, Or.inr rfl⟩) dX7_isGood_12
set_option maxHeartbeats 4000000 in
set_option maxRecDepth 100000 in
theorem c_X7_isGood (hx : HM hr ad) {g : GM} {r : Int32} (h : F_X7_isGood g = some r) (sz : Nat) : Met l yX7_isGood (WSX yX7_isGood cX7_isGood 1 (some .boolean)) (RM 1 0 0) (va_Pc [.ref (ad 0)] (PX D cA ev hr ad KM g sz)) (QI D cA ev hr ad (AX ad KM.length sz) KM r g) 0 0 (AX ad KM.length sz) :=
  met_of (own := RX7) pnX7 rfl (Nat.le_of_ble_eq_true rfl) (fun p e s m below meth c ls C hw hsz hl => w_X7_isGood_0 C hx hw hl h)
set_option maxHeartbeats 4000000 in
set_option maxRecDepth 100000 in
theorem w_X7_isKept_88 {g : GM} {r : Int32} (C : CX p s m args meth c RX7 yX7_isKept cX7_isKept 2 (some .boolean) D cA) (hx : HM hr ad) {H : Heap} {locs : List Loc} (hw : WS D cA ev hr ad A KM s H locs g) {ls : Array Slot} (hl : lv_has ls 2 []) (h : F_X7_isKept_88 = some r) : W p l e (RM 1 0 0) s m args below meth c H locs 0 0 (MQ below (QI D cA ev hr ad A KM r g) args s 0 0 A) (F0 m 88 ls []) := by
  refine lv_iconst (v := 1) C.1.1 C.1.2.1 dX7_isKept_88 (by decide) ?_
  refine lv_goto (tgt := 93) C.1.1 C.1.2.1 dX7_isKept_89 (by decide) ?_
  cases h
  exact r_iret C hw (Or.inr ⟨rfl, Or.inr rfl⟩) dX7_isKept_93
set_option maxHeartbeats 4000000 in
set_option maxRecDepth 100000 in
theorem w_X7_isKept_0 (C : CX p s m args meth c RX7 yX7_isKept cX7_isKept 2 (some .boolean) D cA) (hx : HM hr ad) {H : Heap} {locs : List Loc} {g : GM} (hw : WS D cA ev hr ad A KM s H locs g) {a0 : Int64} {ls : Array Slot} (hl : lv_has ls 2 [(0, .long a0)]) {r : Int32} (h : F_X7_isKept a0 = some r) : W p l e (RM 1 0 0) s m args below meth c H locs 0 0 (MQ below (QI D cA ev hr ad A KM r g) args s 0 0 A) (F0 m 0 ls []) := by
  refine lv_lload_n C.1.1 C.1.2.1 dX7_isKept_0 rfl (lv_at hl 0 rfl) ?_
  refine lv_ldc2 (v := 499850046565) C.1.1 C.1.2.1 C.1.2.2.2.1 (C.w kc810) dX7_isKept_1 ?_
  refine W.lcmp C.1.1 C.1.2.1 dX7_isKept_4 ?_
  refine lv_if_eq (tgt := 88) C.1.1 C.1.2.1 dX7_isKept_5 (by decide) (fun hc => ?_) (fun hc => ?_)
  · replace h := ite_pos' h hc
    exact w_X7_isKept_88 C hx hw (lv_sub hl [] rfl) h
  · replace h := ite_neg' h hc
    refine lv_lload_n C.1.1 C.1.2.1 dX7_isKept_8 rfl (lv_at hl 0 rfl) ?_
    refine lv_ldc2 (v := 7499639) C.1.1 C.1.2.1 C.1.2.2.2.1 (C.w kc811) dX7_isKept_9 ?_
    refine W.lcmp C.1.1 C.1.2.1 dX7_isKept_12 ?_
    refine lv_if_eq (tgt := 88) C.1.1 C.1.2.1 dX7_isKept_13 (by decide) (fun hc => ?_) (fun hc => ?_)
    · replace h := ite_pos' h hc
      exact w_X7_isKept_88 C hx hw (lv_sub hl [] rfl) h
    · replace h := ite_neg' h hc
      refine lv_lload_n C.1.1 C.1.2.1 dX7_isKept_16 rfl (lv_at hl 0 rfl) ?_
      refine lv_ldc2 (v := 29807) C.1.1 C.1.2.1 C.1.2.2.2.1 (C.w kc812) dX7_isKept_17 ?_
      refine W.lcmp C.1.1 C.1.2.1 dX7_isKept_20 ?_
      refine lv_if_eq (tgt := 88) C.1.1 C.1.2.1 dX7_isKept_21 (by decide) (fun hc => ?_) (fun hc => ?_)
      · replace h := ite_pos' h hc
        exact w_X7_isKept_88 C hx hw (lv_sub hl [] rfl) h
      · replace h := ite_neg' h hc
        refine lv_lload_n C.1.1 C.1.2.1 dX7_isKept_24 rfl (lv_at hl 0 rfl) ?_
        refine lv_ldc2 (v := 2003399528) C.1.1 C.1.2.1 C.1.2.2.2.1 (C.w kc813) dX7_isKept_25 ?_
        refine W.lcmp C.1.1 C.1.2.1 dX7_isKept_28 ?_
        refine lv_if_eq (tgt := 88) C.1.1 C.1.2.1 dX7_isKept_29 (by decide) (fun hc => ?_) (fun hc => ?_)
        · replace h := ite_pos' h hc
          exact w_X7_isKept_88 C hx hw (lv_sub hl [] rfl) h
        · replace h := ite_neg' h hc
          refine lv_lload_n C.1.1 C.1.2.1 dX7_isKept_32 rfl (lv_at hl 0 rfl) ?_
          refine lv_ldc2 (v := 7102839) C.1.1 C.1.2.1 C.1.2.2.2.1 (C.w kc814) dX7_isKept_33 ?_
          refine W.lcmp C.1.1 C.1.2.1 dX7_isKept_36 ?_
          refine lv_if_eq (tgt := 88) C.1.1 C.1.2.1 dX7_isKept_37 (by decide) (fun hc => ?_) (fun hc => ?_)
          · replace h := ite_pos' h hc
            exact w_X7_isKept_88 C hx hw (lv_sub hl [] rfl) h
          · replace h := ite_neg' h hc
            refine lv_lload_n C.1.1 C.1.2.1 dX7_isKept_40 rfl (lv_at hl 0 rfl) ?_
            refine lv_ldc2 (v := 512852587109) C.1.1 C.1.2.1 C.1.2.2.2.1 (C.w kc815) dX7_isKept_41 ?_
            refine W.lcmp C.1.1 C.1.2.1 dX7_isKept_44 ?_
            refine lv_if_eq (tgt := 88) C.1.1 C.1.2.1 dX7_isKept_45 (by decide) (fun hc => ?_) (fun hc => ?_)
            · replace h := ite_pos' h hc
              exact w_X7_isKept_88 C hx hw (lv_sub hl [] rfl) h
            · replace h := ite_neg' h hc
              refine lv_lload_n C.1.1 C.1.2.1 dX7_isKept_48 rfl (lv_at hl 0 rfl) ?_
              refine lv_ldc2 (v := 474147546227) C.1.1 C.1.2.1 C.1.2.2.2.1 (C.w kc816) dX7_isKept_49 ?_
              refine W.lcmp C.1.1 C.1.2.1 dX7_isKept_52 ?_
              refine lv_if_eq (tgt := 88) C.1.1 C.1.2.1 dX7_isKept_53 (by decide) (fun hc => ?_) (fun hc => ?_)
              · replace h := ite_pos' h hc
                exact w_X7_isKept_88 C hx hw (lv_sub hl [] rfl) h
              · replace h := ite_neg' h hc
                refine lv_lload_n C.1.1 C.1.2.1 dX7_isKept_56 rfl (lv_at hl 0 rfl) ?_
                refine lv_ldc2 (v := 25209) C.1.1 C.1.2.1 C.1.2.2.2.1 (C.w kc817) dX7_isKept_57 ?_
                refine W.lcmp C.1.1 C.1.2.1 dX7_isKept_60 ?_
                refine lv_if_eq (tgt := 88) C.1.1 C.1.2.1 dX7_isKept_61 (by decide) (fun hc => ?_) (fun hc => ?_)
                · replace h := ite_pos' h hc
                  exact w_X7_isKept_88 C hx hw (lv_sub hl [] rfl) h
                · replace h := ite_neg' h hc
                  refine lv_lload_n C.1.1 C.1.2.1 dX7_isKept_64 rfl (lv_at hl 0 rfl) ?_
                  refine lv_ldc2 (v := 7237492) C.1.1 C.1.2.1 C.1.2.2.2.1 (C.w kc818) dX7_isKept_65 ?_
                  refine W.lcmp C.1.1 C.1.2.1 dX7_isKept_68 ?_
                  refine lv_if_eq (tgt := 88) C.1.1 C.1.2.1 dX7_isKept_69 (by decide) (fun hc => ?_) (fun hc => ?_)
                  · replace h := ite_pos' h hc
                    exact w_X7_isKept_88 C hx hw (lv_sub hl [] rfl) h
                  · replace h := ite_neg' h hc
                    refine lv_lload_n C.1.1 C.1.2.1 dX7_isKept_72 rfl (lv_at hl 0 rfl) ?_
                    refine lv_ldc2 (v := 6385252) C.1.1 C.1.2.1 C.1.2.2.2.1 (C.w kc819) dX7_isKept_73 ?_
                    refine W.lcmp C.1.1 C.1.2.1 dX7_isKept_76 ?_
                    refine lv_if_eq (tgt := 88) C.1.1 C.1.2.1 dX7_isKept_77 (by decide) (fun hc => ?_) (fun hc => ?_)
                    · replace h := ite_pos' h hc
                      exact w_X7_isKept_88 C hx hw (lv_sub hl [] rfl) h
                    · replace h := ite_neg' h hc
                      refine lv_lload_n C.1.1 C.1.2.1 dX7_isKept_80 rfl (lv_at hl 0 rfl) ?_
                      refine lv_ldc2 (v := 28530) C.1.1 C.1.2.1 C.1.2.2.2.1 (C.w kc820) dX7_isKept_81 ?_
                      refine W.lcmp C.1.1 C.1.2.1 dX7_isKept_84 ?_
                      refine lv_if_ne (tgt := 92) C.1.1 C.1.2.1 dX7_isKept_85 (by decide) (fun hc => ?_) (fun hc => ?_)
                      · replace h := ite_neg' h hc
                        refine lv_iconst (v := 0) C.1.1 C.1.2.1 dX7_isKept_92 (by decide) ?_
                        cases h
                        exact r_iret C hw (Or.inr ⟨rfl, Or.inl rfl⟩) dX7_isKept_93
                      · replace h := ite_pos' h hc
                        exact w_X7_isKept_88 C hx hw (lv_sub hl [] rfl) h
set_option maxHeartbeats 4000000 in
set_option maxRecDepth 100000 in
theorem c_X7_isKept (hx : HM hr ad) {a0 : Int64} {g : GM} {r : Int32} (h : F_X7_isKept a0 = some r) (sz : Nat) : Met l yX7_isKept (WSX yX7_isKept cX7_isKept 2 (some .boolean)) (RM 1 0 0) (va_Pc [.long a0] (PX D cA ev hr ad KM g sz)) (QI D cA ev hr ad (AX ad KM.length sz) KM r g) 0 0 (AX ad KM.length sz) :=
  met_of (own := RX7) pnX7 rfl (Nat.le_of_ble_eq_true rfl) (fun p e s m below meth c ls C hw hsz hl => w_X7_isKept_0 C hx hw hl h)
set_option maxHeartbeats 4000000 in
set_option maxRecDepth 100000 in
theorem w_X7_isSign_73 {g : GM} {r : Int32} (C : CX p s m args meth c RX7 yX7_isSign cX7_isSign 2 (some .boolean) D cA) (hx : HM hr ad) {H : Heap} {locs : List Loc} (hw : WS D cA ev hr ad A KM s H locs g) {ls : Array Slot} (hl : lv_has ls 2 []) (h : F_X7_isSign_73 g = some r) : W p l e (RM 1 0 0) s m args below meth c H locs 0 0 (MQ below (QI D cA ev hr ad A KM r g) args s 0 0 A) (F0 m 73 ls []) := by
  refine lv_iconst (v := 1) C.1.1 C.1.2.1 dX7_isSign_73 (by decide) ?_
  refine lv_goto (tgt := 78) C.1.1 C.1.2.1 dX7_isSign_74 (by decide) ?_
  cases h
  exact r_iret C hw (Or.inr ⟨rfl, Or.inr rfl⟩) dX7_isSign_78
set_option maxHeartbeats 4000000 in
set_option maxRecDepth 100000 in
theorem w_X7_isSign_77 {g : GM} {r : Int32} (C : CX p s m args meth c RX7 yX7_isSign cX7_isSign 2 (some .boolean) D cA) (hx : HM hr ad) {H : Heap} {locs : List Loc} (hw : WS D cA ev hr ad A KM s H locs g) {ls : Array Slot} (hl : lv_has ls 2 []) (h : F_X7_isSign_77 g = some r) : W p l e (RM 1 0 0) s m args below meth c H locs 0 0 (MQ below (QI D cA ev hr ad A KM r g) args s 0 0 A) (F0 m 77 ls []) := by
  refine lv_iconst (v := 0) C.1.1 C.1.2.1 dX7_isSign_77 (by decide) ?_
  cases h
  exact r_iret C hw (Or.inr ⟨rfl, Or.inl rfl⟩) dX7_isSign_78
set_option maxHeartbeats 4000000 in
set_option maxRecDepth 100000 in
theorem w_X7_isSign_0 (C : CX p s m args meth c RX7 yX7_isSign cX7_isSign 2 (some .boolean) D cA) (hx : HM hr ad) {H : Heap} {locs : List Loc} {g : GM} (hw : WS D cA ev hr ad A KM s H locs g) {a1 : Int32} {ls : Array Slot} (hl : lv_has ls 2 [(0, .ref (ad 0)), (1, .int a1)]) {r : Int32} (h : F_X7_isSign a1 g = some r) : W p l e (RM 1 0 0) s m args below meth c H locs 0 0 (MQ below (QI D cA ev hr ad A KM r g) args s 0 0 A) (F0 m 0 ls []) := by
  refine lv_iload_n C.1.1 C.1.2.1 dX7_isSign_0 rfl (lv_at hl 1 rfl) ?_
  refine lv_bipush (v := 58) C.1.1 C.1.2.1 dX7_isSign_1 (by decide) ?_
  refine lv_icmp_eq (tgt := 73) C.1.1 C.1.2.1 dX7_isSign_3 (by decide) (fun hc => ?_) (fun hc => ?_)
  · replace h := ite_pos' h hc
    exact w_X7_isSign_73 C hx hw (lv_sub hl [] rfl) h
  · replace h := ite_neg' h hc
    refine lv_iload_n C.1.1 C.1.2.1 dX7_isSign_6 rfl (lv_at hl 1 rfl) ?_
    refine lv_bipush (v := 44) C.1.1 C.1.2.1 dX7_isSign_7 (by decide) ?_
    refine lv_icmp_eq (tgt := 73) C.1.1 C.1.2.1 dX7_isSign_9 (by decide) (fun hc => ?_) (fun hc => ?_)
    · replace h := ite_pos' h hc
      exact w_X7_isSign_73 C hx hw (lv_sub hl [] rfl) h
    · replace h := ite_neg' h hc
      refine lv_iload_n C.1.1 C.1.2.1 dX7_isSign_12 rfl (lv_at hl 1 rfl) ?_
      refine lv_bipush (v := 59) C.1.1 C.1.2.1 dX7_isSign_13 (by decide) ?_
      refine lv_icmp_eq (tgt := 73) C.1.1 C.1.2.1 dX7_isSign_15 (by decide) (fun hc => ?_) (fun hc => ?_)
      · replace h := ite_pos' h hc
        exact w_X7_isSign_73 C hx hw (lv_sub hl [] rfl) h
      · replace h := ite_neg' h hc
        refine lv_iload_n C.1.1 C.1.2.1 dX7_isSign_18 rfl (lv_at hl 1 rfl) ?_
        refine lv_bipush (v := 35) C.1.1 C.1.2.1 dX7_isSign_19 (by decide) ?_
        refine lv_icmp_eq (tgt := 73) C.1.1 C.1.2.1 dX7_isSign_21 (by decide) (fun hc => ?_) (fun hc => ?_)
        · replace h := ite_pos' h hc
          exact w_X7_isSign_73 C hx hw (lv_sub hl [] rfl) h
        · replace h := ite_neg' h hc
          refine lv_iload_n C.1.1 C.1.2.1 dX7_isSign_24 rfl (lv_at hl 1 rfl) ?_
          refine lv_bipush (v := 45) C.1.1 C.1.2.1 dX7_isSign_25 (by decide) ?_
          refine lv_icmp_eq (tgt := 73) C.1.1 C.1.2.1 dX7_isSign_27 (by decide) (fun hc => ?_) (fun hc => ?_)
          · replace h := ite_pos' h hc
            exact w_X7_isSign_73 C hx hw (lv_sub hl [] rfl) h
          · replace h := ite_neg' h hc
            refine lv_iload_n C.1.1 C.1.2.1 dX7_isSign_30 rfl (lv_at hl 1 rfl) ?_
            refine lv_bipush (v := 46) C.1.1 C.1.2.1 dX7_isSign_31 (by decide) ?_
            refine lv_icmp_eq (tgt := 73) C.1.1 C.1.2.1 dX7_isSign_33 (by decide) (fun hc => ?_) (fun hc => ?_)
            · replace h := ite_pos' h hc
              exact w_X7_isSign_73 C hx hw (lv_sub hl [] rfl) h
            · replace h := ite_neg' h hc
              refine lv_aload_n C.1.1 C.1.2.1 dX7_isSign_36 rfl (lv_at hl 0 rfl) ?_
              refine r_getI C hw km0 fX7_39 rfl dX7_isSign_37 ?_
              refine lv_if_eq (tgt := 77) C.1.1 C.1.2.1 dX7_isSign_40 (by decide) (fun hc => ?_) (fun hc => ?_)
              · replace h := ite_pos' h hc
                exact w_X7_isSign_77 C hx hw (lv_sub hl [] rfl) h
              · replace h := ite_neg' h hc
                refine lv_iload_n C.1.1 C.1.2.1 dX7_isSign_43 rfl (lv_at hl 1 rfl) ?_
                refine lv_bipush (v := 60) C.1.1 C.1.2.1 dX7_isSign_44 (by decide) ?_
                refine lv_icmp_eq (tgt := 73) C.1.1 C.1.2.1 dX7_isSign_46 (by decide) (fun hc => ?_) (fun hc => ?_)
                · replace h := ite_pos' h hc
                  exact w_X7_isSign_73 C hx hw (lv_sub hl [] rfl) h
                · replace h := ite_neg' h hc
                  refine lv_iload_n C.1.1 C.1.2.1 dX7_isSign_49 rfl (lv_at hl 1 rfl) ?_
                  refine lv_bipush (v := 62) C.1.1 C.1.2.1 dX7_isSign_50 (by decide) ?_
                  refine lv_icmp_eq (tgt := 73) C.1.1 C.1.2.1 dX7_isSign_52 (by decide) (fun hc => ?_) (fun hc => ?_)
                  · replace h := ite_pos' h hc
                    exact w_X7_isSign_73 C hx hw (lv_sub hl [] rfl) h
                  · replace h := ite_neg' h hc
                    refine lv_iload_n C.1.1 C.1.2.1 dX7_isSign_55 rfl (lv_at hl 1 rfl) ?_
                    refine lv_bipush (v := 61) C.1.1 C.1.2.1 dX7_isSign_56 (by decide) ?_
                    refine lv_icmp_eq (tgt := 73) C.1.1 C.1.2.1 dX7_isSign_58 (by decide) (fun hc => ?_) (fun hc => ?_)
                    · replace h := ite_pos' h hc
                      exact w_X7_isSign_73 C hx hw (lv_sub hl [] rfl) h
                    · replace h := ite_neg' h hc
                      refine lv_iload_n C.1.1 C.1.2.1 dX7_isSign_61 rfl (lv_at hl 1 rfl) ?_
                      refine lv_bipush (v := 40) C.1.1 C.1.2.1 dX7_isSign_62 (by decide) ?_
                      refine lv_icmp_eq (tgt := 73) C.1.1 C.1.2.1 dX7_isSign_64 (by decide) (fun hc => ?_) (fun hc => ?_)
                      · replace h := ite_pos' h hc
                        exact w_X7_isSign_73 C hx hw (lv_sub hl [] rfl) h
                      · replace h := ite_neg' h hc
                        refine lv_iload_n C.1.1 C.1.2.1 dX7_isSign_67 rfl (lv_at hl 1 rfl) ?_
                        refine lv_bipush (v := 41) C.1.1 C.1.2.1 dX7_isSign_68 (by decide) ?_
                        refine lv_icmp_ne (tgt := 77) C.1.1 C.1.2.1 dX7_isSign_70 (by decide) (fun hc => ?_) (fun hc => ?_)
                        · replace h := ite_neg' h hc
                          exact w_X7_isSign_77 C hx hw (lv_sub hl [] rfl) h
                        · replace h := ite_pos' h hc
                          exact w_X7_isSign_73 C hx hw (lv_sub hl [] rfl) h
set_option maxHeartbeats 4000000 in
set_option maxRecDepth 100000 in
theorem c_X7_isSign (hx : HM hr ad) {a1 : Int32} {g : GM} {r : Int32} (h : F_X7_isSign a1 g = some r) (sz : Nat) : Met l yX7_isSign (WSX yX7_isSign cX7_isSign 2 (some .boolean)) (RM 1 0 0) (va_Pc [.ref (ad 0), .int a1] (PX D cA ev hr ad KM g sz)) (QI D cA ev hr ad (AX ad KM.length sz) KM r g) 0 0 (AX ad KM.length sz) :=
  met_of (own := RX7) pnX7 rfl (Nat.le_of_ble_eq_true rfl) (fun p e s m below meth c ls C hw hsz hl => w_X7_isSign_0 C hx hw hl h)
set_option maxHeartbeats 4000000 in
set_option maxRecDepth 100000 in
theorem w_X7_next_377 {s0 : Int32} {g : GM} {gz : GM} (C : CX p s m args meth c RX7 yX7_next cX7_next 3 none D cA) (hx : HM hr ad) {H : Heap} {locs : List Loc} (hw : WS D cA ev hr ad A KM s H locs g) {ls : Array Slot} (hl : lv_has ls 3 []) (h : F_X7_next_377 s0 g = some gz) : W p l e (RM 2 0 0) s m args below meth c H locs 0 0 (MQ below (QV D cA ev hr ad A KM gz) args s 0 0 A) (F0 m 377 ls [.int s0, .ref (ad 0)]) := by
  refine r_putI C hw km0 fX7_53 rfl rfl (Or.inl rfl) dX7_next_377 (fun H locs hw => ?_)
  refine lt_gen (P := fun g => WS D cA ev hr ad A KM s H locs g) h hw (fun g_1 h hw => ?_)
  cases h
  exact r_vret C hw rfl dX7_next_380
set_option maxHeartbeats 4000000 in
set_option maxRecDepth 100000 in
theorem w_X7_next_357 {s0 : Int32} {g : GM} {gz : GM} (C : CX p s m args meth c RX7 yX7_next cX7_next 3 none D cA) (hx : HM hr ad) {H : Heap} {locs : List Loc} (hw : WS D cA ev hr ad A KM s H locs g) {ls : Array Slot} (hl : lv_has ls 3 []) (h : F_X7_next_357 s0 g = some gz) : W p l e (RM 2 0 0) s m args below meth c H locs 0 0 (MQ below (QV D cA ev hr ad A KM gz) args s 0 0 A) (F0 m 357 ls [.int s0, .ref (ad 0)]) := by
  refine r_putI C hw km0 fX7_53 rfl rfl (Or.inl rfl) dX7_next_357 (fun H locs hw => ?_)
  refine lt_gen (P := fun g => WS D cA ev hr ad A KM s H locs g) h hw (fun g_2 h hw => ?_)
  refine lv_goto (tgt := 380) C.1.1 C.1.2.1 dX7_next_360 (by decide) ?_
  cases h
  exact r_vret C hw rfl dX7_next_380
set_option maxHeartbeats 4000000 in
set_option maxRecDepth 100000 in
theorem w_X7_next_352 {g : GM} {gz : GM} (C : CX p s m args meth c RX7 yX7_next cX7_next 3 none D cA) (hx : HM hr ad) {H : Heap} {locs : List Loc} (hw : WS D cA ev hr ad A KM s H locs g) {ls : Array Slot} (hl : lv_has ls 3 []) (h : F_X7_next_352 g = some gz) : W p l e (RM 2 0 0) s m args below meth c H locs 0 0 (MQ below (QV D cA ev hr ad A KM gz) args s 0 0 A) (F0 m 352 ls [.ref (ad 0)]) := by
  refine lv_iconst (v := 1) C.1.1 C.1.2.1 dX7_next_352 (by decide) ?_
  refine lv_goto (tgt := 357) C.1.1 C.1.2.1 dX7_next_353 (by decide) ?_
  exact w_X7_next_357 C hx hw hl h
set_option maxHeartbeats 4000000 in
set_option maxRecDepth 100000 in
theorem w_X7_next_310 {g : GM} {gz : GM} (kb259 : GM → Option (GM)) (hk259 : ∀ (g : GM) (H : Heap) (locs : List Loc) (ls : Array Slot), WS D cA ev hr ad A KM s H locs g → lv_has ls 3 [(0, .ref (ad 0))] → kb259 g = some gz → W p l e (RM 2 0 0) s m args below meth c H locs 0 0 (MQ below (QV D cA ev hr ad A KM gz) args s 0 0 A) (F0 m 259 ls [])) (C : CX p s m args meth c RX7 yX7_next cX7_next 3 none D cA) (hx : HM hr ad) {H : Heap} {locs : List Loc} (hw : WS D cA ev hr ad A KM s H locs g) {ls : Array Slot} (hl : lv_has ls 3 [(0, .ref (ad 0))]) (h : F_X7_next_310 kb259 g = some gz) : W p l e (RM 2 0 0) s m args below meth c H locs 0 0 (MQ below (QV D cA ev hr ad A KM gz) args s 0 0 A) (F0 m 310 ls []) := by
  refine lv_aload_n C.1.1 C.1.2.1 dX7_next_310 rfl (lv_at hl 0 rfl) ?_
  refine lv_dup C.1.1 C.1.2.1 dX7_next_311 rfl ?_
  refine r_getI C hw km0 fX7_43 rfl dX7_next_312 ?_
  refine lv_iconst (v := 1) C.1.1 C.1.2.1 dX7_next_315 (by decide) ?_
  refine lv_iadd C.1.1 C.1.2.1 dX7_next_316 ?_
  refine r_putI C hw km0 fX7_43 rfl rfl (Or.inl rfl) dX7_next_317 (fun H locs hw => ?_)
  refine lt_gen (P := fun g => WS D cA ev hr ad A KM s H locs g) h hw (fun g_3 h hw => ?_)
  refine lv_goto (tgt := 259) C.1.1 C.1.2.1 dX7_next_320 (by decide) ?_
  exact hk259 _ _ _ _ hw hl h
set_option maxHeartbeats 4000000 in
set_option maxRecDepth 100000 in
theorem w_X7_next_259 {gz : GM} (kb259 : GM → Option (GM)) (hk259 : ∀ (g : GM) (H : Heap) (locs : List Loc) (ls : Array Slot), WS D cA ev hr ad A KM s H locs g → lv_has ls 3 [(0, .ref (ad 0))] → kb259 g = some gz → W p l e (RM 2 0 0) s m args below meth c H locs 0 0 (MQ below (QV D cA ev hr ad A KM gz) args s 0 0 A) (F0 m 259 ls [])) (C : CX p s m args meth c RX7 yX7_next cX7_next 3 none D cA) (hx : HM hr ad) {H : Heap} {locs : List Loc} {g : GM} (hw : WS D cA ev hr ad A KM s H locs g) {ls : Array Slot} (hl : lv_has ls 3 [(0, .ref (ad 0))]) (h : F_X7_next_259B kb259 g = some gz) : W p l e (RM 2 0 0) s m args below meth c H locs 0 0 (MQ below (QV D cA ev hr ad A KM gz) args s 0 0 A) (F0 m 259 ls []) := by
  refine lv_aload_n C.1.1 C.1.2.1 dX7_next_259 rfl (lv_at hl 0 rfl) ?_
  refine lv_aload_n C.1.1 C.1.2.1 dX7_next_260 rfl (lv_at hl 0 rfl) ?_
  refine r_getI C hw km0 fX7_43 rfl dX7_next_261 ?_
  obtain ⟨r_4, hc, h⟩ := bnd_some h
  refine r_vI (dc := 1) (As := [.int (gi g 0 7)]) (rest := []) C hw vX7_49 km0 (by decide) rfl (fun sz => c_X7_sign hx hc sz) (by decide) rfl rfl hl.1 (Nat.le_of_ble_eq_true rfl) dX7_next_264 ⟨Nat.le_refl _, Nat.le_refl _⟩ (fun H locs hw => ?_)
  obtain ⟨r_5, hc, h⟩ := bnd_some h
  refine r_sI (dc := 1) (As := [.int r_4]) (rest := []) C hw sX7_68 (fun sz => c_X7_isDigit hx hc sz) (by decide) rfl rfl hl.1 (Nat.le_of_ble_eq_true rfl) dX7_next_267 ⟨Nat.le_refl _, Nat.le_refl _⟩ (fun H locs hw => ?_)
  refine lv_if_eq (tgt := 323) C.1.1 C.1.2.1 dX7_next_270 (by decide) (fun hc => ?_) (fun hc => ?_)
  · replace h := ite_pos' h hc
    refine lv_aload_n C.1.1 C.1.2.1 dX7_next_323 rfl (lv_at hl 0 rfl) ?_
    refine lv_aload_n C.1.1 C.1.2.1 dX7_next_324 rfl (lv_at hl 0 rfl) ?_
    refine r_getI C hw km0 fX7_43 rfl dX7_next_325 ?_
    refine lv_aload_n C.1.1 C.1.2.1 dX7_next_328 rfl (lv_at hl 0 rfl) ?_
    refine r_getI C hw km0 fX7_46 rfl dX7_next_329 ?_
    refine lv_isub C.1.1 C.1.2.1 dX7_next_332 ?_
    refine lv_bipush (v := 6) C.1.1 C.1.2.1 dX7_next_333 (by decide) ?_
    refine lv_icmp_gt (tgt := 352) C.1.1 C.1.2.1 dX7_next_335 (by decide) (fun hc => ?_) (fun hc => ?_)
    · replace h := ite_pos' h hc
      exact w_X7_next_352 C hx hw (lv_sub hl [] rfl) h
    · replace h := ite_neg' h hc
      refine lv_aload_n C.1.1 C.1.2.1 dX7_next_338 rfl (lv_at hl 0 rfl) ?_
      refine lv_aload_n C.1.1 C.1.2.1 dX7_next_339 rfl (lv_at hl 0 rfl) ?_
      refine r_getI C hw km0 fX7_43 rfl dX7_next_340 ?_
      obtain ⟨r_6, hc, h⟩ := bnd_some h
      refine r_vI (dc := 1) (As := [.int (gi g 0 7)]) (rest := [.ref (ad 0)]) C hw vX7_49 km0 (by decide) rfl (fun sz => c_X7_sign hx hc sz) (by decide) rfl rfl hl.1 (Nat.le_of_ble_eq_true rfl) dX7_next_343 ⟨Nat.le_refl _, Nat.le_refl _⟩ (fun H locs hw => ?_)
      obtain ⟨r_7, hc, h⟩ := bnd_some h
      refine r_sI (dc := 1) (As := [.int r_6]) (rest := [.ref (ad 0)]) C hw sX7_56 (fun sz => c_X7_isLetter hx hc sz) (by decide) rfl rfl hl.1 (Nat.le_of_ble_eq_true rfl) dX7_next_346 ⟨Nat.le_refl _, Nat.le_refl _⟩ (fun H locs hw => ?_)
      refine lv_if_eq (tgt := 356) C.1.1 C.1.2.1 dX7_next_349 (by decide) (fun hc => ?_) (fun hc => ?_)
      · replace h := ite_pos' h hc
        refine lv_iconst (v := 4) C.1.1 C.1.2.1 dX7_next_356 (by decide) ?_
        exact w_X7_next_357 C hx hw (lv_sub hl [] rfl) h
      · replace h := ite_neg' h hc
        exact w_X7_next_352 C hx hw (lv_sub hl [] rfl) h
  · replace h := ite_neg' h hc
    refine lv_aload_n C.1.1 C.1.2.1 dX7_next_273 rfl (lv_at hl 0 rfl) ?_
    refine r_getI C hw km0 fX7_43 rfl dX7_next_274 ?_
    refine lv_aload_n C.1.1 C.1.2.1 dX7_next_277 rfl (lv_at hl 0 rfl) ?_
    refine r_getI C hw km0 fX7_46 rfl dX7_next_278 ?_
    refine lv_isub C.1.1 C.1.2.1 dX7_next_281 ?_
    refine lv_bipush (v := 6) C.1.1 C.1.2.1 dX7_next_282 (by decide) ?_
    refine lv_icmp_ge (tgt := 310) C.1.1 C.1.2.1 dX7_next_284 (by decide) (fun hc => ?_) (fun hc => ?_)
    · replace h := ite_pos' h hc
      exact w_X7_next_310 kb259 hk259 C hx hw hl h
    · replace h := ite_neg' h hc
      refine lv_aload_n C.1.1 C.1.2.1 dX7_next_287 rfl (lv_at hl 0 rfl) ?_
      refine lv_bipush (v := 10) C.1.1 C.1.2.1 dX7_next_288 (by decide) ?_
      refine lv_aload_n C.1.1 C.1.2.1 dX7_next_290 rfl (lv_at hl 0 rfl) ?_
      refine r_getI C hw km0 fX7_71 rfl dX7_next_291 ?_
      refine lv_imul C.1.1 C.1.2.1 dX7_next_294 ?_
      refine lv_aload_n C.1.1 C.1.2.1 dX7_next_295 rfl (lv_at hl 0 rfl) ?_
      refine lv_aload_n C.1.1 C.1.2.1 dX7_next_296 rfl (lv_at hl 0 rfl) ?_
      refine r_getI C hw km0 fX7_43 rfl dX7_next_297 ?_
      obtain ⟨r_8, hc, h⟩ := bnd_some h
      refine r_vI (dc := 1) (As := [.int (gi g 0 7)]) (rest := [.int (10 * (gi g 0 9)), .ref (ad 0)]) C hw vX7_49 km0 (by decide) rfl (fun sz => c_X7_sign hx hc sz) (by decide) rfl rfl hl.1 (Nat.le_of_ble_eq_true rfl) dX7_next_300 ⟨Nat.le_refl _, Nat.le_refl _⟩ (fun H locs hw => ?_)
      refine lv_iadd C.1.1 C.1.2.1 dX7_next_303 ?_
      refine lv_bipush (v := 48) C.1.1 C.1.2.1 dX7_next_304 (by decide) ?_
      refine lv_isub C.1.1 C.1.2.1 dX7_next_306 ?_
      refine r_putI C hw km0 fX7_71 rfl rfl (Or.inl rfl) dX7_next_307 (fun H locs hw => ?_)
      refine lt_gen (P := fun g => WS D cA ev hr ad A KM s H locs g) h hw (fun g_9 h hw => ?_)
      exact w_X7_next_310 kb259 hk259 C hx hw hl h
set_option maxHeartbeats 4000000 in
set_option maxRecDepth 100000 in
theorem w_X7_next_259L {gz : GM} (C : CX p s m args meth c RX7 yX7_next cX7_next 3 none D cA) (hx : HM hr ad) : ∀ (n : Nat) (g : GM) (H : Heap) (locs : List Loc) (ls : Array Slot), WS D cA ev hr ad A KM s H locs g → lv_has ls 3 [(0, .ref (ad 0))] → fixN (F_X7_next_259B) n g = some gz → W p l e (RM 2 0 0) s m args below meth c H locs 0 0 (MQ below (QV D cA ev hr ad A KM gz) args s 0 0 A) (F0 m 259 ls []) := by
  intro n
  induction n with
  | zero => intro g H locs ls hw hl h; exact (fix_zero h).elim
  | succ n ih => intro g H locs ls hw hl h; exact w_X7_next_259 (fixN (F_X7_next_259B) n) ih C hx hw hl h
set_option maxHeartbeats 4000000 in
set_option maxRecDepth 100000 in
theorem w_X7_next_233 {s0 : Int32} {g : GM} {gz : GM} (C : CX p s m args meth c RX7 yX7_next cX7_next 3 none D cA) (hx : HM hr ad) {H : Heap} {locs : List Loc} (hw : WS D cA ev hr ad A KM s H locs g) {ls : Array Slot} (hl : lv_has ls 3 []) (h : F_X7_next_233 s0 g = some gz) : W p l e (RM 2 0 0) s m args below meth c H locs 0 0 (MQ below (QV D cA ev hr ad A KM gz) args s 0 0 A) (F0 m 233 ls [.int s0, .ref (ad 0)]) := by
  refine r_putI C hw km0 fX7_53 rfl rfl (Or.inl rfl) dX7_next_233 (fun H locs hw => ?_)
  refine lt_gen (P := fun g => WS D cA ev hr ad A KM s H locs g) h hw (fun g_10 h hw => ?_)
  refine lv_goto (tgt := 380) C.1.1 C.1.2.1 dX7_next_236 (by decide) ?_
  cases h
  exact r_vret C hw rfl dX7_next_380
set_option maxHeartbeats 4000000 in
set_option maxRecDepth 100000 in
theorem w_X7_next_199 {g : GM} {gz : GM} (C : CX p s m args meth c RX7 yX7_next cX7_next 3 none D cA) (hx : HM hr ad) {H : Heap} {locs : List Loc} (hw : WS D cA ev hr ad A KM s H locs g) {ls : Array Slot} (hl : lv_has ls 3 [(0, .ref (ad 0))]) (h : F_X7_next_199 g = some gz) : W p l e (RM 2 0 0) s m args below meth c H locs 0 0 (MQ below (QV D cA ev hr ad A KM gz) args s 0 0 A) (F0 m 199 ls []) := by
  refine lv_aload_n C.1.1 C.1.2.1 dX7_next_199 rfl (lv_at hl 0 rfl) ?_
  refine lv_aload_n C.1.1 C.1.2.1 dX7_next_200 rfl (lv_at hl 0 rfl) ?_
  refine r_getI C hw km0 fX7_43 rfl dX7_next_201 ?_
  refine lv_aload_n C.1.1 C.1.2.1 dX7_next_204 rfl (lv_at hl 0 rfl) ?_
  refine r_getI C hw km0 fX7_46 rfl dX7_next_205 ?_
  refine lv_isub C.1.1 C.1.2.1 dX7_next_208 ?_
  refine lv_bipush (v := 8) C.1.1 C.1.2.1 dX7_next_209 (by decide) ?_
  refine lv_icmp_le (tgt := 218) C.1.1 C.1.2.1 dX7_next_211 (by decide) (fun hc => ?_) (fun hc => ?_)
  · replace h := ite_pos' h hc
    refine lv_aload_n C.1.1 C.1.2.1 dX7_next_218 rfl (lv_at hl 0 rfl) ?_
    refine r_getL C hw km0 fX7_60 rfl dX7_next_219 ?_
    obtain ⟨r_11, hc, h⟩ := bnd_some h
    refine r_sI (dc := 1) (As := [.long (gl g 0 10)]) (rest := [.ref (ad 0)]) C hw sX7_64 (fun sz => c_X7_isKept hx hc sz) (by decide) rfl rfl hl.1 (Nat.le_of_ble_eq_true rfl) dX7_next_222 ⟨Nat.le_refl _, Nat.le_refl _⟩ (fun H locs hw => ?_)
    refine lv_if_eq (tgt := 232) C.1.1 C.1.2.1 dX7_next_225 (by decide) (fun hc => ?_) (fun hc => ?_)
    · replace h := ite_pos' h hc
      refine lv_iconst (v := 2) C.1.1 C.1.2.1 dX7_next_232 (by decide) ?_
      exact w_X7_next_233 C hx hw (lv_sub hl [] rfl) h
    · replace h := ite_neg' h hc
      refine lv_iconst (v := 3) C.1.1 C.1.2.1 dX7_next_228 (by decide) ?_
      refine lv_goto (tgt := 233) C.1.1 C.1.2.1 dX7_next_229 (by decide) ?_
      exact w_X7_next_233 C hx hw (lv_sub hl [] rfl) h
  · replace h := ite_neg' h hc
    refine lv_iconst (v := 1) C.1.1 C.1.2.1 dX7_next_214 (by decide) ?_
    refine lv_goto (tgt := 233) C.1.1 C.1.2.1 dX7_next_215 (by decide) ?_
    exact w_X7_next_233 C hx hw (lv_sub hl [] rfl) h
set_option maxHeartbeats 4000000 in
set_option maxRecDepth 100000 in
theorem w_X7_next_156 {gz : GM} (kb156 : Int32 × GM → Option (GM)) (hk156 : ∀ (x2 : Int32) (g : GM) (H : Heap) (locs : List Loc) (ls : Array Slot), WS D cA ev hr ad A KM s H locs g → lv_has ls 3 [(0, .ref (ad 0)), (2, .int x2)] → kb156 (x2, g) = some gz → W p l e (RM 2 0 0) s m args below meth c H locs 0 0 (MQ below (QV D cA ev hr ad A KM gz) args s 0 0 A) (F0 m 156 ls [])) (C : CX p s m args meth c RX7 yX7_next cX7_next 3 none D cA) (hx : HM hr ad) {H : Heap} {locs : List Loc} {x2 : Int32} {g : GM} (hw : WS D cA ev hr ad A KM s H locs g) {ls : Array Slot} (hl : lv_has ls 3 [(0, .ref (ad 0)), (2, .int x2)]) (h : F_X7_next_156B kb156 (x2, g) = some gz) : W p l e (RM 2 0 0) s m args below meth c H locs 0 0 (MQ below (QV D cA ev hr ad A KM gz) args s 0 0 A) (F0 m 156 ls []) := by
  refine lv_iload_n C.1.1 C.1.2.1 dX7_next_156 rfl (lv_at hl 1 rfl) ?_
  refine lv_aload_n C.1.1 C.1.2.1 dX7_next_157 rfl (lv_at hl 0 rfl) ?_
  refine r_getI C hw km0 fX7_43 rfl dX7_next_158 ?_
  refine lv_icmp_ge (tgt := 199) C.1.1 C.1.2.1 dX7_next_161 (by decide) (fun hc => ?_) (fun hc => ?_)
  · replace h := ite_pos' h hc
    exact w_X7_next_199 C hx hw (lv_sub hl [0] rfl) h
  · replace h := ite_neg' h hc
    refine lv_iload_n C.1.1 C.1.2.1 dX7_next_164 rfl (lv_at hl 1 rfl) ?_
    refine lv_aload_n C.1.1 C.1.2.1 dX7_next_165 rfl (lv_at hl 0 rfl) ?_
    refine r_getI C hw km0 fX7_46 rfl dX7_next_166 ?_
    refine lv_bipush (v := 8) C.1.1 C.1.2.1 dX7_next_169 (by decide) ?_
    refine lv_iadd C.1.1 C.1.2.1 dX7_next_171 ?_
    refine lv_icmp_ge (tgt := 199) C.1.1 C.1.2.1 dX7_next_172 (by decide) (fun hc => ?_) (fun hc => ?_)
    · replace h := ite_pos' h hc
      exact w_X7_next_199 C hx hw (lv_sub hl [0] rfl) h
    · replace h := ite_neg' h hc
      refine lv_aload_n C.1.1 C.1.2.1 dX7_next_175 rfl (lv_at hl 0 rfl) ?_
      refine lv_aload_n C.1.1 C.1.2.1 dX7_next_176 rfl (lv_at hl 0 rfl) ?_
      refine r_getL C hw km0 fX7_60 rfl dX7_next_177 ?_
      refine lv_bipush (v := 8) C.1.1 C.1.2.1 dX7_next_180 (by decide) ?_
      refine lv_lshl (v := (gl g 0 10) <<< ((8 : Int32).toInt64 &&& 63)) C.1.1 C.1.2.1 dX7_next_182 rfl ?_
      refine lv_aload_n C.1.1 C.1.2.1 dX7_next_183 rfl (lv_at hl 0 rfl) ?_
      refine lv_iload_n C.1.1 C.1.2.1 dX7_next_184 rfl (lv_at hl 1 rfl) ?_
      obtain ⟨r_12, hc, h⟩ := bnd_some h
      refine r_vI (dc := 1) (As := [.int x2]) (rest := [.long ((gl g 0 10) <<< ((8 : Int32).toInt64 &&& 63)), .ref (ad 0)]) C hw vX7_49 km0 (by decide) rfl (fun sz => c_X7_sign hx hc sz) (by decide) rfl rfl hl.1 (Nat.le_of_ble_eq_true rfl) dX7_next_185 ⟨Nat.le_refl _, Nat.le_refl _⟩ (fun H locs hw => ?_)
      refine lv_i2l (v := r_12.toInt64) C.1.1 C.1.2.1 dX7_next_188 rfl ?_
      refine lv_lor C.1.1 C.1.2.1 dX7_next_189 ?_
      refine r_putL C hw km0 fX7_60 rfl rfl (Or.inl rfl) dX7_next_190 (fun H locs hw => ?_)
      refine lt_gen (P := fun g => WS D cA ev hr ad A KM s H locs g) h hw (fun g_13 h hw => ?_)
      refine lv_iinc (v := x2 + 1) (lv' := [(2, .int (x2 + 1)), (0, .ref (ad 0))]) C.1.1 C.1.2.1 dX7_next_193 hl (k := 1) rfl rfl (by decide) rfl (fun ls hl => ?_)
      refine lt_gen (P := fun x => lv_has ls 3 [(2, .int x), (0, .ref (ad 0))]) h hl (fun x2_14 h hl => ?_)
      refine lv_goto (tgt := 156) C.1.1 C.1.2.1 dX7_next_196 (by decide) ?_
      exact hk156 _ _ _ _ _ hw (lv_sub hl [1, 0] rfl) h
set_option maxHeartbeats 4000000 in
set_option maxRecDepth 100000 in
theorem w_X7_next_156L {gz : GM} (C : CX p s m args meth c RX7 yX7_next cX7_next 3 none D cA) (hx : HM hr ad) : ∀ (n : Nat) (x2 : Int32) (g : GM) (H : Heap) (locs : List Loc) (ls : Array Slot), WS D cA ev hr ad A KM s H locs g → lv_has ls 3 [(0, .ref (ad 0)), (2, .int x2)] → fixN (F_X7_next_156B) n (x2, g) = some gz → W p l e (RM 2 0 0) s m args below meth c H locs 0 0 (MQ below (QV D cA ev hr ad A KM gz) args s 0 0 A) (F0 m 156 ls []) := by
  intro n
  induction n with
  | zero => intro x2 g H locs ls hw hl h; exact (fix_zero h).elim
  | succ n ih => intro x2 g H locs ls hw hl h; exact w_X7_next_156 (fixN (F_X7_next_156B) n) ih C hx hw hl h
set_option maxHeartbeats 4000000 in
set_option maxRecDepth 100000 in
theorem w_X7_next_119 {gz : GM} (kb119 : GM → Option (GM)) (hk119 : ∀ (g : GM) (H : Heap) (locs : List Loc) (ls : Array Slot), WS D cA ev hr ad A KM s H locs g → lv_has ls 3 [(0, .ref (ad 0))] → kb119 g = some gz → W p l e (RM 2 0 0) s m args below meth c H locs 0 0 (MQ below (QV D cA ev hr ad A KM gz) args s 0 0 A) (F0 m 119 ls [])) (C : CX p s m args meth c RX7 yX7_next cX7_next 3 none D cA) (hx : HM hr ad) {H : Heap} {locs : List Loc} {g : GM} (hw : WS D cA ev hr ad A KM s H locs g) {ls : Array Slot} (hl : lv_has ls 3 [(0, .ref (ad 0))]) (h : F_X7_next_119B kb119 g = some gz) : W p l e (RM 2 0 0) s m args below meth c H locs 0 0 (MQ below (QV D cA ev hr ad A KM gz) args s 0 0 A) (F0 m 119 ls []) := by
  refine lv_aload_n C.1.1 C.1.2.1 dX7_next_119 rfl (lv_at hl 0 rfl) ?_
  refine lv_aload_n C.1.1 C.1.2.1 dX7_next_120 rfl (lv_at hl 0 rfl) ?_
  refine r_getI C hw km0 fX7_43 rfl dX7_next_121 ?_
  obtain ⟨r_15, hc, h⟩ := bnd_some h
  refine r_vI (dc := 1) (As := [.int (gi g 0 7)]) (rest := []) C hw vX7_49 km0 (by decide) rfl (fun sz => c_X7_sign hx hc sz) (by decide) rfl rfl hl.1 (Nat.le_of_ble_eq_true rfl) dX7_next_124 ⟨Nat.le_refl _, Nat.le_refl _⟩ (fun H locs hw => ?_)
  obtain ⟨r_16, hc, h⟩ := bnd_some h
  refine r_sI (dc := 1) (As := [.int r_15]) (rest := []) C hw sX7_56 (fun sz => c_X7_isLetter hx hc sz) (by decide) rfl rfl hl.1 (Nat.le_of_ble_eq_true rfl) dX7_next_127 ⟨Nat.le_refl _, Nat.le_refl _⟩ (fun H locs hw => ?_)
  refine lv_if_eq (tgt := 146) C.1.1 C.1.2.1 dX7_next_130 (by decide) (fun hc => ?_) (fun hc => ?_)
  · replace h := ite_pos' h hc
    refine lv_aload_n C.1.1 C.1.2.1 dX7_next_146 rfl (lv_at hl 0 rfl) ?_
    refine lv_lconst (v := 0) C.1.1 C.1.2.1 dX7_next_147 (by decide) ?_
    refine r_putL C hw km0 fX7_60 rfl rfl (Or.inl rfl) dX7_next_148 (fun H locs hw => ?_)
    refine lt_gen (P := fun g => WS D cA ev hr ad A KM s H locs g) h hw (fun g_17 h hw => ?_)
    refine lv_aload_n C.1.1 C.1.2.1 dX7_next_151 rfl (lv_at hl 0 rfl) ?_
    refine r_getI C hw km0 fX7_46 rfl dX7_next_152 ?_
    refine lv_istore_n (lv' := [(2, .int (gi g_17 0 6)), (0, .ref (ad 0))]) C.1.1 C.1.2.1 dX7_next_155 rfl hl (by decide) rfl (fun ls hl => ?_)
    refine lt_gen (P := fun x => lv_has ls 3 [(2, .int x), (0, .ref (ad 0))]) h hl (fun x2_18 h hl => ?_)
    exact w_X7_next_156L C hx FU _ _ _ _ _ hw (lv_sub hl [1, 0] rfl) h
  · replace h := ite_neg' h hc
    refine lv_aload_n C.1.1 C.1.2.1 dX7_next_133 rfl (lv_at hl 0 rfl) ?_
    refine lv_dup C.1.1 C.1.2.1 dX7_next_134 rfl ?_
    refine r_getI C hw km0 fX7_43 rfl dX7_next_135 ?_
    refine lv_iconst (v := 1) C.1.1 C.1.2.1 dX7_next_138 (by decide) ?_
    refine lv_iadd C.1.1 C.1.2.1 dX7_next_139 ?_
    refine r_putI C hw km0 fX7_43 rfl rfl (Or.inl rfl) dX7_next_140 (fun H locs hw => ?_)
    refine lt_gen (P := fun g => WS D cA ev hr ad A KM s H locs g) h hw (fun g_19 h hw => ?_)
    refine lv_goto (tgt := 119) C.1.1 C.1.2.1 dX7_next_143 (by decide) ?_
    exact hk119 _ _ _ _ hw hl h
set_option maxHeartbeats 4000000 in
set_option maxRecDepth 100000 in
theorem w_X7_next_119L {gz : GM} (C : CX p s m args meth c RX7 yX7_next cX7_next 3 none D cA) (hx : HM hr ad) : ∀ (n : Nat) (g : GM) (H : Heap) (locs : List Loc) (ls : Array Slot), WS D cA ev hr ad A KM s H locs g → lv_has ls 3 [(0, .ref (ad 0))] → fixN (F_X7_next_119B) n g = some gz → W p l e (RM 2 0 0) s m args below meth c H locs 0 0 (MQ below (QV D cA ev hr ad A KM gz) args s 0 0 A) (F0 m 119 ls []) := by
  intro n
  induction n with
  | zero => intro g H locs ls hw hl h; exact (fix_zero h).elim
  | succ n ih => intro g H locs ls hw hl h; exact w_X7_next_119 (fixN (F_X7_next_119B) n) ih C hx hw hl h
set_option maxHeartbeats 4000000 in
set_option maxRecDepth 100000 in
theorem w_X7_next_58 {g : GM} {gz : GM} (C : CX p s m args meth c RX7 yX7_next cX7_next 3 none D cA) (hx : HM hr ad) {H : Heap} {locs : List Loc} (hw : WS D cA ev hr ad A KM s H locs g) {ls : Array Slot} (hl : lv_has ls 3 [(0, .ref (ad 0))]) (h : F_X7_next_58 g = some gz) : W p l e (RM 2 0 0) s m args below meth c H locs 0 0 (MQ below (QV D cA ev hr ad A KM gz) args s 0 0 A) (F0 m 58 ls []) := by
  refine lv_aload_n C.1.1 C.1.2.1 dX7_next_58 rfl (lv_at hl 0 rfl) ?_
  refine lv_aload_n C.1.1 C.1.2.1 dX7_next_59 rfl (lv_at hl 0 rfl) ?_
  refine r_getI C hw km0 fX7_46 rfl dX7_next_60 ?_
  obtain ⟨r_20, hc, h⟩ := bnd_some h
  refine r_vI (dc := 1) (As := [.int (gi g 0 6)]) (rest := []) C hw vX7_49 km0 (by decide) rfl (fun sz => c_X7_sign hx hc sz) (by decide) rfl rfl hl.1 (Nat.le_of_ble_eq_true rfl) dX7_next_63 ⟨Nat.le_refl _, Nat.le_refl _⟩ (fun H locs hw => ?_)
  refine lv_istore_n (lv' := [(1, .int r_20), (0, .ref (ad 0))]) C.1.1 C.1.2.1 dX7_next_66 rfl hl (by decide) rfl (fun ls hl => ?_)
  refine lt_gen (P := fun x => lv_has ls 3 [(1, .int x), (0, .ref (ad 0))]) h hl (fun x1_21 h hl => ?_)
  refine lv_aload_n C.1.1 C.1.2.1 dX7_next_67 rfl (lv_at hl 1 rfl) ?_
  refine lv_aload_n C.1.1 C.1.2.1 dX7_next_68 rfl (lv_at hl 1 rfl) ?_
  refine r_getI C hw km0 fX7_46 rfl dX7_next_69 ?_
  refine lv_iconst (v := 1) C.1.1 C.1.2.1 dX7_next_72 (by decide) ?_
  refine lv_iadd C.1.1 C.1.2.1 dX7_next_73 ?_
  refine r_putI C hw km0 fX7_43 rfl rfl (Or.inl rfl) dX7_next_74 (fun H locs hw => ?_)
  refine lt_gen (P := fun g => WS D cA ev hr ad A KM s H locs g) h hw (fun g_22 h hw => ?_)
  refine lv_aload_n C.1.1 C.1.2.1 dX7_next_77 rfl (lv_at hl 1 rfl) ?_
  refine r_getI C hw km0 fX7_46 rfl dX7_next_78 ?_
  refine lv_aload_n C.1.1 C.1.2.1 dX7_next_81 rfl (lv_at hl 1 rfl) ?_
  refine r_getI C hw km0 fX7_1 rfl dX7_next_82 ?_
  refine lv_icmp_lt (tgt := 112) C.1.1 C.1.2.1 dX7_next_85 (by decide) (fun hc => ?_) (fun hc => ?_)
  · replace h := ite_pos' h hc
    refine lv_iload_n C.1.1 C.1.2.1 dX7_next_112 rfl (lv_at hl 0 rfl) ?_
    obtain ⟨r_23, hc, h⟩ := bnd_some h
    refine r_sI (dc := 1) (As := [.int x1_21]) (rest := []) C hw sX7_56 (fun sz => c_X7_isLetter hx hc sz) (by decide) rfl rfl hl.1 (Nat.le_of_ble_eq_true rfl) dX7_next_113 ⟨Nat.le_refl _, Nat.le_refl _⟩ (fun H locs hw => ?_)
    refine lv_if_eq (tgt := 239) C.1.1 C.1.2.1 dX7_next_116 (by decide) (fun hc => ?_) (fun hc => ?_)
    · replace h := ite_pos' h hc
      refine lv_iload_n C.1.1 C.1.2.1 dX7_next_239 rfl (lv_at hl 0 rfl) ?_
      obtain ⟨r_24, hc, h⟩ := bnd_some h
      refine r_sI (dc := 1) (As := [.int x1_21]) (rest := []) C hw sX7_68 (fun sz => c_X7_isDigit hx hc sz) (by decide) rfl rfl hl.1 (Nat.le_of_ble_eq_true rfl) dX7_next_240 ⟨Nat.le_refl _, Nat.le_refl _⟩ (fun H locs hw => ?_)
      refine lv_if_eq (tgt := 363) C.1.1 C.1.2.1 dX7_next_243 (by decide) (fun hc => ?_) (fun hc => ?_)
      · replace h := ite_pos' h hc
        refine lv_aload_n C.1.1 C.1.2.1 dX7_next_363 rfl (lv_at hl 1 rfl) ?_
        refine lv_aload_n C.1.1 C.1.2.1 dX7_next_364 rfl (lv_at hl 1 rfl) ?_
        refine lv_iload_n C.1.1 C.1.2.1 dX7_next_365 rfl (lv_at hl 0 rfl) ?_
        obtain ⟨r_25, hc, h⟩ := bnd_some h
        refine r_vI (dc := 1) (As := [.int x1_21]) (rest := [.ref (ad 0)]) C hw vX7_74 km0 (by decide) rfl (fun sz => c_X7_isSign hx hc sz) (by decide) rfl rfl hl.1 (Nat.le_of_ble_eq_true rfl) dX7_next_366 ⟨Nat.le_refl _, Nat.le_refl _⟩ (fun H locs hw => ?_)
        refine lv_if_eq (tgt := 376) C.1.1 C.1.2.1 dX7_next_369 (by decide) (fun hc => ?_) (fun hc => ?_)
        · replace h := ite_pos' h hc
          refine lv_iconst (v := 1) C.1.1 C.1.2.1 dX7_next_376 (by decide) ?_
          exact w_X7_next_377 C hx hw (lv_sub hl [] rfl) h
        · replace h := ite_neg' h hc
          refine lv_iconst (v := 5) C.1.1 C.1.2.1 dX7_next_372 (by decide) ?_
          refine lv_goto (tgt := 377) C.1.1 C.1.2.1 dX7_next_373 (by decide) ?_
          exact w_X7_next_377 C hx hw (lv_sub hl [] rfl) h
      · replace h := ite_neg' h hc
        refine lv_aload_n C.1.1 C.1.2.1 dX7_next_246 rfl (lv_at hl 1 rfl) ?_
        refine lv_iconst (v := 0) C.1.1 C.1.2.1 dX7_next_247 (by decide) ?_
        refine r_putI C hw km0 fX7_71 rfl rfl (Or.inl rfl) dX7_next_248 (fun H locs hw => ?_)
        refine lt_gen (P := fun g => WS D cA ev hr ad A KM s H locs g) h hw (fun g_26 h hw => ?_)
        refine lv_aload_n C.1.1 C.1.2.1 dX7_next_251 rfl (lv_at hl 1 rfl) ?_
        refine lv_aload_n C.1.1 C.1.2.1 dX7_next_252 rfl (lv_at hl 1 rfl) ?_
        refine r_getI C hw km0 fX7_46 rfl dX7_next_253 ?_
        refine r_putI C hw km0 fX7_43 rfl rfl (Or.inl rfl) dX7_next_256 (fun H locs hw => ?_)
        refine lt_gen (P := fun g => WS D cA ev hr ad A KM s H locs g) h hw (fun g_27 h hw => ?_)
        exact w_X7_next_259L C hx FU _ _ _ _ hw (lv_sub hl [1] rfl) h
    · replace h := ite_neg' h hc
      exact w_X7_next_119L C hx FU _ _ _ _ hw (lv_sub hl [1] rfl) h
  · replace h := ite_neg' h hc
    refine lv_aload_n C.1.1 C.1.2.1 dX7_next_88 rfl (lv_at hl 1 rfl) ?_
    refine lv_iconst (v := 0) C.1.1 C.1.2.1 dX7_next_89 (by decide) ?_
    refine r_putI C hw km0 fX7_53 rfl rfl (Or.inl rfl) dX7_next_90 (fun H locs hw => ?_)
    refine lt_gen (P := fun g => WS D cA ev hr ad A KM s H locs g) h hw (fun g_28 h hw => ?_)
    refine lv_aload_n C.1.1 C.1.2.1 dX7_next_93 rfl (lv_at hl 1 rfl) ?_
    refine lv_aload_n C.1.1 C.1.2.1 dX7_next_94 rfl (lv_at hl 1 rfl) ?_
    refine r_getI C hw km0 fX7_1 rfl dX7_next_95 ?_
    refine r_putI C hw km0 fX7_46 rfl rfl (Or.inl rfl) dX7_next_98 (fun H locs hw => ?_)
    refine lt_gen (P := fun g => WS D cA ev hr ad A KM s H locs g) h hw (fun g_29 h hw => ?_)
    refine lv_aload_n C.1.1 C.1.2.1 dX7_next_101 rfl (lv_at hl 1 rfl) ?_
    refine lv_aload_n C.1.1 C.1.2.1 dX7_next_102 rfl (lv_at hl 1 rfl) ?_
    refine r_getI C hw km0 fX7_1 rfl dX7_next_103 ?_
    refine r_putI C hw km0 fX7_43 rfl rfl (Or.inl rfl) dX7_next_106 (fun H locs hw => ?_)
    refine lt_gen (P := fun g => WS D cA ev hr ad A KM s H locs g) h hw (fun g_30 h hw => ?_)
    refine lv_goto (tgt := 380) C.1.1 C.1.2.1 dX7_next_109 (by decide) ?_
    cases h
    exact r_vret C hw rfl dX7_next_380
set_option maxHeartbeats 4000000 in
set_option maxRecDepth 100000 in
theorem w_X7_next_45 {g : GM} {gz : GM} (kb8 : GM → Option (GM)) (hk8 : ∀ (g : GM) (H : Heap) (locs : List Loc) (ls : Array Slot), WS D cA ev hr ad A KM s H locs g → lv_has ls 3 [(0, .ref (ad 0))] → kb8 g = some gz → W p l e (RM 2 0 0) s m args below meth c H locs 0 0 (MQ below (QV D cA ev hr ad A KM gz) args s 0 0 A) (F0 m 8 ls [])) (C : CX p s m args meth c RX7 yX7_next cX7_next 3 none D cA) (hx : HM hr ad) {H : Heap} {locs : List Loc} (hw : WS D cA ev hr ad A KM s H locs g) {ls : Array Slot} (hl : lv_has ls 3 [(0, .ref (ad 0))]) (h : F_X7_next_45 kb8 g = some gz) : W p l e (RM 2 0 0) s m args below meth c H locs 0 0 (MQ below (QV D cA ev hr ad A KM gz) args s 0 0 A) (F0 m 45 ls []) := by
  refine lv_aload_n C.1.1 C.1.2.1 dX7_next_45 rfl (lv_at hl 0 rfl) ?_
  refine lv_dup C.1.1 C.1.2.1 dX7_next_46 rfl ?_
  refine r_getI C hw km0 fX7_46 rfl dX7_next_47 ?_
  refine lv_iconst (v := 1) C.1.1 C.1.2.1 dX7_next_50 (by decide) ?_
  refine lv_iadd C.1.1 C.1.2.1 dX7_next_51 ?_
  refine r_putI C hw km0 fX7_46 rfl rfl (Or.inl rfl) dX7_next_52 (fun H locs hw => ?_)
  refine lt_gen (P := fun g => WS D cA ev hr ad A KM s H locs g) h hw (fun g_31 h hw => ?_)
  refine lv_goto (tgt := 8) C.1.1 C.1.2.1 dX7_next_55 (by decide) ?_
  exact hk8 _ _ _ _ hw hl h
set_option maxHeartbeats 4000000 in
set_option maxRecDepth 100000 in
theorem w_X7_next_8 {gz : GM} (kb8 : GM → Option (GM)) (hk8 : ∀ (g : GM) (H : Heap) (locs : List Loc) (ls : Array Slot), WS D cA ev hr ad A KM s H locs g → lv_has ls 3 [(0, .ref (ad 0))] → kb8 g = some gz → W p l e (RM 2 0 0) s m args below meth c H locs 0 0 (MQ below (QV D cA ev hr ad A KM gz) args s 0 0 A) (F0 m 8 ls [])) (C : CX p s m args meth c RX7 yX7_next cX7_next 3 none D cA) (hx : HM hr ad) {H : Heap} {locs : List Loc} {g : GM} (hw : WS D cA ev hr ad A KM s H locs g) {ls : Array Slot} (hl : lv_has ls 3 [(0, .ref (ad 0))]) (h : F_X7_next_8B kb8 g = some gz) : W p l e (RM 2 0 0) s m args below meth c H locs 0 0 (MQ below (QV D cA ev hr ad A KM gz) args s 0 0 A) (F0 m 8 ls []) := by
  refine lv_aload_n C.1.1 C.1.2.1 dX7_next_8 rfl (lv_at hl 0 rfl) ?_
  refine r_getI C hw km0 fX7_46 rfl dX7_next_9 ?_
  refine lv_aload_n C.1.1 C.1.2.1 dX7_next_12 rfl (lv_at hl 0 rfl) ?_
  refine r_getI C hw km0 fX7_1 rfl dX7_next_13 ?_
  refine lv_icmp_ge (tgt := 58) C.1.1 C.1.2.1 dX7_next_16 (by decide) (fun hc => ?_) (fun hc => ?_)
  · replace h := ite_pos' h hc
    exact w_X7_next_58 C hx hw hl h
  · replace h := ite_neg' h hc
    refine lv_aload_n C.1.1 C.1.2.1 dX7_next_19 rfl (lv_at hl 0 rfl) ?_
    refine lv_aload_n C.1.1 C.1.2.1 dX7_next_20 rfl (lv_at hl 0 rfl) ?_
    refine r_getI C hw km0 fX7_46 rfl dX7_next_21 ?_
    obtain ⟨r_32, hc, h⟩ := bnd_some h
    refine r_vI (dc := 1) (As := [.int (gi g 0 6)]) (rest := []) C hw vX7_49 km0 (by decide) rfl (fun sz => c_X7_sign hx hc sz) (by decide) rfl rfl hl.1 (Nat.le_of_ble_eq_true rfl) dX7_next_24 ⟨Nat.le_refl _, Nat.le_refl _⟩ (fun H locs hw => ?_)
    refine lv_bipush (v := 32) C.1.1 C.1.2.1 dX7_next_27 (by decide) ?_
    refine lv_icmp_eq (tgt := 45) C.1.1 C.1.2.1 dX7_next_29 (by decide) (fun hc => ?_) (fun hc => ?_)
    · replace h := ite_pos' h hc
      exact w_X7_next_45 kb8 hk8 C hx hw hl h
    · replace h := ite_neg' h hc
      refine lv_aload_n C.1.1 C.1.2.1 dX7_next_32 rfl (lv_at hl 0 rfl) ?_
      refine lv_aload_n C.1.1 C.1.2.1 dX7_next_33 rfl (lv_at hl 0 rfl) ?_
      refine r_getI C hw km0 fX7_46 rfl dX7_next_34 ?_
      obtain ⟨r_33, hc, h⟩ := bnd_some h
      refine r_vI (dc := 1) (As := [.int (gi g 0 6)]) (rest := []) C hw vX7_49 km0 (by decide) rfl (fun sz => c_X7_sign hx hc sz) (by decide) rfl rfl hl.1 (Nat.le_of_ble_eq_true rfl) dX7_next_37 ⟨Nat.le_refl _, Nat.le_refl _⟩ (fun H locs hw => ?_)
      refine lv_bipush (v := 10) C.1.1 C.1.2.1 dX7_next_40 (by decide) ?_
      refine lv_icmp_ne (tgt := 58) C.1.1 C.1.2.1 dX7_next_42 (by decide) (fun hc => ?_) (fun hc => ?_)
      · replace h := ite_neg' h hc
        exact w_X7_next_58 C hx hw hl h
      · replace h := ite_pos' h hc
        exact w_X7_next_45 kb8 hk8 C hx hw hl h
set_option maxHeartbeats 4000000 in
set_option maxRecDepth 100000 in
theorem w_X7_next_8L {gz : GM} (C : CX p s m args meth c RX7 yX7_next cX7_next 3 none D cA) (hx : HM hr ad) : ∀ (n : Nat) (g : GM) (H : Heap) (locs : List Loc) (ls : Array Slot), WS D cA ev hr ad A KM s H locs g → lv_has ls 3 [(0, .ref (ad 0))] → fixN (F_X7_next_8B) n g = some gz → W p l e (RM 2 0 0) s m args below meth c H locs 0 0 (MQ below (QV D cA ev hr ad A KM gz) args s 0 0 A) (F0 m 8 ls []) := by
  intro n
  induction n with
  | zero => intro g H locs ls hw hl h; exact (fix_zero h).elim
  | succ n ih => intro g H locs ls hw hl h; exact w_X7_next_8 (fixN (F_X7_next_8B) n) ih C hx hw hl h
set_option maxHeartbeats 4000000 in
set_option maxRecDepth 100000 in
theorem w_X7_next_0 (C : CX p s m args meth c RX7 yX7_next cX7_next 3 none D cA) (hx : HM hr ad) {H : Heap} {locs : List Loc} {g : GM} (hw : WS D cA ev hr ad A KM s H locs g) {ls : Array Slot} (hl : lv_has ls 3 [(0, .ref (ad 0))]) {gz : GM} (h : F_X7_next g = some gz) : W p l e (RM 2 0 0) s m args below meth c H locs 0 0 (MQ below (QV D cA ev hr ad A KM gz) args s 0 0 A) (F0 m 0 ls []) := by
  refine lv_aload_n C.1.1 C.1.2.1 dX7_next_0 rfl (lv_at hl 0 rfl) ?_
  refine lv_aload_n C.1.1 C.1.2.1 dX7_next_1 rfl (lv_at hl 0 rfl) ?_
  refine r_getI C hw km0 fX7_43 rfl dX7_next_2 ?_
  refine r_putI C hw km0 fX7_46 rfl rfl (Or.inl rfl) dX7_next_5 (fun H locs hw => ?_)
  refine lt_gen (P := fun g => WS D cA ev hr ad A KM s H locs g) h hw (fun g_34 h hw => ?_)
  exact w_X7_next_8L C hx FU _ _ _ _ hw hl h
set_option maxHeartbeats 4000000 in
set_option maxRecDepth 100000 in
theorem c_X7_next (hx : HM hr ad) {g : GM} {gz : GM} (h : F_X7_next g = some gz) (sz : Nat) : Met l yX7_next (WSX yX7_next cX7_next 3 none) (RM 2 0 0) (va_Pc [.ref (ad 0)] (PX D cA ev hr ad KM g sz)) (QV D cA ev hr ad (AX ad KM.length sz) KM gz) 0 0 (AX ad KM.length sz) :=
  met_of (own := RX7) pnX7 rfl (Nat.le_of_ble_eq_true rfl) (fun p e s m below meth c ls C hw hsz hl => w_X7_next_0 C hx hw hl h)
set_option maxHeartbeats 4000000 in
set_option maxRecDepth 100000 in
theorem w_X7_is_24 {g : GM} {r : Int32} (C : CX p s m args meth c RX7 yX7_is cX7_is 2 (some .boolean) D cA) (hx : HM hr ad) {H : Heap} {locs : List Loc} (hw : WS D cA ev hr ad A KM s H locs g) {ls : Array Slot} (hl : lv_has ls 2 []) (h : F_X7_is_24 g = some r) : W p l e (RM 2 0 0) s m args below meth c H locs 0 0 (MQ below (QI D cA ev hr ad A KM r g) args s 0 0 A) (F0 m 24 ls []) := by
  refine lv_iconst (v := 0) C.1.1 C.1.2.1 dX7_is_24 (by decide) ?_
  cases h
  exact r_iret C hw (Or.inr ⟨rfl, Or.inl rfl⟩) dX7_is_25
set_option maxHeartbeats 4000000 in
set_option maxRecDepth 100000 in
theorem w_X7_is_0 (C : CX p s m args meth c RX7 yX7_is cX7_is 2 (some .boolean) D cA) (hx : HM hr ad) {H : Heap} {locs : List Loc} {g : GM} (hw : WS D cA ev hr ad A KM s H locs g) {a1 : Int32} {ls : Array Slot} (hl : lv_has ls 2 [(0, .ref (ad 0)), (1, .int a1)]) {r : Int32} (h : F_X7_is a1 g = some r) : W p l e (RM 2 0 0) s m args below meth c H locs 0 0 (MQ below (QI D cA ev hr ad A KM r g) args s 0 0 A) (F0 m 0 ls []) := by
  refine lv_aload_n C.1.1 C.1.2.1 dX7_is_0 rfl (lv_at hl 0 rfl) ?_
  refine r_getI C hw km0 fX7_53 rfl dX7_is_1 ?_
  refine lv_iconst (v := 5) C.1.1 C.1.2.1 dX7_is_4 (by decide) ?_
  refine lv_icmp_ne (tgt := 24) C.1.1 C.1.2.1 dX7_is_5 (by decide) (fun hc => ?_) (fun hc => ?_)
  · replace h := ite_neg' h hc
    exact w_X7_is_24 C hx hw (lv_sub hl [] rfl) h
  · replace h := ite_pos' h hc
    refine lv_aload_n C.1.1 C.1.2.1 dX7_is_8 rfl (lv_at hl 0 rfl) ?_
    refine lv_aload_n C.1.1 C.1.2.1 dX7_is_9 rfl (lv_at hl 0 rfl) ?_
    refine r_getI C hw km0 fX7_46 rfl dX7_is_10 ?_
    obtain ⟨r_1, hc, h⟩ := bnd_some h
    refine r_vI (dc := 1) (As := [.int (gi g 0 6)]) (rest := []) C hw vX7_49 km0 (by decide) rfl (fun sz => c_X7_sign hx hc sz) (by decide) rfl rfl hl.1 (Nat.le_of_ble_eq_true rfl) dX7_is_13 ⟨Nat.le_refl _, Nat.le_refl _⟩ (fun H locs hw => ?_)
    refine lv_iload_n C.1.1 C.1.2.1 dX7_is_16 rfl (lv_at hl 1 rfl) ?_
    refine lv_icmp_ne (tgt := 24) C.1.1 C.1.2.1 dX7_is_17 (by decide) (fun hc => ?_) (fun hc => ?_)
    · replace h := ite_neg' h hc
      exact w_X7_is_24 C hx hw (lv_sub hl [] rfl) h
    · replace h := ite_pos' h hc
      refine lv_iconst (v := 1) C.1.1 C.1.2.1 dX7_is_20 (by decide) ?_
      refine lv_goto (tgt := 25) C.1.1 C.1.2.1 dX7_is_21 (by decide) ?_
      cases h
      exact r_iret C hw (Or.inr ⟨rfl, Or.inr rfl⟩) dX7_is_25
set_option maxHeartbeats 4000000 in
set_option maxRecDepth 100000 in
theorem c_X7_is (hx : HM hr ad) {a1 : Int32} {g : GM} {r : Int32} (h : F_X7_is a1 g = some r) (sz : Nat) : Met l yX7_is (WSX yX7_is cX7_is 2 (some .boolean)) (RM 2 0 0) (va_Pc [.ref (ad 0), .int a1] (PX D cA ev hr ad KM g sz)) (QI D cA ev hr ad (AX ad KM.length sz) KM r g) 0 0 (AX ad KM.length sz) :=
  met_of (own := RX7) pnX7 rfl (Nat.le_of_ble_eq_true rfl) (fun p e s m below meth c ls C hw hsz hl => w_X7_is_0 C hx hw hl h)
set_option maxHeartbeats 4000000 in
set_option maxRecDepth 100000 in
theorem w_X7_isWord_21 {g : GM} {r : Int32} (C : CX p s m args meth c RX7 yX7_isWord cX7_isWord 3 (some .boolean) D cA) (hx : HM hr ad) {H : Heap} {locs : List Loc} (hw : WS D cA ev hr ad A KM s H locs g) {ls : Array Slot} (hl : lv_has ls 3 []) (h : F_X7_isWord_21 g = some r) : W p l e (RM 1 0 0) s m args below meth c H locs 0 0 (MQ below (QI D cA ev hr ad A KM r g) args s 0 0 A) (F0 m 21 ls []) := by
  refine lv_iconst (v := 0) C.1.1 C.1.2.1 dX7_isWord_21 (by decide) ?_
  cases h
  exact r_iret C hw (Or.inr ⟨rfl, Or.inl rfl⟩) dX7_isWord_22
set_option maxHeartbeats 4000000 in
set_option maxRecDepth 100000 in
theorem w_X7_isWord_0 (C : CX p s m args meth c RX7 yX7_isWord cX7_isWord 3 (some .boolean) D cA) (hx : HM hr ad) {H : Heap} {locs : List Loc} {g : GM} (hw : WS D cA ev hr ad A KM s H locs g) {a1 : Int64} {ls : Array Slot} (hl : lv_has ls 3 [(0, .ref (ad 0)), (1, .long a1)]) {r : Int32} (h : F_X7_isWord a1 g = some r) : W p l e (RM 1 0 0) s m args below meth c H locs 0 0 (MQ below (QI D cA ev hr ad A KM r g) args s 0 0 A) (F0 m 0 ls []) := by
  refine lv_aload_n C.1.1 C.1.2.1 dX7_isWord_0 rfl (lv_at hl 0 rfl) ?_
  refine r_getI C hw km0 fX7_53 rfl dX7_isWord_1 ?_
  refine lv_iconst (v := 3) C.1.1 C.1.2.1 dX7_isWord_4 (by decide) ?_
  refine lv_icmp_ne (tgt := 21) C.1.1 C.1.2.1 dX7_isWord_5 (by decide) (fun hc => ?_) (fun hc => ?_)
  · replace h := ite_neg' h hc
    exact w_X7_isWord_21 C hx hw (lv_sub hl [] rfl) h
  · replace h := ite_pos' h hc
    refine lv_aload_n C.1.1 C.1.2.1 dX7_isWord_8 rfl (lv_at hl 0 rfl) ?_
    refine r_getL C hw km0 fX7_60 rfl dX7_isWord_9 ?_
    refine lv_lload_n C.1.1 C.1.2.1 dX7_isWord_12 rfl (lv_at hl 1 rfl) ?_
    refine W.lcmp C.1.1 C.1.2.1 dX7_isWord_13 ?_
    refine lv_if_ne (tgt := 21) C.1.1 C.1.2.1 dX7_isWord_14 (by decide) (fun hc => ?_) (fun hc => ?_)
    · replace h := ite_neg' h hc
      exact w_X7_isWord_21 C hx hw (lv_sub hl [] rfl) h
    · replace h := ite_pos' h hc
      refine lv_iconst (v := 1) C.1.1 C.1.2.1 dX7_isWord_17 (by decide) ?_
      refine lv_goto (tgt := 22) C.1.1 C.1.2.1 dX7_isWord_18 (by decide) ?_
      cases h
      exact r_iret C hw (Or.inr ⟨rfl, Or.inr rfl⟩) dX7_isWord_22
set_option maxHeartbeats 4000000 in
set_option maxRecDepth 100000 in
theorem c_X7_isWord (hx : HM hr ad) {a1 : Int64} {g : GM} {r : Int32} (h : F_X7_isWord a1 g = some r) (sz : Nat) : Met l yX7_isWord (WSX yX7_isWord cX7_isWord 3 (some .boolean)) (RM 1 0 0) (va_Pc [.ref (ad 0), .long a1] (PX D cA ev hr ad KM g sz)) (QI D cA ev hr ad (AX ad KM.length sz) KM r g) 0 0 (AX ad KM.length sz) :=
  met_of (own := RX7) pnX7 rfl (Nat.le_of_ble_eq_true rfl) (fun p e s m below meth c ls C hw hsz hl => w_X7_isWord_0 C hx hw hl h)
set_option maxHeartbeats 4000000 in
set_option maxRecDepth 100000 in
theorem w_X7_wrong_14 {s0 : Int32} {g : GM} {gz : GM} (C : CX p s m args meth c RX7 yX7_wrong cX7_wrong 1 none D cA) (hx : HM hr ad) {H : Heap} {locs : List Loc} (hw : WS D cA ev hr ad A KM s H locs g) {ls : Array Slot} (hl : lv_has ls 1 [(0, .ref (ad 0))]) (h : F_X7_wrong_14 s0 g = some gz) : W p l e (RM 2 0 0) s m args below meth c H locs 0 0 (MQ below (QV D cA ev hr ad A KM gz) args s 0 0 A) (F0 m 14 ls [.int s0, .ref (ad 0)]) := by
  refine lv_aload_n C.1.1 C.1.2.1 dX7_wrong_14 rfl (lv_at hl 0 rfl) ?_
  refine r_getI C hw km0 fX7_46 rfl dX7_wrong_15 ?_
  obtain ⟨g_1, hc, h⟩ := bnd_some h
  refine r_vV (dc := 1) (As := [.int s0, .int (gi g 0 6)]) (rest := []) C hw vX7_77 km0 (by decide) rfl (fun sz => c_X7_fails hx hc sz) (by decide) rfl rfl hl.1 (Nat.le_of_ble_eq_true rfl) dX7_wrong_18 ⟨Nat.le_refl _, Nat.le_refl _⟩ (fun H locs hw => ?_)
  cases h
  exact r_vret C hw rfl dX7_wrong_21
set_option maxHeartbeats 4000000 in
set_option maxRecDepth 100000 in
theorem w_X7_wrong_0 (C : CX p s m args meth c RX7 yX7_wrong cX7_wrong 1 none D cA) (hx : HM hr ad) {H : Heap} {locs : List Loc} {g : GM} (hw : WS D cA ev hr ad A KM s H locs g) {ls : Array Slot} (hl : lv_has ls 1 [(0, .ref (ad 0))]) {gz : GM} (h : F_X7_wrong g = some gz) : W p l e (RM 2 0 0) s m args below meth c H locs 0 0 (MQ below (QV D cA ev hr ad A KM gz) args s 0 0 A) (F0 m 0 ls []) := by
  refine lv_aload_n C.1.1 C.1.2.1 dX7_wrong_0 rfl (lv_at hl 0 rfl) ?_
  refine lv_aload_n C.1.1 C.1.2.1 dX7_wrong_1 rfl (lv_at hl 0 rfl) ?_
  refine r_getI C hw km0 fX7_53 rfl dX7_wrong_2 ?_
  refine lv_iconst (v := 1) C.1.1 C.1.2.1 dX7_wrong_5 (by decide) ?_
  refine lv_icmp_ne (tgt := 13) C.1.1 C.1.2.1 dX7_wrong_6 (by decide) (fun hc => ?_) (fun hc => ?_)
  · replace h := ite_neg' h hc
    refine lv_iconst (v := 2) C.1.1 C.1.2.1 dX7_wrong_13 (by decide) ?_
    exact w_X7_wrong_14 C hx hw hl h
  · replace h := ite_pos' h hc
    refine lv_iconst (v := 1) C.1.1 C.1.2.1 dX7_wrong_9 (by decide) ?_
    refine lv_goto (tgt := 14) C.1.1 C.1.2.1 dX7_wrong_10 (by decide) ?_
    exact w_X7_wrong_14 C hx hw hl h
set_option maxHeartbeats 4000000 in
set_option maxRecDepth 100000 in
theorem c_X7_wrong (hx : HM hr ad) {g : GM} {gz : GM} (h : F_X7_wrong g = some gz) (sz : Nat) : Met l yX7_wrong (WSX yX7_wrong cX7_wrong 1 none) (RM 2 0 0) (va_Pc [.ref (ad 0)] (PX D cA ev hr ad KM g sz)) (QV D cA ev hr ad (AX ad KM.length sz) KM gz) 0 0 (AX ad KM.length sz) :=
  met_of (own := RX7) pnX7 rfl (Nat.le_of_ble_eq_true rfl) (fun p e s m below meth c ls C hw hsz hl => w_X7_wrong_0 C hx hw hl h)
set_option maxHeartbeats 4000000 in
set_option maxRecDepth 100000 in
theorem w_X7_must_0 (C : CX p s m args meth c RX7 yX7_must cX7_must 2 none D cA) (hx : HM hr ad) {H : Heap} {locs : List Loc} {g : GM} (hw : WS D cA ev hr ad A KM s H locs g) {a1 : Int32} {ls : Array Slot} (hl : lv_has ls 2 [(0, .ref (ad 0)), (1, .int a1)]) {gz : GM} (h : F_X7_must a1 g = some gz) : W p l e (RM 3 0 0) s m args below meth c H locs 0 0 (MQ below (QV D cA ev hr ad A KM gz) args s 0 0 A) (F0 m 0 ls []) := by
  refine lv_aload_n C.1.1 C.1.2.1 dX7_must_0 rfl (lv_at hl 0 rfl) ?_
  obtain ⟨r_1, hc, h⟩ := bnd_some h
  refine r_vI (dc := 1) (As := []) (rest := []) C hw vX7_81 km0 (by decide) rfl (fun sz => c_X7_isGood hx hc sz) (by decide) rfl rfl hl.1 (Nat.le_of_ble_eq_true rfl) dX7_must_1 ⟨Nat.le_refl _, Nat.le_refl _⟩ (fun H locs hw => ?_)
  refine lv_if_ne (tgt := 8) C.1.1 C.1.2.1 dX7_must_4 (by decide) (fun hc => ?_) (fun hc => ?_)
  · replace h := ite_neg' h hc
    refine lv_iload_n C.1.1 C.1.2.1 dX7_must_8 rfl (lv_at hl 1 rfl) ?_
    refine lv_if_eq (tgt := 19) C.1.1 C.1.2.1 dX7_must_9 (by decide) (fun hc => ?_) (fun hc => ?_)
    · replace h := ite_pos' h hc
      refine lv_aload_n C.1.1 C.1.2.1 dX7_must_19 rfl (lv_at hl 0 rfl) ?_
      obtain ⟨g_2, hc, h⟩ := bnd_some h
      refine r_vV (dc := 2) (As := []) (rest := []) C hw vX7_89 km0 (by decide) rfl (fun sz => c_X7_wrong hx hc sz) (by decide) rfl rfl hl.1 (Nat.le_of_ble_eq_true rfl) dX7_must_20 ⟨Nat.le_refl _, Nat.le_refl _⟩ (fun H locs hw => ?_)
      cases h
      exact r_vret C hw rfl dX7_must_23
    · replace h := ite_neg' h hc
      refine lv_aload_n C.1.1 C.1.2.1 dX7_must_12 rfl (lv_at hl 0 rfl) ?_
      obtain ⟨g_3, hc, h⟩ := bnd_some h
      refine r_vV (dc := 2) (As := []) (rest := []) C hw vX7_85 km0 (by decide) rfl (fun sz => c_X7_next hx hc sz) (by decide) rfl rfl hl.1 (Nat.le_of_ble_eq_true rfl) dX7_must_13 ⟨Nat.le_refl _, Nat.le_refl _⟩ (fun H locs hw => ?_)
      refine lv_goto (tgt := 23) C.1.1 C.1.2.1 dX7_must_16 (by decide) ?_
      cases h
      exact r_vret C hw rfl dX7_must_23
  · replace h := ite_pos' h hc
    cases h
    exact r_vret C hw rfl dX7_must_7
set_option maxHeartbeats 4000000 in
set_option maxRecDepth 100000 in
theorem c_X7_must (hx : HM hr ad) {a1 : Int32} {g : GM} {gz : GM} (h : F_X7_must a1 g = some gz) (sz : Nat) : Met l yX7_must (WSX yX7_must cX7_must 2 none) (RM 3 0 0) (va_Pc [.ref (ad 0), .int a1] (PX D cA ev hr ad KM g sz)) (QV D cA ev hr ad (AX ad KM.length sz) KM gz) 0 0 (AX ad KM.length sz) :=
  met_of (own := RX7) pnX7 rfl (Nat.le_of_ble_eq_true rfl) (fun p e s m below meth c ls C hw hsz hl => w_X7_must_0 C hx hw hl h)
set_option maxHeartbeats 4000000 in
set_option maxRecDepth 100000 in
theorem w_X7_takeTape_25 {gz : GM} (kb25 : Int32 × GM → Option (GM)) (hk25 : ∀ (x2 : Int32) (g : GM) (H : Heap) (locs : List Loc) (ls : Array Slot), WS D cA ev hr ad A KM s H locs g → lv_has ls 3 [(0, .ref (ad 0)), (2, .int x2)] → kb25 (x2, g) = some gz → W p l e (RM 1 0 0) s m args below meth c H locs 0 0 (MQ below (QV D cA ev hr ad A KM gz) args s 0 0 A) (F0 m 25 ls [])) (C : CX p s m args meth c RX7 yX7_takeTape cX7_takeTape 3 none D cA) (hx : HM hr ad) {H : Heap} {locs : List Loc} {x2 : Int32} {g : GM} (hw : WS D cA ev hr ad A KM s H locs g) {ls : Array Slot} (hl : lv_has ls 3 [(0, .ref (ad 0)), (2, .int x2)]) (h : F_X7_takeTape_25B kb25 (x2, g) = some gz) : W p l e (RM 1 0 0) s m args below meth c H locs 0 0 (MQ below (QV D cA ev hr ad A KM gz) args s 0 0 A) (F0 m 25 ls []) := by
  refine lv_iload_n C.1.1 C.1.2.1 dX7_takeTape_25 rfl (lv_at hl 1 rfl) ?_
  refine lv_aload_n C.1.1 C.1.2.1 dX7_takeTape_26 rfl (lv_at hl 0 rfl) ?_
  refine r_getI C hw km0 fX7_1 rfl dX7_takeTape_27 ?_
  refine lv_icmp_ge (tgt := 51) C.1.1 C.1.2.1 dX7_takeTape_30 (by decide) (fun hc => ?_) (fun hc => ?_)
  · replace h := ite_pos' h hc
    refine lv_aload_n C.1.1 C.1.2.1 dX7_takeTape_51 rfl (lv_at hl 0 rfl) ?_
    refine lv_iconst (v := 0) C.1.1 C.1.2.1 dX7_takeTape_52 (by decide) ?_
    refine r_putI C hw km0 fX7_92 rfl rfl (Or.inl rfl) dX7_takeTape_53 (fun H locs hw => ?_)
    refine lt_gen (P := fun g => WS D cA ev hr ad A KM s H locs g) h hw (fun g_1 h hw => ?_)
    refine lv_aload_n C.1.1 C.1.2.1 dX7_takeTape_56 rfl (lv_at hl 0 rfl) ?_
    refine lv_iconst (v := 0) C.1.1 C.1.2.1 dX7_takeTape_57 (by decide) ?_
    refine r_putI C hw km0 fX7_43 rfl rfl (Or.inl rfl) dX7_takeTape_58 (fun H locs hw => ?_)
    refine lt_gen (P := fun g => WS D cA ev hr ad A KM s H locs g) h hw (fun g_2 h hw => ?_)
    cases h
    exact r_vret C hw rfl dX7_takeTape_61
  · replace h := ite_neg' h hc
    refine lv_aload_n C.1.1 C.1.2.1 dX7_takeTape_33 rfl (lv_at hl 0 rfl) ?_
    refine r_getR (v := .ref (ad 2)) C hw km0 fX7_7 rfl (hm1 hx) dX7_takeTape_34 ?_
    refine lv_iload_n C.1.1 C.1.2.1 dX7_takeTape_37 rfl (lv_at hl 1 rfl) ?_
    refine lv_aload_n C.1.1 C.1.2.1 dX7_takeTape_38 rfl (lv_at hl 0 rfl) ?_
    refine r_getR (v := .ref (ad 1)) C hw km0 fX7_95 rfl (hm0 hx) dX7_takeTape_39 ?_
    refine lv_iload_n C.1.1 C.1.2.1 dX7_takeTape_42 rfl (lv_at hl 1 rfl) ?_
    obtain ⟨hz, h⟩ := ck_some h
    refine r_bald C hw km1 (inB_in hz) dX7_takeTape_43 ?_
    obtain ⟨hz, h⟩ := ck_some h
    refine r_bast C hw km2 (inB_in hz) dX7_takeTape_44 (fun H locs hw => ?_)
    refine lt_gen (P := fun g => WS D cA ev hr ad A KM s H locs g) h hw (fun g_3 h hw => ?_)
    refine lv_iinc (v := x2 + 1) (lv' := [(2, .int (x2 + 1)), (0, .ref (ad 0))]) C.1.1 C.1.2.1 dX7_takeTape_45 hl (k := 1) rfl rfl (by decide) rfl (fun ls hl => ?_)
    refine lt_gen (P := fun x => lv_has ls 3 [(2, .int x), (0, .ref (ad 0))]) h hl (fun x2_4 h hl => ?_)
    refine lv_goto (tgt := 25) C.1.1 C.1.2.1 dX7_takeTape_48 (by decide) ?_
    exact hk25 _ _ _ _ _ hw (lv_sub hl [1, 0] rfl) h
set_option maxHeartbeats 4000000 in
set_option maxRecDepth 100000 in
theorem w_X7_takeTape_25L {gz : GM} (C : CX p s m args meth c RX7 yX7_takeTape cX7_takeTape 3 none D cA) (hx : HM hr ad) : ∀ (n : Nat) (x2 : Int32) (g : GM) (H : Heap) (locs : List Loc) (ls : Array Slot), WS D cA ev hr ad A KM s H locs g → lv_has ls 3 [(0, .ref (ad 0)), (2, .int x2)] → fixN (F_X7_takeTape_25B) n (x2, g) = some gz → W p l e (RM 1 0 0) s m args below meth c H locs 0 0 (MQ below (QV D cA ev hr ad A KM gz) args s 0 0 A) (F0 m 25 ls []) := by
  intro n
  induction n with
  | zero => intro x2 g H locs ls hw hl h; exact (fix_zero h).elim
  | succ n ih => intro x2 g H locs ls hw hl h; exact w_X7_takeTape_25 (fixN (F_X7_takeTape_25B) n) ih C hx hw hl h
set_option maxHeartbeats 4000000 in
set_option maxRecDepth 100000 in
theorem w_X7_takeTape_0 (C : CX p s m args meth c RX7 yX7_takeTape cX7_takeTape 3 none D cA) (hx : HM hr ad) {H : Heap} {locs : List Loc} {g : GM} (hw : WS D cA ev hr ad A KM s H locs g) {a1 : Int32} {ls : Array Slot} (hl : lv_has ls 3 [(0, .ref (ad 0)), (1, .int a1)]) {gz : GM} (h : F_X7_takeTape a1 g = some gz) : W p l e (RM 1 0 0) s m args below meth c H locs 0 0 (MQ below (QV D cA ev hr ad A KM gz) args s 0 0 A) (F0 m 0 ls []) := by
  refine lv_aload_n C.1.1 C.1.2.1 dX7_takeTape_0 rfl (lv_at hl 0 rfl) ?_
  refine lv_iload_n C.1.1 C.1.2.1 dX7_takeTape_1 rfl (lv_at hl 1 rfl) ?_
  obtain ⟨hz, h⟩ := ck_some h
  refine r_putZ C hw km0 fX7_39 rfl rfl (isZ_or hz) (Or.inl rfl) dX7_takeTape_2 (fun H locs hw => ?_)
  refine lt_gen (P := fun g => WS D cA ev hr ad A KM s H locs g) h hw (fun g_5 h hw => ?_)
  refine lv_aload_n C.1.1 C.1.2.1 dX7_takeTape_5 rfl (lv_at hl 0 rfl) ?_
  refine lv_iconst (v := 0) C.1.1 C.1.2.1 dX7_takeTape_6 (by decide) ?_
  refine r_putI C hw km0 fX7_11 rfl rfl (Or.inl rfl) dX7_takeTape_7 (fun H locs hw => ?_)
  refine lt_gen (P := fun g => WS D cA ev hr ad A KM s H locs g) h hw (fun g_6 h hw => ?_)
  refine lv_aload_n C.1.1 C.1.2.1 dX7_takeTape_10 rfl (lv_at hl 0 rfl) ?_
  refine lv_iconst (v := (-1)) C.1.1 C.1.2.1 dX7_takeTape_11 (by decide) ?_
  refine r_putI C hw km0 fX7_14 rfl rfl (Or.inl rfl) dX7_takeTape_12 (fun H locs hw => ?_)
  refine lt_gen (P := fun g => WS D cA ev hr ad A KM s H locs g) h hw (fun g_7 h hw => ?_)
  refine lv_aload_n C.1.1 C.1.2.1 dX7_takeTape_15 rfl (lv_at hl 0 rfl) ?_
  refine lv_aload_n C.1.1 C.1.2.1 dX7_takeTape_16 rfl (lv_at hl 0 rfl) ?_
  refine r_getI C hw km0 fX7_92 rfl dX7_takeTape_17 ?_
  refine r_putI C hw km0 fX7_1 rfl rfl (Or.inl rfl) dX7_takeTape_20 (fun H locs hw => ?_)
  refine lt_gen (P := fun g => WS D cA ev hr ad A KM s H locs g) h hw (fun g_8 h hw => ?_)
  refine lv_iconst (v := 0) C.1.1 C.1.2.1 dX7_takeTape_23 (by decide) ?_
  refine lv_istore_n (lv' := [(2, .int 0), (0, .ref (ad 0)), (1, .int a1)]) C.1.1 C.1.2.1 dX7_takeTape_24 rfl hl (by decide) rfl (fun ls hl => ?_)
  exact w_X7_takeTape_25L C hx FU _ _ _ _ _ hw (lv_sub hl [1, 0] rfl) h
set_option maxHeartbeats 4000000 in
set_option maxRecDepth 100000 in
theorem c_X7_takeTape (hx : HM hr ad) {a1 : Int32} {g : GM} {gz : GM} (h : F_X7_takeTape a1 g = some gz) (sz : Nat) : Met l yX7_takeTape (WSX yX7_takeTape cX7_takeTape 3 none) (RM 1 0 0) (va_Pc [.ref (ad 0), .int a1] (PX D cA ev hr ad KM g sz)) (QV D cA ev hr ad (AX ad KM.length sz) KM gz) 0 0 (AX ad KM.length sz) :=
  met_of (own := RX7) pnX7 rfl (Nat.le_of_ble_eq_true rfl) (fun p e s m below meth c ls C hw hsz hl => w_X7_takeTape_0 C hx hw hl h)
set_option maxHeartbeats 4000000 in
set_option maxRecDepth 100000 in
theorem w_X7_tableOf_5 {x1 : Int32} {x2 : Int64} {g : GM} {r : Int32} (kb5 : Int32 → Option (Int32)) (hk5 : ∀ (x4 : Int32) (H : Heap) (locs : List Loc) (ls : Array Slot), WS D cA ev hr ad A KM s H locs g → lv_has ls 5 [(0, .ref (ad 0)), (1, .int x1), (2, .long x2), (4, .int x4)] → kb5 x4 = some r → W p l e (RM 1 0 0) s m args below meth c H locs 0 0 (MQ below (QI D cA ev hr ad A KM r g) args s 0 0 A) (F0 m 5 ls [])) (C : CX p s m args meth c RX7 yX7_tableOf cX7_tableOf 5 (some .int) D cA) (hx : HM hr ad) {H : Heap} {locs : List Loc} {x4 : Int32} (hw : WS D cA ev hr ad A KM s H locs g) {ls : Array Slot} (hl : lv_has ls 5 [(0, .ref (ad 0)), (1, .int x1), (2, .long x2), (4, .int x4)]) (h : F_X7_tableOf_5B x1 x2 g kb5 x4 = some r) : W p l e (RM 1 0 0) s m args below meth c H locs 0 0 (MQ below (QI D cA ev hr ad A KM r g) args s 0 0 A) (F0 m 5 ls []) := by
  refine lv_iload C.1.1 C.1.2.1 dX7_tableOf_5 (lv_at hl 3 rfl) ?_
  refine lv_iconst (v := 5) C.1.1 C.1.2.1 dX7_tableOf_7 (by decide) ?_
  refine lv_iload_n C.1.1 C.1.2.1 dX7_tableOf_8 rfl (lv_at hl 1 rfl) ?_
  refine lv_imul C.1.1 C.1.2.1 dX7_tableOf_9 ?_
  refine lv_aload_n C.1.1 C.1.2.1 dX7_tableOf_10 rfl (lv_at hl 0 rfl) ?_
  refine r_getR (v := .ref (ad 12)) C hw km0 fX7_98 rfl (hm21 hx) dX7_tableOf_11 ?_
  refine lv_iload_n C.1.1 C.1.2.1 dX7_tableOf_14 rfl (lv_at hl 1 rfl) ?_
  obtain ⟨hz, h⟩ := ck_some h
  refine r_iald C hw km12 (inB_in hz) dX7_tableOf_15 ?_
  refine lv_iadd C.1.1 C.1.2.1 dX7_tableOf_16 ?_
  refine lv_icmp_ge (tgt := 41) C.1.1 C.1.2.1 dX7_tableOf_17 (by decide) (fun hc => ?_) (fun hc => ?_)
  · replace h := ite_pos' h hc
    refine lv_iconst (v := (-1)) C.1.1 C.1.2.1 dX7_tableOf_41 (by decide) ?_
    cases h
    exact r_iret C hw (Or.inl rfl) dX7_tableOf_42
  · replace h := ite_neg' h hc
    refine lv_aload_n C.1.1 C.1.2.1 dX7_tableOf_20 rfl (lv_at hl 0 rfl) ?_
    refine r_getR (v := .ref (ad 3)) C hw km0 fX7_102 rfl (hm12 hx) dX7_tableOf_21 ?_
    refine lv_iload C.1.1 C.1.2.1 dX7_tableOf_24 (lv_at hl 3 rfl) ?_
    obtain ⟨hz, h⟩ := ck_some h
    refine r_lald C hw km3 (inB_in hz) dX7_tableOf_26 ?_
    refine lv_lload_n C.1.1 C.1.2.1 dX7_tableOf_27 rfl (lv_at hl 2 rfl) ?_
    refine W.lcmp C.1.1 C.1.2.1 dX7_tableOf_28 ?_
    refine lv_if_ne (tgt := 35) C.1.1 C.1.2.1 dX7_tableOf_29 (by decide) (fun hc => ?_) (fun hc => ?_)
    · replace h := ite_neg' h hc
      refine lv_iinc (v := x4 + 1) (lv' := [(4, .int (x4 + 1)), (0, .ref (ad 0)), (1, .int x1), (2, .long x2)]) C.1.1 C.1.2.1 dX7_tableOf_35 hl (k := 3) rfl rfl (by decide) rfl (fun ls hl => ?_)
      refine lt_gen (P := fun x => lv_has ls 5 [(4, .int x), (0, .ref (ad 0)), (1, .int x1), (2, .long x2)]) h hl (fun x4_1 h hl => ?_)
      refine lv_goto (tgt := 5) C.1.1 C.1.2.1 dX7_tableOf_38 (by decide) ?_
      exact hk5 _ _ _ _ hw (lv_sub hl [1, 2, 3, 0] rfl) h
    · replace h := ite_pos' h hc
      refine lv_iload C.1.1 C.1.2.1 dX7_tableOf_32 (lv_at hl 3 rfl) ?_
      cases h
      exact r_iret C hw (Or.inl rfl) dX7_tableOf_34
set_option maxHeartbeats 4000000 in
set_option maxRecDepth 100000 in
theorem w_X7_tableOf_5L {x1 : Int32} {x2 : Int64} {g : GM} {r : Int32} (C : CX p s m args meth c RX7 yX7_tableOf cX7_tableOf 5 (some .int) D cA) (hx : HM hr ad) : ∀ (n : Nat) (x4 : Int32) (H : Heap) (locs : List Loc) (ls : Array Slot), WS D cA ev hr ad A KM s H locs g → lv_has ls 5 [(0, .ref (ad 0)), (1, .int x1), (2, .long x2), (4, .int x4)] → fixN (F_X7_tableOf_5B x1 x2 g) n x4 = some r → W p l e (RM 1 0 0) s m args below meth c H locs 0 0 (MQ below (QI D cA ev hr ad A KM r g) args s 0 0 A) (F0 m 5 ls []) := by
  intro n
  induction n with
  | zero => intro x4 H locs ls hw hl h; exact (fix_zero h).elim
  | succ n ih => intro x4 H locs ls hw hl h; exact w_X7_tableOf_5 (fixN (F_X7_tableOf_5B x1 x2 g) n) ih C hx hw hl h
set_option maxHeartbeats 4000000 in
set_option maxRecDepth 100000 in
theorem w_X7_tableOf_0 (C : CX p s m args meth c RX7 yX7_tableOf cX7_tableOf 5 (some .int) D cA) (hx : HM hr ad) {H : Heap} {locs : List Loc} {g : GM} (hw : WS D cA ev hr ad A KM s H locs g) {a1 : Int32} {a2 : Int64} {ls : Array Slot} (hl : lv_has ls 5 [(0, .ref (ad 0)), (1, .int a1), (2, .long a2)]) {r : Int32} (h : F_X7_tableOf a1 a2 g = some r) : W p l e (RM 1 0 0) s m args below meth c H locs 0 0 (MQ below (QI D cA ev hr ad A KM r g) args s 0 0 A) (F0 m 0 ls []) := by
  refine lv_iconst (v := 5) C.1.1 C.1.2.1 dX7_tableOf_0 (by decide) ?_
  refine lv_iload_n C.1.1 C.1.2.1 dX7_tableOf_1 rfl (lv_at hl 1 rfl) ?_
  refine lv_imul C.1.1 C.1.2.1 dX7_tableOf_2 ?_
  refine lv_istore (lv' := [(4, .int (5 * a1)), (0, .ref (ad 0)), (1, .int a1), (2, .long a2)]) C.1.1 C.1.2.1 dX7_tableOf_3 hl (by decide) rfl (fun ls hl => ?_)
  refine lt_gen (P := fun x => lv_has ls 5 [(4, .int x), (0, .ref (ad 0)), (1, .int a1), (2, .long a2)]) h hl (fun x4_2 h hl => ?_)
  exact w_X7_tableOf_5L C hx FU _ _ _ _ hw (lv_sub hl [1, 2, 3, 0] rfl) h
set_option maxHeartbeats 4000000 in
set_option maxRecDepth 100000 in
theorem c_X7_tableOf (hx : HM hr ad) {a1 : Int32} {a2 : Int64} {g : GM} {r : Int32} (h : F_X7_tableOf a1 a2 g = some r) (sz : Nat) : Met l yX7_tableOf (WSX yX7_tableOf cX7_tableOf 5 (some .int)) (RM 1 0 0) (va_Pc [.ref (ad 0), .int a1, .long a2] (PX D cA ev hr ad KM g sz)) (QI D cA ev hr ad (AX ad KM.length sz) KM r g) 0 0 (AX ad KM.length sz) :=
  met_of (own := RX7) pnX7 rfl (Nat.le_of_ble_eq_true rfl) (fun p e s m below meth c ls C hw hsz hl => w_X7_tableOf_0 C hx hw hl h)
set_option maxHeartbeats 4000000 in
set_option maxRecDepth 100000 in
theorem w_X7_columnOf_5 {x1 : Int32} {x2 : Int64} {g : GM} {r : Int32} (kb5 : Int32 → Option (Int32)) (hk5 : ∀ (x4 : Int32) (H : Heap) (locs : List Loc) (ls : Array Slot), WS D cA ev hr ad A KM s H locs g → lv_has ls 5 [(0, .ref (ad 0)), (1, .int x1), (2, .long x2), (4, .int x4)] → kb5 x4 = some r → W p l e (RM 1 0 0) s m args below meth c H locs 0 0 (MQ below (QI D cA ev hr ad A KM r g) args s 0 0 A) (F0 m 5 ls [])) (C : CX p s m args meth c RX7 yX7_columnOf cX7_columnOf 5 (some .int) D cA) (hx : HM hr ad) {H : Heap} {locs : List Loc} {x4 : Int32} (hw : WS D cA ev hr ad A KM s H locs g) {ls : Array Slot} (hl : lv_has ls 5 [(0, .ref (ad 0)), (1, .int x1), (2, .long x2), (4, .int x4)]) (h : F_X7_columnOf_5B x1 x2 g kb5 x4 = some r) : W p l e (RM 1 0 0) s m args below meth c H locs 0 0 (MQ below (QI D cA ev hr ad A KM r g) args s 0 0 A) (F0 m 5 ls []) := by
  refine lv_iload C.1.1 C.1.2.1 dX7_columnOf_5 (lv_at hl 3 rfl) ?_
  refine lv_iconst (v := 5) C.1.1 C.1.2.1 dX7_columnOf_7 (by decide) ?_
  refine lv_iload_n C.1.1 C.1.2.1 dX7_columnOf_8 rfl (lv_at hl 1 rfl) ?_
  refine lv_imul C.1.1 C.1.2.1 dX7_columnOf_9 ?_
  refine lv_aload_n C.1.1 C.1.2.1 dX7_columnOf_10 rfl (lv_at hl 0 rfl) ?_
  refine r_getR (v := .ref (ad 5)) C hw km0 fX7_106 rfl (hm14 hx) dX7_columnOf_11 ?_
  refine lv_iload_n C.1.1 C.1.2.1 dX7_columnOf_14 rfl (lv_at hl 1 rfl) ?_
  obtain ⟨hz, h⟩ := ck_some h
  refine r_iald C hw km5 (inB_in hz) dX7_columnOf_15 ?_
  refine lv_iadd C.1.1 C.1.2.1 dX7_columnOf_16 ?_
  refine lv_icmp_ge (tgt := 41) C.1.1 C.1.2.1 dX7_columnOf_17 (by decide) (fun hc => ?_) (fun hc => ?_)
  · replace h := ite_pos' h hc
    refine lv_iconst (v := (-1)) C.1.1 C.1.2.1 dX7_columnOf_41 (by decide) ?_
    cases h
    exact r_iret C hw (Or.inl rfl) dX7_columnOf_42
  · replace h := ite_neg' h hc
    refine lv_aload_n C.1.1 C.1.2.1 dX7_columnOf_20 rfl (lv_at hl 0 rfl) ?_
    refine r_getR (v := .ref (ad 4)) C hw km0 fX7_109 rfl (hm13 hx) dX7_columnOf_21 ?_
    refine lv_iload C.1.1 C.1.2.1 dX7_columnOf_24 (lv_at hl 3 rfl) ?_
    obtain ⟨hz, h⟩ := ck_some h
    refine r_lald C hw km4 (inB_in hz) dX7_columnOf_26 ?_
    refine lv_lload_n C.1.1 C.1.2.1 dX7_columnOf_27 rfl (lv_at hl 2 rfl) ?_
    refine W.lcmp C.1.1 C.1.2.1 dX7_columnOf_28 ?_
    refine lv_if_ne (tgt := 35) C.1.1 C.1.2.1 dX7_columnOf_29 (by decide) (fun hc => ?_) (fun hc => ?_)
    · replace h := ite_neg' h hc
      refine lv_iinc (v := x4 + 1) (lv' := [(4, .int (x4 + 1)), (0, .ref (ad 0)), (1, .int x1), (2, .long x2)]) C.1.1 C.1.2.1 dX7_columnOf_35 hl (k := 3) rfl rfl (by decide) rfl (fun ls hl => ?_)
      refine lt_gen (P := fun x => lv_has ls 5 [(4, .int x), (0, .ref (ad 0)), (1, .int x1), (2, .long x2)]) h hl (fun x4_1 h hl => ?_)
      refine lv_goto (tgt := 5) C.1.1 C.1.2.1 dX7_columnOf_38 (by decide) ?_
      exact hk5 _ _ _ _ hw (lv_sub hl [1, 2, 3, 0] rfl) h
    · replace h := ite_pos' h hc
      refine lv_iload C.1.1 C.1.2.1 dX7_columnOf_32 (lv_at hl 3 rfl) ?_
      cases h
      exact r_iret C hw (Or.inl rfl) dX7_columnOf_34
set_option maxHeartbeats 4000000 in
set_option maxRecDepth 100000 in
theorem w_X7_columnOf_5L {x1 : Int32} {x2 : Int64} {g : GM} {r : Int32} (C : CX p s m args meth c RX7 yX7_columnOf cX7_columnOf 5 (some .int) D cA) (hx : HM hr ad) : ∀ (n : Nat) (x4 : Int32) (H : Heap) (locs : List Loc) (ls : Array Slot), WS D cA ev hr ad A KM s H locs g → lv_has ls 5 [(0, .ref (ad 0)), (1, .int x1), (2, .long x2), (4, .int x4)] → fixN (F_X7_columnOf_5B x1 x2 g) n x4 = some r → W p l e (RM 1 0 0) s m args below meth c H locs 0 0 (MQ below (QI D cA ev hr ad A KM r g) args s 0 0 A) (F0 m 5 ls []) := by
  intro n
  induction n with
  | zero => intro x4 H locs ls hw hl h; exact (fix_zero h).elim
  | succ n ih => intro x4 H locs ls hw hl h; exact w_X7_columnOf_5 (fixN (F_X7_columnOf_5B x1 x2 g) n) ih C hx hw hl h
set_option maxHeartbeats 4000000 in
set_option maxRecDepth 100000 in
theorem w_X7_columnOf_0 (C : CX p s m args meth c RX7 yX7_columnOf cX7_columnOf 5 (some .int) D cA) (hx : HM hr ad) {H : Heap} {locs : List Loc} {g : GM} (hw : WS D cA ev hr ad A KM s H locs g) {a1 : Int32} {a2 : Int64} {ls : Array Slot} (hl : lv_has ls 5 [(0, .ref (ad 0)), (1, .int a1), (2, .long a2)]) {r : Int32} (h : F_X7_columnOf a1 a2 g = some r) : W p l e (RM 1 0 0) s m args below meth c H locs 0 0 (MQ below (QI D cA ev hr ad A KM r g) args s 0 0 A) (F0 m 0 ls []) := by
  refine lv_iconst (v := 5) C.1.1 C.1.2.1 dX7_columnOf_0 (by decide) ?_
  refine lv_iload_n C.1.1 C.1.2.1 dX7_columnOf_1 rfl (lv_at hl 1 rfl) ?_
  refine lv_imul C.1.1 C.1.2.1 dX7_columnOf_2 ?_
  refine lv_istore (lv' := [(4, .int (5 * a1)), (0, .ref (ad 0)), (1, .int a1), (2, .long a2)]) C.1.1 C.1.2.1 dX7_columnOf_3 hl (by decide) rfl (fun ls hl => ?_)
  refine lt_gen (P := fun x => lv_has ls 5 [(4, .int x), (0, .ref (ad 0)), (1, .int a1), (2, .long a2)]) h hl (fun x4_2 h hl => ?_)
  exact w_X7_columnOf_5L C hx FU _ _ _ _ hw (lv_sub hl [1, 2, 3, 0] rfl) h
set_option maxHeartbeats 4000000 in
set_option maxRecDepth 100000 in
theorem c_X7_columnOf (hx : HM hr ad) {a1 : Int32} {a2 : Int64} {g : GM} {r : Int32} (h : F_X7_columnOf a1 a2 g = some r) (sz : Nat) : Met l yX7_columnOf (WSX yX7_columnOf cX7_columnOf 5 (some .int)) (RM 1 0 0) (va_Pc [.ref (ad 0), .int a1, .long a2] (PX D cA ev hr ad KM g sz)) (QI D cA ev hr ad (AX ad KM.length sz) KM r g) 0 0 (AX ad KM.length sz) :=
  met_of (own := RX7) pnX7 rfl (Nat.le_of_ble_eq_true rfl) (fun p e s m below meth c ls C hw hsz hl => w_X7_columnOf_0 C hx hw hl h)
set_option maxHeartbeats 4000000 in
set_option maxRecDepth 100000 in
theorem w_X7_readColumn_171 {g : GM} {gz : GM} (C : CX p s m args meth c RX7 yX7_readColumn cX7_readColumn 3 none D cA) (hx : HM hr ad) {H : Heap} {locs : List Loc} (hw : WS D cA ev hr ad A KM s H locs g) {ls : Array Slot} (hl : lv_has ls 3 [(0, .ref (ad 0))]) (h : F_X7_readColumn_171 g = some gz) : W p l e (RM 3 0 0) s m args below meth c H locs 0 0 (MQ below (QV D cA ev hr ad A KM gz) args s 0 0 A) (F0 m 171 ls []) := by
  refine lv_aload_n C.1.1 C.1.2.1 dX7_readColumn_171 rfl (lv_at hl 0 rfl) ?_
  obtain ⟨r_1, hc, h⟩ := bnd_some h
  refine r_vI (dc := 1) (As := []) (rest := []) C hw vX7_81 km0 (by decide) rfl (fun sz => c_X7_isGood hx hc sz) (by decide) rfl rfl hl.1 (Nat.le_of_ble_eq_true rfl) dX7_readColumn_172 ⟨Nat.le_refl _, Nat.le_refl _⟩ (fun H locs hw => ?_)
  refine lv_if_eq (tgt := 182) C.1.1 C.1.2.1 dX7_readColumn_175 (by decide) (fun hc => ?_) (fun hc => ?_)
  · replace h := ite_pos' h hc
    cases h
    exact r_vret C hw rfl dX7_readColumn_182
  · replace h := ite_neg' h hc
    refine lv_aload_n C.1.1 C.1.2.1 dX7_readColumn_178 rfl (lv_at hl 0 rfl) ?_
    obtain ⟨g_2, hc, h⟩ := bnd_some h
    refine r_vV (dc := 2) (As := []) (rest := []) C hw vX7_85 km0 (by decide) rfl (fun sz => c_X7_next hx hc sz) (by decide) rfl rfl hl.1 (Nat.le_of_ble_eq_true rfl) dX7_readColumn_179 ⟨Nat.le_refl _, Nat.le_refl _⟩ (fun H locs hw => ?_)
    cases h
    exact r_vret C hw rfl dX7_readColumn_182
set_option maxHeartbeats 4000000 in
set_option maxRecDepth 100000 in
theorem w_X7_readColumn_127 {x2 : Int32} {g : GM} {gz : GM} (C : CX p s m args meth c RX7 yX7_readColumn cX7_readColumn 3 none D cA) (hx : HM hr ad) {H : Heap} {locs : List Loc} (hw : WS D cA ev hr ad A KM s H locs g) {ls : Array Slot} (hl : lv_has ls 3 [(0, .ref (ad 0)), (2, .int x2)]) (h : F_X7_readColumn_127 x2 g = some gz) : W p l e (RM 3 0 0) s m args below meth c H locs 0 0 (MQ below (QV D cA ev hr ad A KM gz) args s 0 0 A) (F0 m 127 ls []) := by
  refine lv_aload_n C.1.1 C.1.2.1 dX7_readColumn_127 rfl (lv_at hl 0 rfl) ?_
  obtain ⟨r_3, hc, h⟩ := bnd_some h
  refine r_vI (dc := 1) (As := []) (rest := []) C hw vX7_81 km0 (by decide) rfl (fun sz => c_X7_isGood hx hc sz) (by decide) rfl rfl hl.1 (Nat.le_of_ble_eq_true rfl) dX7_readColumn_128 ⟨Nat.le_refl _, Nat.le_refl _⟩ (fun H locs hw => ?_)
  refine lv_if_ne (tgt := 135) C.1.1 C.1.2.1 dX7_readColumn_131 (by decide) (fun hc => ?_) (fun hc => ?_)
  · replace h := ite_neg' h hc
    refine lv_aload_n C.1.1 C.1.2.1 dX7_readColumn_135 rfl (lv_at hl 0 rfl) ?_
    refine r_getR (v := .ref (ad 7)) C hw km0 fX7_175 rfl (hm16 hx) dX7_readColumn_136 ?_
    refine lv_iload_n C.1.1 C.1.2.1 dX7_readColumn_139 rfl (lv_at hl 1 rfl) ?_
    refine lv_aload_n C.1.1 C.1.2.1 dX7_readColumn_140 rfl (lv_at hl 0 rfl) ?_
    refine lv_aload_n C.1.1 C.1.2.1 dX7_readColumn_141 rfl (lv_at hl 0 rfl) ?_
    refine r_getI C hw km0 fX7_119 rfl dX7_readColumn_142 ?_
    refine lv_aload_n C.1.1 C.1.2.1 dX7_readColumn_145 rfl (lv_at hl 0 rfl) ?_
    refine r_getL C hw km0 fX7_60 rfl dX7_readColumn_146 ?_
    obtain ⟨r_4, hc, h⟩ := bnd_some h
    refine r_vI (dc := 1) (As := [.int (gi g 0 24), .long (gl g 0 10)]) (rest := [.int x2, .ref (ad 7)]) C hw vX7_156 km0 (by decide) rfl (fun sz => c_X7_tableOf hx hc sz) (by decide) rfl rfl hl.1 (Nat.le_of_ble_eq_true rfl) dX7_readColumn_149 ⟨Nat.le_refl _, Nat.le_refl _⟩ (fun H locs hw => ?_)
    obtain ⟨hz, h⟩ := ck_some h
    refine r_iast C hw km7 (inB_in hz) dX7_readColumn_152 (fun H locs hw => ?_)
    refine lt_gen (P := fun g => WS D cA ev hr ad A KM s H locs g) h hw (fun g_5 h hw => ?_)
    refine lv_aload_n C.1.1 C.1.2.1 dX7_readColumn_153 rfl (lv_at hl 0 rfl) ?_
    refine r_getR (v := .ref (ad 7)) C hw km0 fX7_175 rfl (hm16 hx) dX7_readColumn_154 ?_
    refine lv_iload_n C.1.1 C.1.2.1 dX7_readColumn_157 rfl (lv_at hl 1 rfl) ?_
    obtain ⟨hz, h⟩ := ck_some h
    refine r_iald C hw km7 (inB_in hz) dX7_readColumn_158 ?_
    refine lv_if_ge (tgt := 171) C.1.1 C.1.2.1 dX7_readColumn_159 (by decide) (fun hc => ?_) (fun hc => ?_)
    · replace h := ite_pos' h hc
      exact w_X7_readColumn_171 C hx hw (lv_sub hl [0] rfl) h
    · replace h := ite_neg' h hc
      refine lv_aload_n C.1.1 C.1.2.1 dX7_readColumn_162 rfl (lv_at hl 0 rfl) ?_
      refine lv_iconst (v := 4) C.1.1 C.1.2.1 dX7_readColumn_163 (by decide) ?_
      refine lv_aload_n C.1.1 C.1.2.1 dX7_readColumn_164 rfl (lv_at hl 0 rfl) ?_
      refine r_getI C hw km0 fX7_46 rfl dX7_readColumn_165 ?_
      obtain ⟨g_6, hc, h⟩ := bnd_some h
      refine r_vV (dc := 1) (As := [.int 4, .int (gi g_5 0 6)]) (rest := []) C hw vX7_77 km0 (by decide) rfl (fun sz => c_X7_fails hx hc sz) (by decide) rfl rfl hl.1 (Nat.le_of_ble_eq_true rfl) dX7_readColumn_168 ⟨Nat.le_refl _, Nat.le_refl _⟩ (fun H locs hw => ?_)
      exact w_X7_readColumn_171 C hx hw (lv_sub hl [0] rfl) h
  · replace h := ite_pos' h hc
    cases h
    exact r_vret C hw rfl dX7_readColumn_134
set_option maxHeartbeats 4000000 in
set_option maxRecDepth 100000 in
theorem w_X7_readColumn_50 {x1 : Int32} {g : GM} {gz : GM} (C : CX p s m args meth c RX7 yX7_readColumn cX7_readColumn 3 none D cA) (hx : HM hr ad) {H : Heap} {locs : List Loc} (hw : WS D cA ev hr ad A KM s H locs g) {ls : Array Slot} (hl : lv_has ls 3 [(0, .ref (ad 0)), (1, .int x1)]) (h : F_X7_readColumn_50 x1 g = some gz) : W p l e (RM 3 0 0) s m args below meth c H locs 0 0 (MQ below (QV D cA ev hr ad A KM gz) args s 0 0 A) (F0 m 50 ls []) := by
  refine lv_aload_n C.1.1 C.1.2.1 dX7_readColumn_50 rfl (lv_at hl 0 rfl) ?_
  obtain ⟨r_7, hc, h⟩ := bnd_some h
  refine r_vI (dc := 1) (As := []) (rest := []) C hw vX7_81 km0 (by decide) rfl (fun sz => c_X7_isGood hx hc sz) (by decide) rfl rfl hl.1 (Nat.le_of_ble_eq_true rfl) dX7_readColumn_51 ⟨Nat.le_refl _, Nat.le_refl _⟩ (fun H locs hw => ?_)
  refine lv_if_ne (tgt := 58) C.1.1 C.1.2.1 dX7_readColumn_54 (by decide) (fun hc => ?_) (fun hc => ?_)
  · replace h := ite_neg' h hc
    refine lv_iconst (v := 5) C.1.1 C.1.2.1 dX7_readColumn_58 (by decide) ?_
    refine lv_iload_n C.1.1 C.1.2.1 dX7_readColumn_59 rfl (lv_at hl 1 rfl) ?_
    refine lv_imul C.1.1 C.1.2.1 dX7_readColumn_60 ?_
    refine lv_aload_n C.1.1 C.1.2.1 dX7_readColumn_61 rfl (lv_at hl 0 rfl) ?_
    refine r_getR (v := .ref (ad 5)) C hw km0 fX7_106 rfl (hm14 hx) dX7_readColumn_62 ?_
    refine lv_iload_n C.1.1 C.1.2.1 dX7_readColumn_65 rfl (lv_at hl 1 rfl) ?_
    obtain ⟨hz, h⟩ := ck_some h
    refine r_iald C hw km5 (inB_in hz) dX7_readColumn_66 ?_
    refine lv_iadd C.1.1 C.1.2.1 dX7_readColumn_67 ?_
    refine lv_istore_n (lv' := [(2, .int ((5 * x1) + (gi g 5 x1.toNatClampNeg))), (0, .ref (ad 0)), (1, .int x1)]) C.1.1 C.1.2.1 dX7_readColumn_68 rfl hl (by decide) rfl (fun ls hl => ?_)
    refine lt_gen (P := fun x => lv_has ls 3 [(2, .int x), (0, .ref (ad 0)), (1, .int x1)]) h hl (fun x2_8 h hl => ?_)
    refine lv_aload_n C.1.1 C.1.2.1 dX7_readColumn_69 rfl (lv_at hl 1 rfl) ?_
    refine r_getR (v := .ref (ad 4)) C hw km0 fX7_109 rfl (hm13 hx) dX7_readColumn_70 ?_
    refine lv_iload_n C.1.1 C.1.2.1 dX7_readColumn_73 rfl (lv_at hl 0 rfl) ?_
    refine lv_aload_n C.1.1 C.1.2.1 dX7_readColumn_74 rfl (lv_at hl 1 rfl) ?_
    refine r_getL C hw km0 fX7_60 rfl dX7_readColumn_75 ?_
    obtain ⟨hz, h⟩ := ck_some h
    refine r_last C hw km4 (inB_in hz) dX7_readColumn_78 (fun H locs hw => ?_)
    refine lt_gen (P := fun g => WS D cA ev hr ad A KM s H locs g) h hw (fun g_9 h hw => ?_)
    refine lv_aload_n C.1.1 C.1.2.1 dX7_readColumn_79 rfl (lv_at hl 1 rfl) ?_
    refine r_getR (v := .ref (ad 7)) C hw km0 fX7_175 rfl (hm16 hx) dX7_readColumn_80 ?_
    refine lv_iload_n C.1.1 C.1.2.1 dX7_readColumn_83 rfl (lv_at hl 0 rfl) ?_
    refine lv_iconst (v := (-1)) C.1.1 C.1.2.1 dX7_readColumn_84 (by decide) ?_
    obtain ⟨hz, h⟩ := ck_some h
    refine r_iast C hw km7 (inB_in hz) dX7_readColumn_85 (fun H locs hw => ?_)
    refine lt_gen (P := fun g => WS D cA ev hr ad A KM s H locs g) h hw (fun g_10 h hw => ?_)
    refine lv_aload_n C.1.1 C.1.2.1 dX7_readColumn_86 rfl (lv_at hl 1 rfl) ?_
    refine r_getR (v := .ref (ad 5)) C hw km0 fX7_106 rfl (hm14 hx) dX7_readColumn_87 ?_
    refine lv_iload_n C.1.1 C.1.2.1 dX7_readColumn_90 rfl (lv_at hl 2 rfl) ?_
    refine lv_dup2_11 C.1.1 C.1.2.1 dX7_readColumn_91 rfl rfl ?_
    obtain ⟨hz, h⟩ := ck_some h
    refine r_iald C hw km5 (inB_in hz) dX7_readColumn_92 ?_
    refine lv_iconst (v := 1) C.1.1 C.1.2.1 dX7_readColumn_93 (by decide) ?_
    refine lv_iadd C.1.1 C.1.2.1 dX7_readColumn_94 ?_
    obtain ⟨hz, h⟩ := ck_some h
    refine r_iast C hw km5 (inB_in hz) dX7_readColumn_95 (fun H locs hw => ?_)
    refine lt_gen (P := fun g => WS D cA ev hr ad A KM s H locs g) h hw (fun g_11 h hw => ?_)
    refine lv_aload_n C.1.1 C.1.2.1 dX7_readColumn_96 rfl (lv_at hl 1 rfl) ?_
    obtain ⟨g_12, hc, h⟩ := bnd_some h
    refine r_vV (dc := 2) (As := []) (rest := []) C hw vX7_85 km0 (by decide) rfl (fun sz => c_X7_next hx hc sz) (by decide) rfl rfl hl.1 (Nat.le_of_ble_eq_true rfl) dX7_readColumn_97 ⟨Nat.le_refl _, Nat.le_refl _⟩ (fun H locs hw => ?_)
    refine lv_aload_n C.1.1 C.1.2.1 dX7_readColumn_100 rfl (lv_at hl 1 rfl) ?_
    refine lv_ldc2 (v := 29807) C.1.1 C.1.2.1 C.1.2.2.2.1 (C.w kc812) dX7_readColumn_101 ?_
    obtain ⟨r_13, hc, h⟩ := bnd_some h
    refine r_vI (dc := 1) (As := [.long 29807]) (rest := []) C hw vX7_125 km0 (by decide) rfl (fun sz => c_X7_isWord hx hc sz) (by decide) rfl rfl hl.1 (Nat.le_of_ble_eq_true rfl) dX7_readColumn_104 ⟨Nat.le_refl _, Nat.le_refl _⟩ (fun H locs hw => ?_)
    refine lv_if_ne (tgt := 111) C.1.1 C.1.2.1 dX7_readColumn_107 (by decide) (fun hc => ?_) (fun hc => ?_)
    · replace h := ite_neg' h hc
      refine lv_aload_n C.1.1 C.1.2.1 dX7_readColumn_111 rfl (lv_at hl 1 rfl) ?_
      obtain ⟨g_14, hc, h⟩ := bnd_some h
      refine r_vV (dc := 2) (As := []) (rest := []) C hw vX7_85 km0 (by decide) rfl (fun sz => c_X7_next hx hc sz) (by decide) rfl rfl hl.1 (Nat.le_of_ble_eq_true rfl) dX7_readColumn_112 ⟨Nat.le_refl _, Nat.le_refl _⟩ (fun H locs hw => ?_)
      refine lv_aload_n C.1.1 C.1.2.1 dX7_readColumn_115 rfl (lv_at hl 1 rfl) ?_
      refine r_getI C hw km0 fX7_53 rfl dX7_readColumn_116 ?_
      refine lv_iconst (v := 2) C.1.1 C.1.2.1 dX7_readColumn_119 (by decide) ?_
      refine lv_icmp_eq (tgt := 127) C.1.1 C.1.2.1 dX7_readColumn_120 (by decide) (fun hc => ?_) (fun hc => ?_)
      · replace h := ite_pos' h hc
        exact w_X7_readColumn_127 C hx hw (lv_sub hl [1, 0] rfl) h
      · replace h := ite_neg' h hc
        refine lv_aload_n C.1.1 C.1.2.1 dX7_readColumn_123 rfl (lv_at hl 1 rfl) ?_
        obtain ⟨g_15, hc, h⟩ := bnd_some h
        refine r_vV (dc := 2) (As := []) (rest := []) C hw vX7_89 km0 (by decide) rfl (fun sz => c_X7_wrong hx hc sz) (by decide) rfl rfl hl.1 (Nat.le_of_ble_eq_true rfl) dX7_readColumn_124 ⟨Nat.le_refl _, Nat.le_refl _⟩ (fun H locs hw => ?_)
        exact w_X7_readColumn_127 C hx hw (lv_sub hl [1, 0] rfl) h
    · replace h := ite_pos' h hc
      cases h
      exact r_vret C hw rfl dX7_readColumn_110
  · replace h := ite_pos' h hc
    cases h
    exact r_vret C hw rfl dX7_readColumn_57
set_option maxHeartbeats 4000000 in
set_option maxRecDepth 100000 in
theorem w_X7_readColumn_22 {x1 : Int32} {g : GM} {gz : GM} (C : CX p s m args meth c RX7 yX7_readColumn cX7_readColumn 3 none D cA) (hx : HM hr ad) {H : Heap} {locs : List Loc} (hw : WS D cA ev hr ad A KM s H locs g) {ls : Array Slot} (hl : lv_has ls 3 [(0, .ref (ad 0)), (1, .int x1)]) (h : F_X7_readColumn_22 x1 g = some gz) : W p l e (RM 3 0 0) s m args below meth c H locs 0 0 (MQ below (QV D cA ev hr ad A KM gz) args s 0 0 A) (F0 m 22 ls []) := by
  refine lv_aload_n C.1.1 C.1.2.1 dX7_readColumn_22 rfl (lv_at hl 0 rfl) ?_
  obtain ⟨r_16, hc, h⟩ := bnd_some h
  refine r_vI (dc := 1) (As := []) (rest := []) C hw vX7_81 km0 (by decide) rfl (fun sz => c_X7_isGood hx hc sz) (by decide) rfl rfl hl.1 (Nat.le_of_ble_eq_true rfl) dX7_readColumn_23 ⟨Nat.le_refl _, Nat.le_refl _⟩ (fun H locs hw => ?_)
  refine lv_if_eq (tgt := 50) C.1.1 C.1.2.1 dX7_readColumn_26 (by decide) (fun hc => ?_) (fun hc => ?_)
  · replace h := ite_pos' h hc
    exact w_X7_readColumn_50 C hx hw hl h
  · replace h := ite_neg' h hc
    refine lv_aload_n C.1.1 C.1.2.1 dX7_readColumn_29 rfl (lv_at hl 0 rfl) ?_
    refine lv_iload_n C.1.1 C.1.2.1 dX7_readColumn_30 rfl (lv_at hl 1 rfl) ?_
    refine lv_aload_n C.1.1 C.1.2.1 dX7_readColumn_31 rfl (lv_at hl 0 rfl) ?_
    refine r_getL C hw km0 fX7_60 rfl dX7_readColumn_32 ?_
    obtain ⟨r_17, hc, h⟩ := bnd_some h
    refine r_vI (dc := 1) (As := [.int x1, .long (gl g 0 10)]) (rest := []) C hw vX7_172 km0 (by decide) rfl (fun sz => c_X7_columnOf hx hc sz) (by decide) rfl rfl hl.1 (Nat.le_of_ble_eq_true rfl) dX7_readColumn_35 ⟨Nat.le_refl _, Nat.le_refl _⟩ (fun H locs hw => ?_)
    refine lv_if_lt (tgt := 50) C.1.1 C.1.2.1 dX7_readColumn_38 (by decide) (fun hc => ?_) (fun hc => ?_)
    · replace h := ite_pos' h hc
      exact w_X7_readColumn_50 C hx hw hl h
    · replace h := ite_neg' h hc
      refine lv_aload_n C.1.1 C.1.2.1 dX7_readColumn_41 rfl (lv_at hl 0 rfl) ?_
      refine lv_iconst (v := 3) C.1.1 C.1.2.1 dX7_readColumn_42 (by decide) ?_
      refine lv_aload_n C.1.1 C.1.2.1 dX7_readColumn_43 rfl (lv_at hl 0 rfl) ?_
      refine r_getI C hw km0 fX7_46 rfl dX7_readColumn_44 ?_
      obtain ⟨g_18, hc, h⟩ := bnd_some h
      refine r_vV (dc := 1) (As := [.int 3, .int (gi g 0 6)]) (rest := []) C hw vX7_77 km0 (by decide) rfl (fun sz => c_X7_fails hx hc sz) (by decide) rfl rfl hl.1 (Nat.le_of_ble_eq_true rfl) dX7_readColumn_47 ⟨Nat.le_refl _, Nat.le_refl _⟩ (fun H locs hw => ?_)
      exact w_X7_readColumn_50 C hx hw hl h
set_option maxHeartbeats 4000000 in
set_option maxRecDepth 100000 in
theorem w_X7_readColumn_18 {x1 : Int32} {g : GM} {gz : GM} (C : CX p s m args meth c RX7 yX7_readColumn cX7_readColumn 3 none D cA) (hx : HM hr ad) {H : Heap} {locs : List Loc} (hw : WS D cA ev hr ad A KM s H locs g) {ls : Array Slot} (hl : lv_has ls 3 [(0, .ref (ad 0)), (1, .int x1)]) (h : F_X7_readColumn_18 x1 g = some gz) : W p l e (RM 3 0 0) s m args below meth c H locs 0 0 (MQ below (QV D cA ev hr ad A KM gz) args s 0 0 A) (F0 m 18 ls []) := by
  refine lv_aload_n C.1.1 C.1.2.1 dX7_readColumn_18 rfl (lv_at hl 0 rfl) ?_
  obtain ⟨g_19, hc, h⟩ := bnd_some h
  refine r_vV (dc := 2) (As := []) (rest := []) C hw vX7_89 km0 (by decide) rfl (fun sz => c_X7_wrong hx hc sz) (by decide) rfl rfl hl.1 (Nat.le_of_ble_eq_true rfl) dX7_readColumn_19 ⟨Nat.le_refl _, Nat.le_refl _⟩ (fun H locs hw => ?_)
  exact w_X7_readColumn_22 C hx hw hl h
set_option maxHeartbeats 4000000 in
set_option maxRecDepth 100000 in
theorem w_X7_readColumn_0 (C : CX p s m args meth c RX7 yX7_readColumn cX7_readColumn 3 none D cA) (hx : HM hr ad) {H : Heap} {locs : List Loc} {g : GM} (hw : WS D cA ev hr ad A KM s H locs g) {a1 : Int32} {ls : Array Slot} (hl : lv_has ls 3 [(0, .ref (ad 0)), (1, .int a1)]) {gz : GM} (h : F_X7_readColumn a1 g = some gz) : W p l e (RM 3 0 0) s m args below meth c H locs 0 0 (MQ below (QV D cA ev hr ad A KM gz) args s 0 0 A) (F0 m 0 ls []) := by
  refine lv_aload_n C.1.1 C.1.2.1 dX7_readColumn_0 rfl (lv_at hl 0 rfl) ?_
  refine r_getI C hw km0 fX7_53 rfl dX7_readColumn_1 ?_
  refine lv_iconst (v := 2) C.1.1 C.1.2.1 dX7_readColumn_4 (by decide) ?_
  refine lv_icmp_ne (tgt := 18) C.1.1 C.1.2.1 dX7_readColumn_5 (by decide) (fun hc => ?_) (fun hc => ?_)
  · replace h := ite_neg' h hc
    exact w_X7_readColumn_18 C hx hw hl h
  · replace h := ite_pos' h hc
    refine lv_aload_n C.1.1 C.1.2.1 dX7_readColumn_8 rfl (lv_at hl 0 rfl) ?_
    refine r_getR (v := .ref (ad 5)) C hw km0 fX7_106 rfl (hm14 hx) dX7_readColumn_9 ?_
    refine lv_iload_n C.1.1 C.1.2.1 dX7_readColumn_12 rfl (lv_at hl 1 rfl) ?_
    obtain ⟨hz, h⟩ := ck_some h
    refine r_iald C hw km5 (inB_in hz) dX7_readColumn_13 ?_
    refine lv_iconst (v := 5) C.1.1 C.1.2.1 dX7_readColumn_14 (by decide) ?_
    refine lv_icmp_ne (tgt := 22) C.1.1 C.1.2.1 dX7_readColumn_15 (by decide) (fun hc => ?_) (fun hc => ?_)
    · replace h := ite_neg' h hc
      exact w_X7_readColumn_22 C hx hw hl h
    · replace h := ite_pos' h hc
      exact w_X7_readColumn_18 C hx hw hl h
set_option maxHeartbeats 4000000 in
set_option maxRecDepth 100000 in
theorem c_X7_readColumn (hx : HM hr ad) {a1 : Int32} {g : GM} {gz : GM} (h : F_X7_readColumn a1 g = some gz) (sz : Nat) : Met l yX7_readColumn (WSX yX7_readColumn cX7_readColumn 3 none) (RM 3 0 0) (va_Pc [.ref (ad 0), .int a1] (PX D cA ev hr ad KM g sz)) (QV D cA ev hr ad (AX ad KM.length sz) KM gz) 0 0 (AX ad KM.length sz) :=
  met_of (own := RX7) pnX7 rfl (Nat.le_of_ble_eq_true rfl) (fun p e s m below meth c ls C hw hsz hl => w_X7_readColumn_0 C hx hw hl h)
set_option maxHeartbeats 4000000 in
set_option maxRecDepth 100000 in
theorem w_X7_readTable_205 {g : GM} {gz : GM} (C : CX p s m args meth c RX7 yX7_readTable cX7_readTable 3 none D cA) (hx : HM hr ad) {H : Heap} {locs : List Loc} (hw : WS D cA ev hr ad A KM s H locs g) {ls : Array Slot} (hl : lv_has ls 3 [(0, .ref (ad 0))]) (h : F_X7_readTable_205 g = some gz) : W p l e (RM 4 0 0) s m args below meth c H locs 0 0 (MQ below (QV D cA ev hr ad A KM gz) args s 0 0 A) (F0 m 205 ls []) := by
  refine lv_aload_n C.1.1 C.1.2.1 dX7_readTable_205 rfl (lv_at hl 0 rfl) ?_
  refine lv_aload_n C.1.1 C.1.2.1 dX7_readTable_206 rfl (lv_at hl 0 rfl) ?_
  refine lv_bipush (v := 59) C.1.1 C.1.2.1 dX7_readTable_207 (by decide) ?_
  obtain ⟨r_1, hc, h⟩ := bnd_some h
  refine r_vI (dc := 2) (As := [.int 59]) (rest := [.ref (ad 0)]) C hw vX7_163 km0 (by decide) rfl (fun sz => c_X7_is hx hc sz) (by decide) rfl rfl hl.1 (Nat.le_of_ble_eq_true rfl) dX7_readTable_209 ⟨Nat.le_refl _, Nat.le_refl _⟩ (fun H locs hw => ?_)
  obtain ⟨g_2, hc, h⟩ := bnd_some h
  refine r_vV (dc := 3) (As := [.int r_1]) (rest := []) C hw vX7_166 km0 (by decide) rfl (fun sz => c_X7_must hx hc sz) (by decide) rfl rfl hl.1 (Nat.le_of_ble_eq_true rfl) dX7_readTable_212 ⟨Nat.le_refl _, Nat.le_refl _⟩ (fun H locs hw => ?_)
  cases h
  exact r_vret C hw rfl dX7_readTable_215
set_option maxHeartbeats 4000000 in
set_option maxRecDepth 100000 in
theorem w_X7_readTable_193 {x1 : Int32} {s0 : Int32} {g : GM} {gz : GM} (kb156 : Int32 × GM → Option (GM)) (hk156 : ∀ (x2 : Int32) (g : GM) (H : Heap) (locs : List Loc) (ls : Array Slot), WS D cA ev hr ad A KM s H locs g → lv_has ls 3 [(0, .ref (ad 0)), (1, .int x1), (2, .int x2)] → kb156 (x2, g) = some gz → W p l e (RM 4 0 0) s m args below meth c H locs 0 0 (MQ below (QV D cA ev hr ad A KM gz) args s 0 0 A) (F0 m 156 ls [])) (C : CX p s m args meth c RX7 yX7_readTable cX7_readTable 3 none D cA) (hx : HM hr ad) {H : Heap} {locs : List Loc} (hw : WS D cA ev hr ad A KM s H locs g) {ls : Array Slot} (hl : lv_has ls 3 [(0, .ref (ad 0)), (1, .int x1)]) (h : F_X7_readTable_193 kb156 x1 s0 g = some gz) : W p l e (RM 4 0 0) s m args below meth c H locs 0 0 (MQ below (QV D cA ev hr ad A KM gz) args s 0 0 A) (F0 m 193 ls [.int s0]) := by
  refine lv_istore_n (lv' := [(2, .int s0), (0, .ref (ad 0)), (1, .int x1)]) C.1.1 C.1.2.1 dX7_readTable_193 rfl hl (by decide) rfl (fun ls hl => ?_)
  refine lv_iload_n C.1.1 C.1.2.1 dX7_readTable_194 rfl (lv_at hl 0 rfl) ?_
  refine lv_if_eq (tgt := 156) C.1.1 C.1.2.1 dX7_readTable_195 (by decide) (fun hc => ?_) (fun hc => ?_)
  · replace h := ite_pos' h hc
    exact hk156 _ _ _ _ _ hw (lv_sub hl [1, 2, 0] rfl) h
  · replace h := ite_neg' h hc
    refine lv_aload_n C.1.1 C.1.2.1 dX7_readTable_198 rfl (lv_at hl 1 rfl) ?_
    obtain ⟨g_3, hc, h⟩ := bnd_some h
    refine r_vV (dc := 2) (As := []) (rest := []) C hw vX7_85 km0 (by decide) rfl (fun sz => c_X7_next hx hc sz) (by decide) rfl rfl hl.1 (Nat.le_of_ble_eq_true rfl) dX7_readTable_199 ⟨Nat.le_refl _, Nat.le_refl _⟩ (fun H locs hw => ?_)
    refine lv_goto (tgt := 156) C.1.1 C.1.2.1 dX7_readTable_202 (by decide) ?_
    exact hk156 _ _ _ _ _ hw (lv_sub hl [1, 2, 0] rfl) h
set_option maxHeartbeats 4000000 in
set_option maxRecDepth 100000 in
theorem w_X7_readTable_192 {x1 : Int32} {g : GM} {gz : GM} (kb156 : Int32 × GM → Option (GM)) (hk156 : ∀ (x2 : Int32) (g : GM) (H : Heap) (locs : List Loc) (ls : Array Slot), WS D cA ev hr ad A KM s H locs g → lv_has ls 3 [(0, .ref (ad 0)), (1, .int x1), (2, .int x2)] → kb156 (x2, g) = some gz → W p l e (RM 4 0 0) s m args below meth c H locs 0 0 (MQ below (QV D cA ev hr ad A KM gz) args s 0 0 A) (F0 m 156 ls [])) (C : CX p s m args meth c RX7 yX7_readTable cX7_readTable 3 none D cA) (hx : HM hr ad) {H : Heap} {locs : List Loc} (hw : WS D cA ev hr ad A KM s H locs g) {ls : Array Slot} (hl : lv_has ls 3 [(0, .ref (ad 0)), (1, .int x1)]) (h : F_X7_readTable_192 kb156 x1 g = some gz) : W p l e (RM 4 0 0) s m args below meth c H locs 0 0 (MQ below (QV D cA ev hr ad A KM gz) args s 0 0 A) (F0 m 192 ls []) := by
  refine lv_iconst (v := 0) C.1.1 C.1.2.1 dX7_readTable_192 (by decide) ?_
  exact w_X7_readTable_193 kb156 hk156 C hx hw hl h
set_option maxHeartbeats 4000000 in
set_option maxRecDepth 100000 in
theorem w_X7_readTable_156 {x1 : Int32} {gz : GM} (kb156 : Int32 × GM → Option (GM)) (hk156 : ∀ (x2 : Int32) (g : GM) (H : Heap) (locs : List Loc) (ls : Array Slot), WS D cA ev hr ad A KM s H locs g → lv_has ls 3 [(0, .ref (ad 0)), (1, .int x1), (2, .int x2)] → kb156 (x2, g) = some gz → W p l e (RM 4 0 0) s m args below meth c H locs 0 0 (MQ below (QV D cA ev hr ad A KM gz) args s 0 0 A) (F0 m 156 ls [])) (C : CX p s m args meth c RX7 yX7_readTable cX7_readTable 3 none D cA) (hx : HM hr ad) {H : Heap} {locs : List Loc} {x2 : Int32} {g : GM} (hw : WS D cA ev hr ad A KM s H locs g) {ls : Array Slot} (hl : lv_has ls 3 [(0, .ref (ad 0)), (1, .int x1), (2, .int x2)]) (h : F_X7_readTable_156B x1 kb156 (x2, g) = some gz) : W p l e (RM 4 0 0) s m args below meth c H locs 0 0 (MQ below (QV D cA ev hr ad A KM gz) args s 0 0 A) (F0 m 156 ls []) := by
  refine lv_iload_n C.1.1 C.1.2.1 dX7_readTable_156 rfl (lv_at hl 2 rfl) ?_
  refine lv_if_eq (tgt := 205) C.1.1 C.1.2.1 dX7_readTable_157 (by decide) (fun hc => ?_) (fun hc => ?_)
  · replace h := ite_pos' h hc
    exact w_X7_readTable_205 C hx hw (lv_sub hl [0] rfl) h
  · replace h := ite_neg' h hc
    refine lv_aload_n C.1.1 C.1.2.1 dX7_readTable_160 rfl (lv_at hl 0 rfl) ?_
    obtain ⟨r_4, hc, h⟩ := bnd_some h
    refine r_vI (dc := 1) (As := []) (rest := []) C hw vX7_81 km0 (by decide) rfl (fun sz => c_X7_isGood hx hc sz) (by decide) rfl rfl hl.1 (Nat.le_of_ble_eq_true rfl) dX7_readTable_161 ⟨Nat.le_refl _, Nat.le_refl _⟩ (fun H locs hw => ?_)
    refine lv_if_eq (tgt := 205) C.1.1 C.1.2.1 dX7_readTable_164 (by decide) (fun hc => ?_) (fun hc => ?_)
    · replace h := ite_pos' h hc
      exact w_X7_readTable_205 C hx hw (lv_sub hl [0] rfl) h
    · replace h := ite_neg' h hc
      refine lv_aload_n C.1.1 C.1.2.1 dX7_readTable_167 rfl (lv_at hl 0 rfl) ?_
      refine lv_iload_n C.1.1 C.1.2.1 dX7_readTable_168 rfl (lv_at hl 1 rfl) ?_
      obtain ⟨g_5, hc, h⟩ := bnd_some h
      refine r_vV (dc := 3) (As := [.int x1]) (rest := []) C hw vX7_169 km0 (by decide) rfl (fun sz => c_X7_readColumn hx hc sz) (by decide) rfl rfl hl.1 (Nat.le_of_ble_eq_true rfl) dX7_readTable_169 ⟨Nat.le_refl _, Nat.le_refl _⟩ (fun H locs hw => ?_)
      refine lv_aload_n C.1.1 C.1.2.1 dX7_readTable_172 rfl (lv_at hl 0 rfl) ?_
      obtain ⟨r_6, hc, h⟩ := bnd_some h
      refine r_vI (dc := 1) (As := []) (rest := []) C hw vX7_81 km0 (by decide) rfl (fun sz => c_X7_isGood hx hc sz) (by decide) rfl rfl hl.1 (Nat.le_of_ble_eq_true rfl) dX7_readTable_173 ⟨Nat.le_refl _, Nat.le_refl _⟩ (fun H locs hw => ?_)
      refine lv_if_eq (tgt := 192) C.1.1 C.1.2.1 dX7_readTable_176 (by decide) (fun hc => ?_) (fun hc => ?_)
      · replace h := ite_pos' h hc
        exact w_X7_readTable_192 kb156 hk156 C hx hw (lv_sub hl [0, 1] rfl) h
      · replace h := ite_neg' h hc
        refine lv_aload_n C.1.1 C.1.2.1 dX7_readTable_179 rfl (lv_at hl 0 rfl) ?_
        refine lv_bipush (v := 44) C.1.1 C.1.2.1 dX7_readTable_180 (by decide) ?_
        obtain ⟨r_7, hc, h⟩ := bnd_some h
        refine r_vI (dc := 2) (As := [.int 44]) (rest := []) C hw vX7_163 km0 (by decide) rfl (fun sz => c_X7_is hx hc sz) (by decide) rfl rfl hl.1 (Nat.le_of_ble_eq_true rfl) dX7_readTable_182 ⟨Nat.le_refl _, Nat.le_refl _⟩ (fun H locs hw => ?_)
        refine lv_if_eq (tgt := 192) C.1.1 C.1.2.1 dX7_readTable_185 (by decide) (fun hc => ?_) (fun hc => ?_)
        · replace h := ite_pos' h hc
          exact w_X7_readTable_192 kb156 hk156 C hx hw (lv_sub hl [0, 1] rfl) h
        · replace h := ite_neg' h hc
          refine lv_iconst (v := 1) C.1.1 C.1.2.1 dX7_readTable_188 (by decide) ?_
          refine lv_goto (tgt := 193) C.1.1 C.1.2.1 dX7_readTable_189 (by decide) ?_
          exact w_X7_readTable_193 kb156 hk156 C hx hw (lv_sub hl [0, 1] rfl) h
set_option maxHeartbeats 4000000 in
set_option maxRecDepth 100000 in
theorem w_X7_readTable_156L {x1 : Int32} {gz : GM} (C : CX p s m args meth c RX7 yX7_readTable cX7_readTable 3 none D cA) (hx : HM hr ad) : ∀ (n : Nat) (x2 : Int32) (g : GM) (H : Heap) (locs : List Loc) (ls : Array Slot), WS D cA ev hr ad A KM s H locs g → lv_has ls 3 [(0, .ref (ad 0)), (1, .int x1), (2, .int x2)] → fixN (F_X7_readTable_156B x1) n (x2, g) = some gz → W p l e (RM 4 0 0) s m args below meth c H locs 0 0 (MQ below (QV D cA ev hr ad A KM gz) args s 0 0 A) (F0 m 156 ls []) := by
  intro n
  induction n with
  | zero => intro x2 g H locs ls hw hl h; exact (fix_zero h).elim
  | succ n ih => intro x2 g H locs ls hw hl h; exact w_X7_readTable_156 (fixN (F_X7_readTable_156B x1) n) ih C hx hw hl h
set_option maxHeartbeats 4000000 in
set_option maxRecDepth 100000 in
theorem w_X7_readTable_78 {g : GM} {gz : GM} (C : CX p s m args meth c RX7 yX7_readTable cX7_readTable 3 none D cA) (hx : HM hr ad) {H : Heap} {locs : List Loc} (hw : WS D cA ev hr ad A KM s H locs g) {ls : Array Slot} (hl : lv_has ls 3 [(0, .ref (ad 0))]) (h : F_X7_readTable_78 g = some gz) : W p l e (RM 4 0 0) s m args below meth c H locs 0 0 (MQ below (QV D cA ev hr ad A KM gz) args s 0 0 A) (F0 m 78 ls []) := by
  refine lv_aload_n C.1.1 C.1.2.1 dX7_readTable_78 rfl (lv_at hl 0 rfl) ?_
  obtain ⟨r_8, hc, h⟩ := bnd_some h
  refine r_vI (dc := 1) (As := []) (rest := []) C hw vX7_81 km0 (by decide) rfl (fun sz => c_X7_isGood hx hc sz) (by decide) rfl rfl hl.1 (Nat.le_of_ble_eq_true rfl) dX7_readTable_79 ⟨Nat.le_refl _, Nat.le_refl _⟩ (fun H locs hw => ?_)
  refine lv_if_ne (tgt := 86) C.1.1 C.1.2.1 dX7_readTable_82 (by decide) (fun hc => ?_) (fun hc => ?_)
  · replace h := ite_neg' h hc
    refine lv_iconst (v := 5) C.1.1 C.1.2.1 dX7_readTable_86 (by decide) ?_
    refine lv_aload_n C.1.1 C.1.2.1 dX7_readTable_87 rfl (lv_at hl 0 rfl) ?_
    refine r_getI C hw km0 fX7_119 rfl dX7_readTable_88 ?_
    refine lv_imul C.1.1 C.1.2.1 dX7_readTable_91 ?_
    refine lv_aload_n C.1.1 C.1.2.1 dX7_readTable_92 rfl (lv_at hl 0 rfl) ?_
    refine r_getR (v := .ref (ad 12)) C hw km0 fX7_98 rfl (hm21 hx) dX7_readTable_93 ?_
    refine lv_aload_n C.1.1 C.1.2.1 dX7_readTable_96 rfl (lv_at hl 0 rfl) ?_
    refine r_getI C hw km0 fX7_119 rfl dX7_readTable_97 ?_
    obtain ⟨hz, h⟩ := ck_some h
    refine r_iald C hw km12 (inB_in hz) dX7_readTable_100 ?_
    refine lv_iadd C.1.1 C.1.2.1 dX7_readTable_101 ?_
    refine lv_istore_n (lv' := [(1, .int ((5 * (gi g 0 24)) + (gi g 12 (gi g 0 24).toNatClampNeg))), (0, .ref (ad 0))]) C.1.1 C.1.2.1 dX7_readTable_102 rfl hl (by decide) rfl (fun ls hl => ?_)
    refine lt_gen (P := fun x => lv_has ls 3 [(1, .int x), (0, .ref (ad 0))]) h hl (fun x1_9 h hl => ?_)
    refine lv_aload_n C.1.1 C.1.2.1 dX7_readTable_103 rfl (lv_at hl 1 rfl) ?_
    refine r_getR (v := .ref (ad 3)) C hw km0 fX7_102 rfl (hm12 hx) dX7_readTable_104 ?_
    refine lv_iload_n C.1.1 C.1.2.1 dX7_readTable_107 rfl (lv_at hl 0 rfl) ?_
    refine lv_aload_n C.1.1 C.1.2.1 dX7_readTable_108 rfl (lv_at hl 1 rfl) ?_
    refine r_getL C hw km0 fX7_60 rfl dX7_readTable_109 ?_
    obtain ⟨hz, h⟩ := ck_some h
    refine r_last C hw km3 (inB_in hz) dX7_readTable_112 (fun H locs hw => ?_)
    refine lt_gen (P := fun g => WS D cA ev hr ad A KM s H locs g) h hw (fun g_10 h hw => ?_)
    refine lv_aload_n C.1.1 C.1.2.1 dX7_readTable_113 rfl (lv_at hl 1 rfl) ?_
    refine r_getR (v := .ref (ad 5)) C hw km0 fX7_106 rfl (hm14 hx) dX7_readTable_114 ?_
    refine lv_iload_n C.1.1 C.1.2.1 dX7_readTable_117 rfl (lv_at hl 0 rfl) ?_
    refine lv_iconst (v := 0) C.1.1 C.1.2.1 dX7_readTable_118 (by decide) ?_
    obtain ⟨hz, h⟩ := ck_some h
    refine r_iast C hw km5 (inB_in hz) dX7_readTable_119 (fun H locs hw => ?_)
    refine lt_gen (P := fun g => WS D cA ev hr ad A KM s H locs g) h hw (fun g_11 h hw => ?_)
    refine lv_aload_n C.1.1 C.1.2.1 dX7_readTable_120 rfl (lv_at hl 1 rfl) ?_
    refine r_getR (v := .ref (ad 6)) C hw km0 fX7_160 rfl (hm15 hx) dX7_readTable_121 ?_
    refine lv_iload_n C.1.1 C.1.2.1 dX7_readTable_124 rfl (lv_at hl 0 rfl) ?_
    refine lv_iconst (v := 0) C.1.1 C.1.2.1 dX7_readTable_125 (by decide) ?_
    obtain ⟨hz, h⟩ := ck_some h
    refine r_iast C hw km6 (inB_in hz) dX7_readTable_126 (fun H locs hw => ?_)
    refine lt_gen (P := fun g => WS D cA ev hr ad A KM s H locs g) h hw (fun g_12 h hw => ?_)
    refine lv_aload_n C.1.1 C.1.2.1 dX7_readTable_127 rfl (lv_at hl 1 rfl) ?_
    refine r_getR (v := .ref (ad 12)) C hw km0 fX7_98 rfl (hm21 hx) dX7_readTable_128 ?_
    refine lv_aload_n C.1.1 C.1.2.1 dX7_readTable_131 rfl (lv_at hl 1 rfl) ?_
    refine r_getI C hw km0 fX7_119 rfl dX7_readTable_132 ?_
    refine lv_dup2_11 C.1.1 C.1.2.1 dX7_readTable_135 rfl rfl ?_
    obtain ⟨hz, h⟩ := ck_some h
    refine r_iald C hw km12 (inB_in hz) dX7_readTable_136 ?_
    refine lv_iconst (v := 1) C.1.1 C.1.2.1 dX7_readTable_137 (by decide) ?_
    refine lv_iadd C.1.1 C.1.2.1 dX7_readTable_138 ?_
    obtain ⟨hz, h⟩ := ck_some h
    refine r_iast C hw km12 (inB_in hz) dX7_readTable_139 (fun H locs hw => ?_)
    refine lt_gen (P := fun g => WS D cA ev hr ad A KM s H locs g) h hw (fun g_13 h hw => ?_)
    refine lv_aload_n C.1.1 C.1.2.1 dX7_readTable_140 rfl (lv_at hl 1 rfl) ?_
    obtain ⟨g_14, hc, h⟩ := bnd_some h
    refine r_vV (dc := 2) (As := []) (rest := []) C hw vX7_85 km0 (by decide) rfl (fun sz => c_X7_next hx hc sz) (by decide) rfl rfl hl.1 (Nat.le_of_ble_eq_true rfl) dX7_readTable_141 ⟨Nat.le_refl _, Nat.le_refl _⟩ (fun H locs hw => ?_)
    refine lv_aload_n C.1.1 C.1.2.1 dX7_readTable_144 rfl (lv_at hl 1 rfl) ?_
    refine lv_aload_n C.1.1 C.1.2.1 dX7_readTable_145 rfl (lv_at hl 1 rfl) ?_
    refine lv_bipush (v := 58) C.1.1 C.1.2.1 dX7_readTable_146 (by decide) ?_
    obtain ⟨r_15, hc, h⟩ := bnd_some h
    refine r_vI (dc := 2) (As := [.int 58]) (rest := [.ref (ad 0)]) C hw vX7_163 km0 (by decide) rfl (fun sz => c_X7_is hx hc sz) (by decide) rfl rfl hl.1 (Nat.le_of_ble_eq_true rfl) dX7_readTable_148 ⟨Nat.le_refl _, Nat.le_refl _⟩ (fun H locs hw => ?_)
    obtain ⟨g_16, hc, h⟩ := bnd_some h
    refine r_vV (dc := 3) (As := [.int r_15]) (rest := []) C hw vX7_166 km0 (by decide) rfl (fun sz => c_X7_must hx hc sz) (by decide) rfl rfl hl.1 (Nat.le_of_ble_eq_true rfl) dX7_readTable_151 ⟨Nat.le_refl _, Nat.le_refl _⟩ (fun H locs hw => ?_)
    refine lv_iconst (v := 1) C.1.1 C.1.2.1 dX7_readTable_154 (by decide) ?_
    refine lv_istore_n (lv' := [(2, .int 1), (1, .int x1_9), (0, .ref (ad 0))]) C.1.1 C.1.2.1 dX7_readTable_155 rfl hl (by decide) rfl (fun ls hl => ?_)
    exact w_X7_readTable_156L C hx FU _ _ _ _ _ hw (lv_sub hl [2, 1, 0] rfl) h
  · replace h := ite_pos' h hc
    cases h
    exact r_vret C hw rfl dX7_readTable_85
set_option maxHeartbeats 4000000 in
set_option maxRecDepth 100000 in
theorem w_X7_readTable_47 {g : GM} {gz : GM} (C : CX p s m args meth c RX7 yX7_readTable cX7_readTable 3 none D cA) (hx : HM hr ad) {H : Heap} {locs : List Loc} (hw : WS D cA ev hr ad A KM s H locs g) {ls : Array Slot} (hl : lv_has ls 3 [(0, .ref (ad 0))]) (h : F_X7_readTable_47 g = some gz) : W p l e (RM 4 0 0) s m args below meth c H locs 0 0 (MQ below (QV D cA ev hr ad A KM gz) args s 0 0 A) (F0 m 47 ls []) := by
  refine lv_aload_n C.1.1 C.1.2.1 dX7_readTable_47 rfl (lv_at hl 0 rfl) ?_
  obtain ⟨r_17, hc, h⟩ := bnd_some h
  refine r_vI (dc := 1) (As := []) (rest := []) C hw vX7_81 km0 (by decide) rfl (fun sz => c_X7_isGood hx hc sz) (by decide) rfl rfl hl.1 (Nat.le_of_ble_eq_true rfl) dX7_readTable_48 ⟨Nat.le_refl _, Nat.le_refl _⟩ (fun H locs hw => ?_)
  refine lv_if_eq (tgt := 78) C.1.1 C.1.2.1 dX7_readTable_51 (by decide) (fun hc => ?_) (fun hc => ?_)
  · replace h := ite_pos' h hc
    exact w_X7_readTable_78 C hx hw hl h
  · replace h := ite_neg' h hc
    refine lv_aload_n C.1.1 C.1.2.1 dX7_readTable_54 rfl (lv_at hl 0 rfl) ?_
    refine lv_aload_n C.1.1 C.1.2.1 dX7_readTable_55 rfl (lv_at hl 0 rfl) ?_
    refine r_getI C hw km0 fX7_119 rfl dX7_readTable_56 ?_
    refine lv_aload_n C.1.1 C.1.2.1 dX7_readTable_59 rfl (lv_at hl 0 rfl) ?_
    refine r_getL C hw km0 fX7_60 rfl dX7_readTable_60 ?_
    obtain ⟨r_18, hc, h⟩ := bnd_some h
    refine r_vI (dc := 1) (As := [.int (gi g 0 24), .long (gl g 0 10)]) (rest := []) C hw vX7_156 km0 (by decide) rfl (fun sz => c_X7_tableOf hx hc sz) (by decide) rfl rfl hl.1 (Nat.le_of_ble_eq_true rfl) dX7_readTable_63 ⟨Nat.le_refl _, Nat.le_refl _⟩ (fun H locs hw => ?_)
    refine lv_if_lt (tgt := 78) C.1.1 C.1.2.1 dX7_readTable_66 (by decide) (fun hc => ?_) (fun hc => ?_)
    · replace h := ite_pos' h hc
      exact w_X7_readTable_78 C hx hw hl h
    · replace h := ite_neg' h hc
      refine lv_aload_n C.1.1 C.1.2.1 dX7_readTable_69 rfl (lv_at hl 0 rfl) ?_
      refine lv_iconst (v := 3) C.1.1 C.1.2.1 dX7_readTable_70 (by decide) ?_
      refine lv_aload_n C.1.1 C.1.2.1 dX7_readTable_71 rfl (lv_at hl 0 rfl) ?_
      refine r_getI C hw km0 fX7_46 rfl dX7_readTable_72 ?_
      obtain ⟨g_19, hc, h⟩ := bnd_some h
      refine r_vV (dc := 1) (As := [.int 3, .int (gi g 0 6)]) (rest := []) C hw vX7_77 km0 (by decide) rfl (fun sz => c_X7_fails hx hc sz) (by decide) rfl rfl hl.1 (Nat.le_of_ble_eq_true rfl) dX7_readTable_75 ⟨Nat.le_refl _, Nat.le_refl _⟩ (fun H locs hw => ?_)
      exact w_X7_readTable_78 C hx hw hl h
set_option maxHeartbeats 4000000 in
set_option maxRecDepth 100000 in
theorem w_X7_readTable_28 {g : GM} {gz : GM} (C : CX p s m args meth c RX7 yX7_readTable cX7_readTable 3 none D cA) (hx : HM hr ad) {H : Heap} {locs : List Loc} (hw : WS D cA ev hr ad A KM s H locs g) {ls : Array Slot} (hl : lv_has ls 3 [(0, .ref (ad 0))]) (h : F_X7_readTable_28 g = some gz) : W p l e (RM 4 0 0) s m args below meth c H locs 0 0 (MQ below (QV D cA ev hr ad A KM gz) args s 0 0 A) (F0 m 28 ls []) := by
  refine lv_aload_n C.1.1 C.1.2.1 dX7_readTable_28 rfl (lv_at hl 0 rfl) ?_
  obtain ⟨r_20, hc, h⟩ := bnd_some h
  refine r_vI (dc := 1) (As := []) (rest := []) C hw vX7_81 km0 (by decide) rfl (fun sz => c_X7_isGood hx hc sz) (by decide) rfl rfl hl.1 (Nat.le_of_ble_eq_true rfl) dX7_readTable_29 ⟨Nat.le_refl _, Nat.le_refl _⟩ (fun H locs hw => ?_)
  refine lv_if_eq (tgt := 47) C.1.1 C.1.2.1 dX7_readTable_32 (by decide) (fun hc => ?_) (fun hc => ?_)
  · replace h := ite_pos' h hc
    exact w_X7_readTable_47 C hx hw hl h
  · replace h := ite_neg' h hc
    refine lv_aload_n C.1.1 C.1.2.1 dX7_readTable_35 rfl (lv_at hl 0 rfl) ?_
    refine r_getI C hw km0 fX7_53 rfl dX7_readTable_36 ?_
    refine lv_iconst (v := 2) C.1.1 C.1.2.1 dX7_readTable_39 (by decide) ?_
    refine lv_icmp_eq (tgt := 47) C.1.1 C.1.2.1 dX7_readTable_40 (by decide) (fun hc => ?_) (fun hc => ?_)
    · replace h := ite_pos' h hc
      exact w_X7_readTable_47 C hx hw hl h
    · replace h := ite_neg' h hc
      refine lv_aload_n C.1.1 C.1.2.1 dX7_readTable_43 rfl (lv_at hl 0 rfl) ?_
      obtain ⟨g_21, hc, h⟩ := bnd_some h
      refine r_vV (dc := 2) (As := []) (rest := []) C hw vX7_89 km0 (by decide) rfl (fun sz => c_X7_wrong hx hc sz) (by decide) rfl rfl hl.1 (Nat.le_of_ble_eq_true rfl) dX7_readTable_44 ⟨Nat.le_refl _, Nat.le_refl _⟩ (fun H locs hw => ?_)
      exact w_X7_readTable_47 C hx hw hl h
set_option maxHeartbeats 4000000 in
set_option maxRecDepth 100000 in
theorem w_X7_readTable_17 {g : GM} {gz : GM} (C : CX p s m args meth c RX7 yX7_readTable cX7_readTable 3 none D cA) (hx : HM hr ad) {H : Heap} {locs : List Loc} (hw : WS D cA ev hr ad A KM s H locs g) {ls : Array Slot} (hl : lv_has ls 3 [(0, .ref (ad 0))]) (h : F_X7_readTable_17 g = some gz) : W p l e (RM 4 0 0) s m args below meth c H locs 0 0 (MQ below (QV D cA ev hr ad A KM gz) args s 0 0 A) (F0 m 17 ls []) := by
  refine lv_aload_n C.1.1 C.1.2.1 dX7_readTable_17 rfl (lv_at hl 0 rfl) ?_
  obtain ⟨r_22, hc, h⟩ := bnd_some h
  refine r_vI (dc := 1) (As := []) (rest := []) C hw vX7_81 km0 (by decide) rfl (fun sz => c_X7_isGood hx hc sz) (by decide) rfl rfl hl.1 (Nat.le_of_ble_eq_true rfl) dX7_readTable_18 ⟨Nat.le_refl _, Nat.le_refl _⟩ (fun H locs hw => ?_)
  refine lv_if_eq (tgt := 28) C.1.1 C.1.2.1 dX7_readTable_21 (by decide) (fun hc => ?_) (fun hc => ?_)
  · replace h := ite_pos' h hc
    exact w_X7_readTable_28 C hx hw hl h
  · replace h := ite_neg' h hc
    refine lv_aload_n C.1.1 C.1.2.1 dX7_readTable_24 rfl (lv_at hl 0 rfl) ?_
    obtain ⟨g_23, hc, h⟩ := bnd_some h
    refine r_vV (dc := 2) (As := []) (rest := []) C hw vX7_85 km0 (by decide) rfl (fun sz => c_X7_next hx hc sz) (by decide) rfl rfl hl.1 (Nat.le_of_ble_eq_true rfl) dX7_readTable_25 ⟨Nat.le_refl _, Nat.le_refl _⟩ (fun H locs hw => ?_)
    exact w_X7_readTable_28 C hx hw hl h
set_option maxHeartbeats 4000000 in
set_option maxRecDepth 100000 in
theorem w_X7_readTable_0 (C : CX p s m args meth c RX7 yX7_readTable cX7_readTable 3 none D cA) (hx : HM hr ad) {H : Heap} {locs : List Loc} {g : GM} (hw : WS D cA ev hr ad A KM s H locs g) {ls : Array Slot} (hl : lv_has ls 3 [(0, .ref (ad 0))]) {gz : GM} (h : F_X7_readTable g = some gz) : W p l e (RM 4 0 0) s m args below meth c H locs 0 0 (MQ below (QV D cA ev hr ad A KM gz) args s 0 0 A) (F0 m 0 ls []) := by
  refine lv_aload_n C.1.1 C.1.2.1 dX7_readTable_0 rfl (lv_at hl 0 rfl) ?_
  refine r_getR (v := .ref (ad 12)) C hw km0 fX7_98 rfl (hm21 hx) dX7_readTable_1 ?_
  refine lv_aload_n C.1.1 C.1.2.1 dX7_readTable_4 rfl (lv_at hl 0 rfl) ?_
  refine r_getI C hw km0 fX7_119 rfl dX7_readTable_5 ?_
  obtain ⟨hz, h⟩ := ck_some h
  refine r_iald C hw km12 (inB_in hz) dX7_readTable_8 ?_
  refine lv_iconst (v := 5) C.1.1 C.1.2.1 dX7_readTable_9 (by decide) ?_
  refine lv_icmp_ne (tgt := 17) C.1.1 C.1.2.1 dX7_readTable_10 (by decide) (fun hc => ?_) (fun hc => ?_)
  · replace h := ite_neg' h hc
    exact w_X7_readTable_17 C hx hw hl h
  · replace h := ite_pos' h hc
    refine lv_aload_n C.1.1 C.1.2.1 dX7_readTable_13 rfl (lv_at hl 0 rfl) ?_
    obtain ⟨g_24, hc, h⟩ := bnd_some h
    refine r_vV (dc := 2) (As := []) (rest := []) C hw vX7_89 km0 (by decide) rfl (fun sz => c_X7_wrong hx hc sz) (by decide) rfl rfl hl.1 (Nat.le_of_ble_eq_true rfl) dX7_readTable_14 ⟨Nat.le_refl _, Nat.le_refl _⟩ (fun H locs hw => ?_)
    exact w_X7_readTable_17 C hx hw hl h
set_option maxHeartbeats 4000000 in
set_option maxRecDepth 100000 in
theorem c_X7_readTable (hx : HM hr ad) {g : GM} {gz : GM} (h : F_X7_readTable g = some gz) (sz : Nat) : Met l yX7_readTable (WSX yX7_readTable cX7_readTable 3 none) (RM 4 0 0) (va_Pc [.ref (ad 0)] (PX D cA ev hr ad KM g sz)) (QV D cA ev hr ad (AX ad KM.length sz) KM gz) 0 0 (AX ad KM.length sz) :=
  met_of (own := RX7) pnX7 rfl (Nat.le_of_ble_eq_true rfl) (fun p e s m below meth c ls C hw hsz hl => w_X7_readTable_0 C hx hw hl h)
set_option maxHeartbeats 4000000 in
set_option maxRecDepth 100000 in
theorem w_X7_readValue_69 {s0 : Int32} {g : GM} {gz : GM} (C : CX p s m args meth c RX7 yX7_readValue cX7_readValue 3 none D cA) (hx : HM hr ad) {H : Heap} {locs : List Loc} (hw : WS D cA ev hr ad A KM s H locs g) {ls : Array Slot} (hl : lv_has ls 3 []) (h : F_X7_readValue_69 s0 g = some gz) : W p l e (RM 4 0 0) s m args below meth c H locs 0 0 (MQ below (QV D cA ev hr ad A KM gz) args s 0 0 A) (F0 m 69 ls [.int s0, .ref (ad 0)]) := by
  obtain ⟨g_1, hc, h⟩ := bnd_some h
  refine r_vV (dc := 3) (As := [.int s0]) (rest := []) C hw vX7_166 km0 (by decide) rfl (fun sz => c_X7_must hx hc sz) (by decide) rfl rfl hl.1 (Nat.le_of_ble_eq_true rfl) dX7_readValue_69 ⟨Nat.le_refl _, Nat.le_refl _⟩ (fun H locs hw => ?_)
  cases h
  exact r_vret C hw rfl dX7_readValue_72
set_option maxHeartbeats 4000000 in
set_option maxRecDepth 100000 in
theorem w_X7_readValue_35 {x1 : Int32} {g : GM} {gz : GM} (C : CX p s m args meth c RX7 yX7_readValue cX7_readValue 3 none D cA) (hx : HM hr ad) {H : Heap} {locs : List Loc} (hw : WS D cA ev hr ad A KM s H locs g) {ls : Array Slot} (hl : lv_has ls 3 [(0, .ref (ad 0)), (1, .int x1)]) (h : F_X7_readValue_35 x1 g = some gz) : W p l e (RM 4 0 0) s m args below meth c H locs 0 0 (MQ below (QV D cA ev hr ad A KM gz) args s 0 0 A) (F0 m 35 ls []) := by
  refine lv_aload_n C.1.1 C.1.2.1 dX7_readValue_35 rfl (lv_at hl 0 rfl) ?_
  refine r_getR (v := .ref (ad 11)) C hw km0 fX7_191 rfl (hm20 hx) dX7_readValue_36 ?_
  refine lv_iload_n C.1.1 C.1.2.1 dX7_readValue_39 rfl (lv_at hl 1 rfl) ?_
  refine lv_aload_n C.1.1 C.1.2.1 dX7_readValue_40 rfl (lv_at hl 0 rfl) ?_
  refine r_getI C hw km0 fX7_46 rfl dX7_readValue_41 ?_
  obtain ⟨hz, h⟩ := ck_some h
  refine r_iast C hw km11 (inB_in hz) dX7_readValue_44 (fun H locs hw => ?_)
  refine lt_gen (P := fun g => WS D cA ev hr ad A KM s H locs g) h hw (fun g_2 h hw => ?_)
  refine lv_aload_n C.1.1 C.1.2.1 dX7_readValue_45 rfl (lv_at hl 0 rfl) ?_
  refine r_getR (v := .ref (ad 10)) C hw km0 fX7_188 rfl (hm19 hx) dX7_readValue_46 ?_
  refine lv_iload_n C.1.1 C.1.2.1 dX7_readValue_49 rfl (lv_at hl 1 rfl) ?_
  refine lv_aload_n C.1.1 C.1.2.1 dX7_readValue_50 rfl (lv_at hl 0 rfl) ?_
  refine r_getI C hw km0 fX7_71 rfl dX7_readValue_51 ?_
  obtain ⟨hz, h⟩ := ck_some h
  refine r_iast C hw km10 (inB_in hz) dX7_readValue_54 (fun H locs hw => ?_)
  refine lt_gen (P := fun g => WS D cA ev hr ad A KM s H locs g) h hw (fun g_3 h hw => ?_)
  refine lv_aload_n C.1.1 C.1.2.1 dX7_readValue_55 rfl (lv_at hl 0 rfl) ?_
  refine lv_aload_n C.1.1 C.1.2.1 dX7_readValue_56 rfl (lv_at hl 0 rfl) ?_
  refine r_getI C hw km0 fX7_53 rfl dX7_readValue_57 ?_
  refine lv_iconst (v := 4) C.1.1 C.1.2.1 dX7_readValue_60 (by decide) ?_
  refine lv_icmp_ne (tgt := 68) C.1.1 C.1.2.1 dX7_readValue_61 (by decide) (fun hc => ?_) (fun hc => ?_)
  · replace h := ite_neg' h hc
    refine lv_iconst (v := 0) C.1.1 C.1.2.1 dX7_readValue_68 (by decide) ?_
    exact w_X7_readValue_69 C hx hw (lv_sub hl [] rfl) h
  · replace h := ite_pos' h hc
    refine lv_iconst (v := 1) C.1.1 C.1.2.1 dX7_readValue_64 (by decide) ?_
    refine lv_goto (tgt := 69) C.1.1 C.1.2.1 dX7_readValue_65 (by decide) ?_
    exact w_X7_readValue_69 C hx hw (lv_sub hl [] rfl) h
set_option maxHeartbeats 4000000 in
set_option maxRecDepth 100000 in
theorem w_X7_readValue_0 (C : CX p s m args meth c RX7 yX7_readValue cX7_readValue 3 none D cA) (hx : HM hr ad) {H : Heap} {locs : List Loc} {g : GM} (hw : WS D cA ev hr ad A KM s H locs g) {a1 : Int32} {a2 : Int32} {ls : Array Slot} (hl : lv_has ls 3 [(0, .ref (ad 0)), (1, .int a1), (2, .int a2)]) {gz : GM} (h : F_X7_readValue a1 a2 g = some gz) : W p l e (RM 4 0 0) s m args below meth c H locs 0 0 (MQ below (QV D cA ev hr ad A KM gz) args s 0 0 A) (F0 m 0 ls []) := by
  refine lv_aload_n C.1.1 C.1.2.1 dX7_readValue_0 rfl (lv_at hl 0 rfl) ?_
  refine r_getR (v := .ref (ad 10)) C hw km0 fX7_188 rfl (hm19 hx) dX7_readValue_1 ?_
  refine lv_iload_n C.1.1 C.1.2.1 dX7_readValue_4 rfl (lv_at hl 1 rfl) ?_
  refine lv_iconst (v := (-1)) C.1.1 C.1.2.1 dX7_readValue_5 (by decide) ?_
  obtain ⟨hz, h⟩ := ck_some h
  refine r_iast C hw km10 (inB_in hz) dX7_readValue_6 (fun H locs hw => ?_)
  refine lt_gen (P := fun g => WS D cA ev hr ad A KM s H locs g) h hw (fun g_4 h hw => ?_)
  refine lv_aload_n C.1.1 C.1.2.1 dX7_readValue_7 rfl (lv_at hl 0 rfl) ?_
  refine lv_bipush (v := 45) C.1.1 C.1.2.1 dX7_readValue_8 (by decide) ?_
  obtain ⟨r_5, hc, h⟩ := bnd_some h
  refine r_vI (dc := 2) (As := [.int 45]) (rest := []) C hw vX7_163 km0 (by decide) rfl (fun sz => c_X7_is hx hc sz) (by decide) rfl rfl hl.1 (Nat.le_of_ble_eq_true rfl) dX7_readValue_10 ⟨Nat.le_refl _, Nat.le_refl _⟩ (fun H locs hw => ?_)
  refine lv_if_eq (tgt := 21) C.1.1 C.1.2.1 dX7_readValue_13 (by decide) (fun hc => ?_) (fun hc => ?_)
  · replace h := ite_pos' h hc
    refine lv_iload_n C.1.1 C.1.2.1 dX7_readValue_21 rfl (lv_at hl 2 rfl) ?_
    refine lv_if_eq (tgt := 35) C.1.1 C.1.2.1 dX7_readValue_22 (by decide) (fun hc => ?_) (fun hc => ?_)
    · replace h := ite_pos' h hc
      exact w_X7_readValue_35 C hx hw (lv_sub hl [0, 1] rfl) h
    · replace h := ite_neg' h hc
      refine lv_aload_n C.1.1 C.1.2.1 dX7_readValue_25 rfl (lv_at hl 0 rfl) ?_
      refine lv_aload_n C.1.1 C.1.2.1 dX7_readValue_26 rfl (lv_at hl 0 rfl) ?_
      refine lv_bipush (v := 35) C.1.1 C.1.2.1 dX7_readValue_27 (by decide) ?_
      obtain ⟨r_6, hc, h⟩ := bnd_some h
      refine r_vI (dc := 2) (As := [.int 35]) (rest := [.ref (ad 0)]) C hw vX7_163 km0 (by decide) rfl (fun sz => c_X7_is hx hc sz) (by decide) rfl rfl hl.1 (Nat.le_of_ble_eq_true rfl) dX7_readValue_29 ⟨Nat.le_refl _, Nat.le_refl _⟩ (fun H locs hw => ?_)
      obtain ⟨g_7, hc, h⟩ := bnd_some h
      refine r_vV (dc := 3) (As := [.int r_6]) (rest := []) C hw vX7_166 km0 (by decide) rfl (fun sz => c_X7_must hx hc sz) (by decide) rfl rfl hl.1 (Nat.le_of_ble_eq_true rfl) dX7_readValue_32 ⟨Nat.le_refl _, Nat.le_refl _⟩ (fun H locs hw => ?_)
      exact w_X7_readValue_35 C hx hw (lv_sub hl [0, 1] rfl) h
  · replace h := ite_neg' h hc
    refine lv_aload_n C.1.1 C.1.2.1 dX7_readValue_16 rfl (lv_at hl 0 rfl) ?_
    obtain ⟨g_8, hc, h⟩ := bnd_some h
    refine r_vV (dc := 2) (As := []) (rest := []) C hw vX7_85 km0 (by decide) rfl (fun sz => c_X7_next hx hc sz) (by decide) rfl rfl hl.1 (Nat.le_of_ble_eq_true rfl) dX7_readValue_17 ⟨Nat.le_refl _, Nat.le_refl _⟩ (fun H locs hw => ?_)
    cases h
    exact r_vret C hw rfl dX7_readValue_20
set_option maxHeartbeats 4000000 in
set_option maxRecDepth 100000 in
theorem c_X7_readValue (hx : HM hr ad) {a1 : Int32} {a2 : Int32} {g : GM} {gz : GM} (h : F_X7_readValue a1 a2 g = some gz) (sz : Nat) : Met l yX7_readValue (WSX yX7_readValue cX7_readValue 3 none) (RM 4 0 0) (va_Pc [.ref (ad 0), .int a1, .int a2] (PX D cA ev hr ad KM g sz)) (QV D cA ev hr ad (AX ad KM.length sz) KM gz) 0 0 (AX ad KM.length sz) :=
  met_of (own := RX7) pnX7 rfl (Nat.le_of_ble_eq_true rfl) (fun p e s m below meth c ls C hw hsz hl => w_X7_readValue_0 C hx hw hl h)
set_option maxHeartbeats 4000000 in
set_option maxRecDepth 100000 in
theorem w_X7_readRow_246 {x1 : Int32} {x2 : Int32} {g : GM} {gz : GM} (C : CX p s m args meth c RX7 yX7_readRow cX7_readRow 5 none D cA) (hx : HM hr ad) {H : Heap} {locs : List Loc} (hw : WS D cA ev hr ad A KM s H locs g) {ls : Array Slot} (hl : lv_has ls 5 [(0, .ref (ad 0)), (1, .int x1), (2, .int x2)]) (h : F_X7_readRow_246 x1 x2 g = some gz) : W p l e (RM 5 0 0) s m args below meth c H locs 0 0 (MQ below (QV D cA ev hr ad A KM gz) args s 0 0 A) (F0 m 246 ls []) := by
  refine lv_aload_n C.1.1 C.1.2.1 dX7_readRow_246 rfl (lv_at hl 0 rfl) ?_
  refine lv_aload_n C.1.1 C.1.2.1 dX7_readRow_247 rfl (lv_at hl 0 rfl) ?_
  refine lv_bipush (v := 59) C.1.1 C.1.2.1 dX7_readRow_248 (by decide) ?_
  obtain ⟨r_1, hc, h⟩ := bnd_some h
  refine r_vI (dc := 2) (As := [.int 59]) (rest := [.ref (ad 0)]) C hw vX7_163 km0 (by decide) rfl (fun sz => c_X7_is hx hc sz) (by decide) rfl rfl hl.1 (Nat.le_of_ble_eq_true rfl) dX7_readRow_250 ⟨Nat.le_refl _, Nat.le_refl _⟩ (fun H locs hw => ?_)
  obtain ⟨g_2, hc, h⟩ := bnd_some h
  refine r_vV (dc := 3) (As := [.int r_1]) (rest := []) C hw vX7_166 km0 (by decide) rfl (fun sz => c_X7_must hx hc sz) (by decide) rfl rfl hl.1 (Nat.le_of_ble_eq_true rfl) dX7_readRow_253 ⟨Nat.le_refl _, Nat.le_refl _⟩ (fun H locs hw => ?_)
  refine lv_aload_n C.1.1 C.1.2.1 dX7_readRow_256 rfl (lv_at hl 0 rfl) ?_
  refine r_getR (v := .ref (ad 8)) C hw km0 fX7_182 rfl (hm17 hx) dX7_readRow_257 ?_
  refine lv_iload_n C.1.1 C.1.2.1 dX7_readRow_260 rfl (lv_at hl 2 rfl) ?_
  refine lv_iload_n C.1.1 C.1.2.1 dX7_readRow_261 rfl (lv_at hl 1 rfl) ?_
  obtain ⟨hz, h⟩ := ck_some h
  refine r_iast C hw km8 (inB_in hz) dX7_readRow_262 (fun H locs hw => ?_)
  refine lt_gen (P := fun g => WS D cA ev hr ad A KM s H locs g) h hw (fun g_3 h hw => ?_)
  refine lv_aload_n C.1.1 C.1.2.1 dX7_readRow_263 rfl (lv_at hl 0 rfl) ?_
  refine r_getR (v := .ref (ad 9)) C hw km0 fX7_185 rfl (hm18 hx) dX7_readRow_264 ?_
  refine lv_iload_n C.1.1 C.1.2.1 dX7_readRow_267 rfl (lv_at hl 2 rfl) ?_
  refine lv_aload_n C.1.1 C.1.2.1 dX7_readRow_268 rfl (lv_at hl 0 rfl) ?_
  refine r_getR (v := .ref (ad 6)) C hw km0 fX7_160 rfl (hm15 hx) dX7_readRow_269 ?_
  refine lv_iload_n C.1.1 C.1.2.1 dX7_readRow_272 rfl (lv_at hl 1 rfl) ?_
  obtain ⟨hz, h⟩ := ck_some h
  refine r_iald C hw km6 (inB_in hz) dX7_readRow_273 ?_
  obtain ⟨hz, h⟩ := ck_some h
  refine r_iast C hw km9 (inB_in hz) dX7_readRow_274 (fun H locs hw => ?_)
  refine lt_gen (P := fun g => WS D cA ev hr ad A KM s H locs g) h hw (fun g_4 h hw => ?_)
  refine lv_aload_n C.1.1 C.1.2.1 dX7_readRow_275 rfl (lv_at hl 0 rfl) ?_
  refine r_getR (v := .ref (ad 6)) C hw km0 fX7_160 rfl (hm15 hx) dX7_readRow_276 ?_
  refine lv_iload_n C.1.1 C.1.2.1 dX7_readRow_279 rfl (lv_at hl 1 rfl) ?_
  refine lv_dup2_11 C.1.1 C.1.2.1 dX7_readRow_280 rfl rfl ?_
  obtain ⟨hz, h⟩ := ck_some h
  refine r_iald C hw km6 (inB_in hz) dX7_readRow_281 ?_
  refine lv_iconst (v := 1) C.1.1 C.1.2.1 dX7_readRow_282 (by decide) ?_
  refine lv_iadd C.1.1 C.1.2.1 dX7_readRow_283 ?_
  obtain ⟨hz, h⟩ := ck_some h
  refine r_iast C hw km6 (inB_in hz) dX7_readRow_284 (fun H locs hw => ?_)
  refine lt_gen (P := fun g => WS D cA ev hr ad A KM s H locs g) h hw (fun g_5 h hw => ?_)
  refine lv_aload_n C.1.1 C.1.2.1 dX7_readRow_285 rfl (lv_at hl 0 rfl) ?_
  refine r_getR (v := .ref (ad 13)) C hw km0 fX7_122 rfl (hm22 hx) dX7_readRow_286 ?_
  refine lv_aload_n C.1.1 C.1.2.1 dX7_readRow_289 rfl (lv_at hl 0 rfl) ?_
  refine r_getI C hw km0 fX7_119 rfl dX7_readRow_290 ?_
  refine lv_dup2_11 C.1.1 C.1.2.1 dX7_readRow_293 rfl rfl ?_
  obtain ⟨hz, h⟩ := ck_some h
  refine r_iald C hw km13 (inB_in hz) dX7_readRow_294 ?_
  refine lv_iconst (v := 1) C.1.1 C.1.2.1 dX7_readRow_295 (by decide) ?_
  refine lv_iadd C.1.1 C.1.2.1 dX7_readRow_296 ?_
  obtain ⟨hz, h⟩ := ck_some h
  refine r_iast C hw km13 (inB_in hz) dX7_readRow_297 (fun H locs hw => ?_)
  refine lt_gen (P := fun g => WS D cA ev hr ad A KM s H locs g) h hw (fun g_6 h hw => ?_)
  cases h
  exact r_vret C hw rfl dX7_readRow_298
set_option maxHeartbeats 4000000 in
set_option maxRecDepth 100000 in
theorem w_X7_readRow_225 {x1 : Int32} {x2 : Int32} {x3 : Int32} {g : GM} {gz : GM} (C : CX p s m args meth c RX7 yX7_readRow cX7_readRow 5 none D cA) (hx : HM hr ad) {H : Heap} {locs : List Loc} (hw : WS D cA ev hr ad A KM s H locs g) {ls : Array Slot} (hl : lv_has ls 5 [(0, .ref (ad 0)), (1, .int x1), (2, .int x2), (3, .int x3)]) (h : F_X7_readRow_225 x1 x2 x3 g = some gz) : W p l e (RM 5 0 0) s m args below meth c H locs 0 0 (MQ below (QV D cA ev hr ad A KM gz) args s 0 0 A) (F0 m 225 ls []) := by
  refine lv_aload_n C.1.1 C.1.2.1 dX7_readRow_225 rfl (lv_at hl 0 rfl) ?_
  obtain ⟨r_7, hc, h⟩ := bnd_some h
  refine r_vI (dc := 1) (As := []) (rest := []) C hw vX7_81 km0 (by decide) rfl (fun sz => c_X7_isGood hx hc sz) (by decide) rfl rfl hl.1 (Nat.le_of_ble_eq_true rfl) dX7_readRow_226 ⟨Nat.le_refl _, Nat.le_refl _⟩ (fun H locs hw => ?_)
  refine lv_if_eq (tgt := 246) C.1.1 C.1.2.1 dX7_readRow_229 (by decide) (fun hc => ?_) (fun hc => ?_)
  · replace h := ite_pos' h hc
    exact w_X7_readRow_246 C hx hw (lv_sub hl [0, 1, 2] rfl) h
  · replace h := ite_neg' h hc
    refine lv_iload_n C.1.1 C.1.2.1 dX7_readRow_232 rfl (lv_at hl 3 rfl) ?_
    refine lv_aload_n C.1.1 C.1.2.1 dX7_readRow_233 rfl (lv_at hl 0 rfl) ?_
    refine r_getR (v := .ref (ad 5)) C hw km0 fX7_106 rfl (hm14 hx) dX7_readRow_234 ?_
    refine lv_iload_n C.1.1 C.1.2.1 dX7_readRow_237 rfl (lv_at hl 1 rfl) ?_
    obtain ⟨hz, h⟩ := ck_some h
    refine r_iald C hw km5 (inB_in hz) dX7_readRow_238 ?_
    refine lv_icmp_ge (tgt := 246) C.1.1 C.1.2.1 dX7_readRow_239 (by decide) (fun hc => ?_) (fun hc => ?_)
    · replace h := ite_pos' h hc
      exact w_X7_readRow_246 C hx hw (lv_sub hl [0, 1, 2] rfl) h
    · replace h := ite_neg' h hc
      refine lv_aload_n C.1.1 C.1.2.1 dX7_readRow_242 rfl (lv_at hl 0 rfl) ?_
      obtain ⟨g_8, hc, h⟩ := bnd_some h
      refine r_vV (dc := 2) (As := []) (rest := []) C hw vX7_89 km0 (by decide) rfl (fun sz => c_X7_wrong hx hc sz) (by decide) rfl rfl hl.1 (Nat.le_of_ble_eq_true rfl) dX7_readRow_243 ⟨Nat.le_refl _, Nat.le_refl _⟩ (fun H locs hw => ?_)
      exact w_X7_readRow_246 C hx hw (lv_sub hl [0, 1, 2] rfl) h
set_option maxHeartbeats 4000000 in
set_option maxRecDepth 100000 in
theorem w_X7_readRow_211 {x1 : Int32} {x2 : Int32} {x3 : Int32} {s0 : Int32} {g : GM} {gz : GM} (kb127 : Int32 × Int32 × GM → Option (GM)) (hk127 : ∀ (x3 : Int32) (x4 : Int32) (g : GM) (H : Heap) (locs : List Loc) (ls : Array Slot), WS D cA ev hr ad A KM s H locs g → lv_has ls 5 [(0, .ref (ad 0)), (1, .int x1), (2, .int x2), (3, .int x3), (4, .int x4)] → kb127 (x3, x4, g) = some gz → W p l e (RM 5 0 0) s m args below meth c H locs 0 0 (MQ below (QV D cA ev hr ad A KM gz) args s 0 0 A) (F0 m 127 ls [])) (C : CX p s m args meth c RX7 yX7_readRow cX7_readRow 5 none D cA) (hx : HM hr ad) {H : Heap} {locs : List Loc} (hw : WS D cA ev hr ad A KM s H locs g) {ls : Array Slot} (hl : lv_has ls 5 [(0, .ref (ad 0)), (1, .int x1), (2, .int x2), (3, .int x3)]) (h : F_X7_readRow_211 kb127 x1 x2 x3 s0 g = some gz) : W p l e (RM 5 0 0) s m args below meth c H locs 0 0 (MQ below (QV D cA ev hr ad A KM gz) args s 0 0 A) (F0 m 211 ls [.int s0]) := by
  refine lv_istore (lv' := [(4, .int s0), (0, .ref (ad 0)), (1, .int x1), (2, .int x2), (3, .int x3)]) C.1.1 C.1.2.1 dX7_readRow_211 hl (by decide) rfl (fun ls hl => ?_)
  refine lv_iload C.1.1 C.1.2.1 dX7_readRow_213 (lv_at hl 0 rfl) ?_
  refine lv_if_eq (tgt := 127) C.1.1 C.1.2.1 dX7_readRow_215 (by decide) (fun hc => ?_) (fun hc => ?_)
  · replace h := ite_pos' h hc
    exact hk127 _ _ _ _ _ _ hw (lv_sub hl [1, 2, 3, 4, 0] rfl) h
  · replace h := ite_neg' h hc
    refine lv_aload_n C.1.1 C.1.2.1 dX7_readRow_218 rfl (lv_at hl 1 rfl) ?_
    obtain ⟨g_9, hc, h⟩ := bnd_some h
    refine r_vV (dc := 2) (As := []) (rest := []) C hw vX7_85 km0 (by decide) rfl (fun sz => c_X7_next hx hc sz) (by decide) rfl rfl hl.1 (Nat.le_of_ble_eq_true rfl) dX7_readRow_219 ⟨Nat.le_refl _, Nat.le_refl _⟩ (fun H locs hw => ?_)
    refine lv_goto (tgt := 127) C.1.1 C.1.2.1 dX7_readRow_222 (by decide) ?_
    exact hk127 _ _ _ _ _ _ hw (lv_sub hl [1, 2, 3, 4, 0] rfl) h
set_option maxHeartbeats 4000000 in
set_option maxRecDepth 100000 in
theorem w_X7_readRow_210 {x1 : Int32} {x2 : Int32} {x3 : Int32} {g : GM} {gz : GM} (kb127 : Int32 × Int32 × GM → Option (GM)) (hk127 : ∀ (x3 : Int32) (x4 : Int32) (g : GM) (H : Heap) (locs : List Loc) (ls : Array Slot), WS D cA ev hr ad A KM s H locs g → lv_has ls 5 [(0, .ref (ad 0)), (1, .int x1), (2, .int x2), (3, .int x3), (4, .int x4)] → kb127 (x3, x4, g) = some gz → W p l e (RM 5 0 0) s m args below meth c H locs 0 0 (MQ below (QV D cA ev hr ad A KM gz) args s 0 0 A) (F0 m 127 ls [])) (C : CX p s m args meth c RX7 yX7_readRow cX7_readRow 5 none D cA) (hx : HM hr ad) {H : Heap} {locs : List Loc} (hw : WS D cA ev hr ad A KM s H locs g) {ls : Array Slot} (hl : lv_has ls 5 [(0, .ref (ad 0)), (1, .int x1), (2, .int x2), (3, .int x3)]) (h : F_X7_readRow_210 kb127 x1 x2 x3 g = some gz) : W p l e (RM 5 0 0) s m args below meth c H locs 0 0 (MQ below (QV D cA ev hr ad A KM gz) args s 0 0 A) (F0 m 210 ls []) := by
  refine lv_iconst (v := 0) C.1.1 C.1.2.1 dX7_readRow_210 (by decide) ?_
  exact w_X7_readRow_211 kb127 hk127 C hx hw hl h
set_option maxHeartbeats 4000000 in
set_option maxRecDepth 100000 in
theorem w_X7_readRow_187 {x1 : Int32} {x2 : Int32} {x3 : Int32} {g : GM} {gz : GM} (kb127 : Int32 × Int32 × GM → Option (GM)) (hk127 : ∀ (x3 : Int32) (x4 : Int32) (g : GM) (H : Heap) (locs : List Loc) (ls : Array Slot), WS D cA ev hr ad A KM s H locs g → lv_has ls 5 [(0, .ref (ad 0)), (1, .int x1), (2, .int x2), (3, .int x3), (4, .int x4)] → kb127 (x3, x4, g) = some gz → W p l e (RM 5 0 0) s m args below meth c H locs 0 0 (MQ below (QV D cA ev hr ad A KM gz) args s 0 0 A) (F0 m 127 ls [])) (C : CX p s m args meth c RX7 yX7_readRow cX7_readRow 5 none D cA) (hx : HM hr ad) {H : Heap} {locs : List Loc} (hw : WS D cA ev hr ad A KM s H locs g) {ls : Array Slot} (hl : lv_has ls 5 [(0, .ref (ad 0)), (1, .int x1), (2, .int x2), (3, .int x3)]) (h : F_X7_readRow_187 kb127 x1 x2 x3 g = some gz) : W p l e (RM 5 0 0) s m args below meth c H locs 0 0 (MQ below (QV D cA ev hr ad A KM gz) args s 0 0 A) (F0 m 187 ls []) := by
  refine lv_iinc (v := x3 + 1) (lv' := [(3, .int (x3 + 1)), (0, .ref (ad 0)), (1, .int x1), (2, .int x2)]) C.1.1 C.1.2.1 dX7_readRow_187 hl (k := 3) rfl rfl (by decide) rfl (fun ls hl => ?_)
  refine lt_gen (P := fun x => lv_has ls 5 [(3, .int x), (0, .ref (ad 0)), (1, .int x1), (2, .int x2)]) h hl (fun x3_10 h hl => ?_)
  refine lv_aload_n C.1.1 C.1.2.1 dX7_readRow_190 rfl (lv_at hl 1 rfl) ?_
  obtain ⟨r_11, hc, h⟩ := bnd_some h
  refine r_vI (dc := 1) (As := []) (rest := []) C hw vX7_81 km0 (by decide) rfl (fun sz => c_X7_isGood hx hc sz) (by decide) rfl rfl hl.1 (Nat.le_of_ble_eq_true rfl) dX7_readRow_191 ⟨Nat.le_refl _, Nat.le_refl _⟩ (fun H locs hw => ?_)
  refine lv_if_eq (tgt := 210) C.1.1 C.1.2.1 dX7_readRow_194 (by decide) (fun hc => ?_) (fun hc => ?_)
  · replace h := ite_pos' h hc
    exact w_X7_readRow_210 kb127 hk127 C hx hw (lv_sub hl [1, 2, 3, 0] rfl) h
  · replace h := ite_neg' h hc
    refine lv_aload_n C.1.1 C.1.2.1 dX7_readRow_197 rfl (lv_at hl 1 rfl) ?_
    refine lv_bipush (v := 44) C.1.1 C.1.2.1 dX7_readRow_198 (by decide) ?_
    obtain ⟨r_12, hc, h⟩ := bnd_some h
    refine r_vI (dc := 2) (As := [.int 44]) (rest := []) C hw vX7_163 km0 (by decide) rfl (fun sz => c_X7_is hx hc sz) (by decide) rfl rfl hl.1 (Nat.le_of_ble_eq_true rfl) dX7_readRow_200 ⟨Nat.le_refl _, Nat.le_refl _⟩ (fun H locs hw => ?_)
    refine lv_if_eq (tgt := 210) C.1.1 C.1.2.1 dX7_readRow_203 (by decide) (fun hc => ?_) (fun hc => ?_)
    · replace h := ite_pos' h hc
      exact w_X7_readRow_210 kb127 hk127 C hx hw (lv_sub hl [1, 2, 3, 0] rfl) h
    · replace h := ite_neg' h hc
      refine lv_iconst (v := 1) C.1.1 C.1.2.1 dX7_readRow_206 (by decide) ?_
      refine lv_goto (tgt := 211) C.1.1 C.1.2.1 dX7_readRow_207 (by decide) ?_
      exact w_X7_readRow_211 kb127 hk127 C hx hw (lv_sub hl [1, 2, 3, 0] rfl) h
set_option maxHeartbeats 4000000 in
set_option maxRecDepth 100000 in
theorem w_X7_readRow_184 {x1 : Int32} {x2 : Int32} {x3 : Int32} {s0 : Int32} {s1 : Int32} {g : GM} {gz : GM} (kb127 : Int32 × Int32 × GM → Option (GM)) (hk127 : ∀ (x3 : Int32) (x4 : Int32) (g : GM) (H : Heap) (locs : List Loc) (ls : Array Slot), WS D cA ev hr ad A KM s H locs g → lv_has ls 5 [(0, .ref (ad 0)), (1, .int x1), (2, .int x2), (3, .int x3), (4, .int x4)] → kb127 (x3, x4, g) = some gz → W p l e (RM 5 0 0) s m args below meth c H locs 0 0 (MQ below (QV D cA ev hr ad A KM gz) args s 0 0 A) (F0 m 127 ls [])) (C : CX p s m args meth c RX7 yX7_readRow cX7_readRow 5 none D cA) (hx : HM hr ad) {H : Heap} {locs : List Loc} (hw : WS D cA ev hr ad A KM s H locs g) {ls : Array Slot} (hl : lv_has ls 5 [(0, .ref (ad 0)), (1, .int x1), (2, .int x2), (3, .int x3)]) (h : F_X7_readRow_184 kb127 x1 x2 x3 s0 s1 g = some gz) : W p l e (RM 5 0 0) s m args below meth c H locs 0 0 (MQ below (QV D cA ev hr ad A KM gz) args s 0 0 A) (F0 m 184 ls [.int s0, .int s1, .ref (ad 0)]) := by
  obtain ⟨g_13, hc, h⟩ := bnd_some h
  refine r_vV (dc := 4) (As := [.int s1, .int s0]) (rest := []) C hw vX7_178 km0 (by decide) rfl (fun sz => c_X7_readValue hx hc sz) (by decide) rfl rfl hl.1 (Nat.le_of_ble_eq_true rfl) dX7_readRow_184 ⟨Nat.le_refl _, Nat.le_refl _⟩ (fun H locs hw => ?_)
  exact w_X7_readRow_187 kb127 hk127 C hx hw hl h
set_option maxHeartbeats 4000000 in
set_option maxRecDepth 100000 in
theorem w_X7_readRow_153 {x1 : Int32} {x2 : Int32} {x3 : Int32} {g : GM} {gz : GM} (kb127 : Int32 × Int32 × GM → Option (GM)) (hk127 : ∀ (x3 : Int32) (x4 : Int32) (g : GM) (H : Heap) (locs : List Loc) (ls : Array Slot), WS D cA ev hr ad A KM s H locs g → lv_has ls 5 [(0, .ref (ad 0)), (1, .int x1), (2, .int x2), (3, .int x3), (4, .int x4)] → kb127 (x3, x4, g) = some gz → W p l e (RM 5 0 0) s m args below meth c H locs 0 0 (MQ below (QV D cA ev hr ad A KM gz) args s 0 0 A) (F0 m 127 ls [])) (C : CX p s m args meth c RX7 yX7_readRow cX7_readRow 5 none D cA) (hx : HM hr ad) {H : Heap} {locs : List Loc} (hw : WS D cA ev hr ad A KM s H locs g) {ls : Array Slot} (hl : lv_has ls 5 [(0, .ref (ad 0)), (1, .int x1), (2, .int x2), (3, .int x3)]) (h : F_X7_readRow_153 kb127 x1 x2 x3 g = some gz) : W p l e (RM 5 0 0) s m args below meth c H locs 0 0 (MQ below (QV D cA ev hr ad A KM gz) args s 0 0 A) (F0 m 153 ls []) := by
  refine lv_aload_n C.1.1 C.1.2.1 dX7_readRow_153 rfl (lv_at hl 0 rfl) ?_
  obtain ⟨r_14, hc, h⟩ := bnd_some h
  refine r_vI (dc := 1) (As := []) (rest := []) C hw vX7_81 km0 (by decide) rfl (fun sz => c_X7_isGood hx hc sz) (by decide) rfl rfl hl.1 (Nat.le_of_ble_eq_true rfl) dX7_readRow_154 ⟨Nat.le_refl _, Nat.le_refl _⟩ (fun H locs hw => ?_)
  refine lv_if_eq (tgt := 187) C.1.1 C.1.2.1 dX7_readRow_157 (by decide) (fun hc => ?_) (fun hc => ?_)
  · replace h := ite_pos' h hc
    exact w_X7_readRow_187 kb127 hk127 C hx hw hl h
  · replace h := ite_neg' h hc
    refine lv_aload_n C.1.1 C.1.2.1 dX7_readRow_160 rfl (lv_at hl 0 rfl) ?_
    refine lv_iconst (v := 5) C.1.1 C.1.2.1 dX7_readRow_161 (by decide) ?_
    refine lv_iload_n C.1.1 C.1.2.1 dX7_readRow_162 rfl (lv_at hl 2 rfl) ?_
    refine lv_imul C.1.1 C.1.2.1 dX7_readRow_163 ?_
    refine lv_iload_n C.1.1 C.1.2.1 dX7_readRow_164 rfl (lv_at hl 3 rfl) ?_
    refine lv_iadd C.1.1 C.1.2.1 dX7_readRow_165 ?_
    refine lv_aload_n C.1.1 C.1.2.1 dX7_readRow_166 rfl (lv_at hl 0 rfl) ?_
    refine r_getR (v := .ref (ad 7)) C hw km0 fX7_175 rfl (hm16 hx) dX7_readRow_167 ?_
    refine lv_iconst (v := 5) C.1.1 C.1.2.1 dX7_readRow_170 (by decide) ?_
    refine lv_iload_n C.1.1 C.1.2.1 dX7_readRow_171 rfl (lv_at hl 1 rfl) ?_
    refine lv_imul C.1.1 C.1.2.1 dX7_readRow_172 ?_
    refine lv_iload_n C.1.1 C.1.2.1 dX7_readRow_173 rfl (lv_at hl 3 rfl) ?_
    refine lv_iadd C.1.1 C.1.2.1 dX7_readRow_174 ?_
    obtain ⟨hz, h⟩ := ck_some h
    refine r_iald C hw km7 (inB_in hz) dX7_readRow_175 ?_
    refine lv_if_lt (tgt := 183) C.1.1 C.1.2.1 dX7_readRow_176 (by decide) (fun hc => ?_) (fun hc => ?_)
    · replace h := ite_pos' h hc
      refine lv_iconst (v := 0) C.1.1 C.1.2.1 dX7_readRow_183 (by decide) ?_
      exact w_X7_readRow_184 kb127 hk127 C hx hw hl h
    · replace h := ite_neg' h hc
      refine lv_iconst (v := 1) C.1.1 C.1.2.1 dX7_readRow_179 (by decide) ?_
      refine lv_goto (tgt := 184) C.1.1 C.1.2.1 dX7_readRow_180 (by decide) ?_
      exact w_X7_readRow_184 kb127 hk127 C hx hw hl h
set_option maxHeartbeats 4000000 in
set_option maxRecDepth 100000 in
theorem w_X7_readRow_127 {x1 : Int32} {x2 : Int32} {gz : GM} (kb127 : Int32 × Int32 × GM → Option (GM)) (hk127 : ∀ (x3 : Int32) (x4 : Int32) (g : GM) (H : Heap) (locs : List Loc) (ls : Array Slot), WS D cA ev hr ad A KM s H locs g → lv_has ls 5 [(0, .ref (ad 0)), (1, .int x1), (2, .int x2), (3, .int x3), (4, .int x4)] → kb127 (x3, x4, g) = some gz → W p l e (RM 5 0 0) s m args below meth c H locs 0 0 (MQ below (QV D cA ev hr ad A KM gz) args s 0 0 A) (F0 m 127 ls [])) (C : CX p s m args meth c RX7 yX7_readRow cX7_readRow 5 none D cA) (hx : HM hr ad) {H : Heap} {locs : List Loc} {x3 : Int32} {x4 : Int32} {g : GM} (hw : WS D cA ev hr ad A KM s H locs g) {ls : Array Slot} (hl : lv_has ls 5 [(0, .ref (ad 0)), (1, .int x1), (2, .int x2), (3, .int x3), (4, .int x4)]) (h : F_X7_readRow_127B x1 x2 kb127 (x3, x4, g) = some gz) : W p l e (RM 5 0 0) s m args below meth c H locs 0 0 (MQ below (QV D cA ev hr ad A KM gz) args s 0 0 A) (F0 m 127 ls []) := by
  refine lv_iload C.1.1 C.1.2.1 dX7_readRow_127 (lv_at hl 4 rfl) ?_
  refine lv_if_eq (tgt := 225) C.1.1 C.1.2.1 dX7_readRow_129 (by decide) (fun hc => ?_) (fun hc => ?_)
  · replace h := ite_pos' h hc
    exact w_X7_readRow_225 C hx hw (lv_sub hl [0, 1, 2, 3] rfl) h
  · replace h := ite_neg' h hc
    refine lv_aload_n C.1.1 C.1.2.1 dX7_readRow_132 rfl (lv_at hl 0 rfl) ?_
    obtain ⟨r_15, hc, h⟩ := bnd_some h
    refine r_vI (dc := 1) (As := []) (rest := []) C hw vX7_81 km0 (by decide) rfl (fun sz => c_X7_isGood hx hc sz) (by decide) rfl rfl hl.1 (Nat.le_of_ble_eq_true rfl) dX7_readRow_133 ⟨Nat.le_refl _, Nat.le_refl _⟩ (fun H locs hw => ?_)
    refine lv_if_eq (tgt := 225) C.1.1 C.1.2.1 dX7_readRow_136 (by decide) (fun hc => ?_) (fun hc => ?_)
    · replace h := ite_pos' h hc
      exact w_X7_readRow_225 C hx hw (lv_sub hl [0, 1, 2, 3] rfl) h
    · replace h := ite_neg' h hc
      refine lv_iload_n C.1.1 C.1.2.1 dX7_readRow_139 rfl (lv_at hl 3 rfl) ?_
      refine lv_aload_n C.1.1 C.1.2.1 dX7_readRow_140 rfl (lv_at hl 0 rfl) ?_
      refine r_getR (v := .ref (ad 5)) C hw km0 fX7_106 rfl (hm14 hx) dX7_readRow_141 ?_
      refine lv_iload_n C.1.1 C.1.2.1 dX7_readRow_144 rfl (lv_at hl 1 rfl) ?_
      obtain ⟨hz, h⟩ := ck_some h
      refine r_iald C hw km5 (inB_in hz) dX7_readRow_145 ?_
      refine lv_icmp_ne (tgt := 153) C.1.1 C.1.2.1 dX7_readRow_146 (by decide) (fun hc => ?_) (fun hc => ?_)
      · replace h := ite_neg' h hc
        exact w_X7_readRow_153 kb127 hk127 C hx hw (lv_sub hl [0, 1, 2, 3] rfl) h
      · replace h := ite_pos' h hc
        refine lv_aload_n C.1.1 C.1.2.1 dX7_readRow_149 rfl (lv_at hl 0 rfl) ?_
        obtain ⟨g_16, hc, h⟩ := bnd_some h
        refine r_vV (dc := 2) (As := []) (rest := []) C hw vX7_89 km0 (by decide) rfl (fun sz => c_X7_wrong hx hc sz) (by decide) rfl rfl hl.1 (Nat.le_of_ble_eq_true rfl) dX7_readRow_150 ⟨Nat.le_refl _, Nat.le_refl _⟩ (fun H locs hw => ?_)
        exact w_X7_readRow_153 kb127 hk127 C hx hw (lv_sub hl [0, 1, 2, 3] rfl) h
set_option maxHeartbeats 4000000 in
set_option maxRecDepth 100000 in
theorem w_X7_readRow_127L {x1 : Int32} {x2 : Int32} {gz : GM} (C : CX p s m args meth c RX7 yX7_readRow cX7_readRow 5 none D cA) (hx : HM hr ad) : ∀ (n : Nat) (x3 : Int32) (x4 : Int32) (g : GM) (H : Heap) (locs : List Loc) (ls : Array Slot), WS D cA ev hr ad A KM s H locs g → lv_has ls 5 [(0, .ref (ad 0)), (1, .int x1), (2, .int x2), (3, .int x3), (4, .int x4)] → fixN (F_X7_readRow_127B x1 x2) n (x3, x4, g) = some gz → W p l e (RM 5 0 0) s m args below meth c H locs 0 0 (MQ below (QV D cA ev hr ad A KM gz) args s 0 0 A) (F0 m 127 ls []) := by
  intro n
  induction n with
  | zero => intro x3 x4 g H locs ls hw hl h; exact (fix_zero h).elim
  | succ n ih => intro x3 x4 g H locs ls hw hl h; exact w_X7_readRow_127 (fixN (F_X7_readRow_127B x1 x2) n) ih C hx hw hl h
set_option maxHeartbeats 4000000 in
set_option maxRecDepth 100000 in
theorem w_X7_readRow_82 {x1 : Int32} {g : GM} {gz : GM} (C : CX p s m args meth c RX7 yX7_readRow cX7_readRow 5 none D cA) (hx : HM hr ad) {H : Heap} {locs : List Loc} (hw : WS D cA ev hr ad A KM s H locs g) {ls : Array Slot} (hl : lv_has ls 5 [(0, .ref (ad 0)), (1, .int x1)]) (h : F_X7_readRow_82 x1 g = some gz) : W p l e (RM 5 0 0) s m args below meth c H locs 0 0 (MQ below (QV D cA ev hr ad A KM gz) args s 0 0 A) (F0 m 82 ls []) := by
  refine lv_aload_n C.1.1 C.1.2.1 dX7_readRow_82 rfl (lv_at hl 0 rfl) ?_
  obtain ⟨r_17, hc, h⟩ := bnd_some h
  refine r_vI (dc := 1) (As := []) (rest := []) C hw vX7_81 km0 (by decide) rfl (fun sz => c_X7_isGood hx hc sz) (by decide) rfl rfl hl.1 (Nat.le_of_ble_eq_true rfl) dX7_readRow_83 ⟨Nat.le_refl _, Nat.le_refl _⟩ (fun H locs hw => ?_)
  refine lv_if_ne (tgt := 90) C.1.1 C.1.2.1 dX7_readRow_86 (by decide) (fun hc => ?_) (fun hc => ?_)
  · replace h := ite_neg' h hc
    refine lv_bipush (v := 16) C.1.1 C.1.2.1 dX7_readRow_90 (by decide) ?_
    refine lv_aload_n C.1.1 C.1.2.1 dX7_readRow_92 rfl (lv_at hl 0 rfl) ?_
    refine r_getI C hw km0 fX7_119 rfl dX7_readRow_93 ?_
    refine lv_imul C.1.1 C.1.2.1 dX7_readRow_96 ?_
    refine lv_aload_n C.1.1 C.1.2.1 dX7_readRow_97 rfl (lv_at hl 0 rfl) ?_
    refine r_getR (v := .ref (ad 13)) C hw km0 fX7_122 rfl (hm22 hx) dX7_readRow_98 ?_
    refine lv_aload_n C.1.1 C.1.2.1 dX7_readRow_101 rfl (lv_at hl 0 rfl) ?_
    refine r_getI C hw km0 fX7_119 rfl dX7_readRow_102 ?_
    obtain ⟨hz, h⟩ := ck_some h
    refine r_iald C hw km13 (inB_in hz) dX7_readRow_105 ?_
    refine lv_iadd C.1.1 C.1.2.1 dX7_readRow_106 ?_
    refine lv_istore_n (lv' := [(2, .int ((16 * (gi g 0 24)) + (gi g 13 (gi g 0 24).toNatClampNeg))), (0, .ref (ad 0)), (1, .int x1)]) C.1.1 C.1.2.1 dX7_readRow_107 rfl hl (by decide) rfl (fun ls hl => ?_)
    refine lt_gen (P := fun x => lv_has ls 5 [(2, .int x), (0, .ref (ad 0)), (1, .int x1)]) h hl (fun x2_18 h hl => ?_)
    refine lv_aload_n C.1.1 C.1.2.1 dX7_readRow_108 rfl (lv_at hl 1 rfl) ?_
    obtain ⟨g_19, hc, h⟩ := bnd_some h
    refine r_vV (dc := 2) (As := []) (rest := []) C hw vX7_85 km0 (by decide) rfl (fun sz => c_X7_next hx hc sz) (by decide) rfl rfl hl.1 (Nat.le_of_ble_eq_true rfl) dX7_readRow_109 ⟨Nat.le_refl _, Nat.le_refl _⟩ (fun H locs hw => ?_)
    refine lv_aload_n C.1.1 C.1.2.1 dX7_readRow_112 rfl (lv_at hl 1 rfl) ?_
    refine lv_aload_n C.1.1 C.1.2.1 dX7_readRow_113 rfl (lv_at hl 1 rfl) ?_
    refine lv_bipush (v := 58) C.1.1 C.1.2.1 dX7_readRow_114 (by decide) ?_
    obtain ⟨r_20, hc, h⟩ := bnd_some h
    refine r_vI (dc := 2) (As := [.int 58]) (rest := [.ref (ad 0)]) C hw vX7_163 km0 (by decide) rfl (fun sz => c_X7_is hx hc sz) (by decide) rfl rfl hl.1 (Nat.le_of_ble_eq_true rfl) dX7_readRow_116 ⟨Nat.le_refl _, Nat.le_refl _⟩ (fun H locs hw => ?_)
    obtain ⟨g_21, hc, h⟩ := bnd_some h
    refine r_vV (dc := 3) (As := [.int r_20]) (rest := []) C hw vX7_166 km0 (by decide) rfl (fun sz => c_X7_must hx hc sz) (by decide) rfl rfl hl.1 (Nat.le_of_ble_eq_true rfl) dX7_readRow_119 ⟨Nat.le_refl _, Nat.le_refl _⟩ (fun H locs hw => ?_)
    refine lv_iconst (v := 0) C.1.1 C.1.2.1 dX7_readRow_122 (by decide) ?_
    refine lv_istore_n (lv' := [(3, .int 0), (2, .int x2_18), (0, .ref (ad 0)), (1, .int x1)]) C.1.1 C.1.2.1 dX7_readRow_123 rfl hl (by decide) rfl (fun ls hl => ?_)
    refine lv_iconst (v := 1) C.1.1 C.1.2.1 dX7_readRow_124 (by decide) ?_
    refine lv_istore (lv' := [(4, .int 1), (3, .int 0), (2, .int x2_18), (0, .ref (ad 0)), (1, .int x1)]) C.1.1 C.1.2.1 dX7_readRow_125 hl (by decide) rfl (fun ls hl => ?_)
    exact w_X7_readRow_127L C hx FU _ _ _ _ _ _ hw (lv_sub hl [3, 4, 2, 1, 0] rfl) h
  · replace h := ite_pos' h hc
    cases h
    exact r_vret C hw rfl dX7_readRow_89
set_option maxHeartbeats 4000000 in
set_option maxRecDepth 100000 in
theorem w_X7_readRow_48 {g : GM} {gz : GM} (C : CX p s m args meth c RX7 yX7_readRow cX7_readRow 5 none D cA) (hx : HM hr ad) {H : Heap} {locs : List Loc} (hw : WS D cA ev hr ad A KM s H locs g) {ls : Array Slot} (hl : lv_has ls 5 [(0, .ref (ad 0))]) (h : F_X7_readRow_48 g = some gz) : W p l e (RM 5 0 0) s m args below meth c H locs 0 0 (MQ below (QV D cA ev hr ad A KM gz) args s 0 0 A) (F0 m 48 ls []) := by
  refine lv_aload_n C.1.1 C.1.2.1 dX7_readRow_48 rfl (lv_at hl 0 rfl) ?_
  obtain ⟨r_22, hc, h⟩ := bnd_some h
  refine r_vI (dc := 1) (As := []) (rest := []) C hw vX7_81 km0 (by decide) rfl (fun sz => c_X7_isGood hx hc sz) (by decide) rfl rfl hl.1 (Nat.le_of_ble_eq_true rfl) dX7_readRow_49 ⟨Nat.le_refl _, Nat.le_refl _⟩ (fun H locs hw => ?_)
  refine lv_if_ne (tgt := 56) C.1.1 C.1.2.1 dX7_readRow_52 (by decide) (fun hc => ?_) (fun hc => ?_)
  · replace h := ite_neg' h hc
    refine lv_aload_n C.1.1 C.1.2.1 dX7_readRow_56 rfl (lv_at hl 0 rfl) ?_
    refine lv_aload_n C.1.1 C.1.2.1 dX7_readRow_57 rfl (lv_at hl 0 rfl) ?_
    refine r_getI C hw km0 fX7_119 rfl dX7_readRow_58 ?_
    refine lv_aload_n C.1.1 C.1.2.1 dX7_readRow_61 rfl (lv_at hl 0 rfl) ?_
    refine r_getL C hw km0 fX7_60 rfl dX7_readRow_62 ?_
    obtain ⟨r_23, hc, h⟩ := bnd_some h
    refine r_vI (dc := 1) (As := [.int (gi g 0 24), .long (gl g 0 10)]) (rest := []) C hw vX7_156 km0 (by decide) rfl (fun sz => c_X7_tableOf hx hc sz) (by decide) rfl rfl hl.1 (Nat.le_of_ble_eq_true rfl) dX7_readRow_65 ⟨Nat.le_refl _, Nat.le_refl _⟩ (fun H locs hw => ?_)
    refine lv_istore_n (lv' := [(1, .int r_23), (0, .ref (ad 0))]) C.1.1 C.1.2.1 dX7_readRow_68 rfl hl (by decide) rfl (fun ls hl => ?_)
    refine lt_gen (P := fun x => lv_has ls 5 [(1, .int x), (0, .ref (ad 0))]) h hl (fun x1_24 h hl => ?_)
    refine lv_iload_n C.1.1 C.1.2.1 dX7_readRow_69 rfl (lv_at hl 0 rfl) ?_
    refine lv_if_ge (tgt := 82) C.1.1 C.1.2.1 dX7_readRow_70 (by decide) (fun hc => ?_) (fun hc => ?_)
    · replace h := ite_pos' h hc
      exact w_X7_readRow_82 C hx hw (lv_sub hl [1, 0] rfl) h
    · replace h := ite_neg' h hc
      refine lv_aload_n C.1.1 C.1.2.1 dX7_readRow_73 rfl (lv_at hl 1 rfl) ?_
      refine lv_iconst (v := 4) C.1.1 C.1.2.1 dX7_readRow_74 (by decide) ?_
      refine lv_aload_n C.1.1 C.1.2.1 dX7_readRow_75 rfl (lv_at hl 1 rfl) ?_
      refine r_getI C hw km0 fX7_46 rfl dX7_readRow_76 ?_
      obtain ⟨g_25, hc, h⟩ := bnd_some h
      refine r_vV (dc := 1) (As := [.int 4, .int (gi g 0 6)]) (rest := []) C hw vX7_77 km0 (by decide) rfl (fun sz => c_X7_fails hx hc sz) (by decide) rfl rfl hl.1 (Nat.le_of_ble_eq_true rfl) dX7_readRow_79 ⟨Nat.le_refl _, Nat.le_refl _⟩ (fun H locs hw => ?_)
      exact w_X7_readRow_82 C hx hw (lv_sub hl [1, 0] rfl) h
  · replace h := ite_pos' h hc
    cases h
    exact r_vret C hw rfl dX7_readRow_55
set_option maxHeartbeats 4000000 in
set_option maxRecDepth 100000 in
theorem w_X7_readRow_29 {g : GM} {gz : GM} (C : CX p s m args meth c RX7 yX7_readRow cX7_readRow 5 none D cA) (hx : HM hr ad) {H : Heap} {locs : List Loc} (hw : WS D cA ev hr ad A KM s H locs g) {ls : Array Slot} (hl : lv_has ls 5 [(0, .ref (ad 0))]) (h : F_X7_readRow_29 g = some gz) : W p l e (RM 5 0 0) s m args below meth c H locs 0 0 (MQ below (QV D cA ev hr ad A KM gz) args s 0 0 A) (F0 m 29 ls []) := by
  refine lv_aload_n C.1.1 C.1.2.1 dX7_readRow_29 rfl (lv_at hl 0 rfl) ?_
  obtain ⟨r_26, hc, h⟩ := bnd_some h
  refine r_vI (dc := 1) (As := []) (rest := []) C hw vX7_81 km0 (by decide) rfl (fun sz => c_X7_isGood hx hc sz) (by decide) rfl rfl hl.1 (Nat.le_of_ble_eq_true rfl) dX7_readRow_30 ⟨Nat.le_refl _, Nat.le_refl _⟩ (fun H locs hw => ?_)
  refine lv_if_eq (tgt := 48) C.1.1 C.1.2.1 dX7_readRow_33 (by decide) (fun hc => ?_) (fun hc => ?_)
  · replace h := ite_pos' h hc
    exact w_X7_readRow_48 C hx hw hl h
  · replace h := ite_neg' h hc
    refine lv_aload_n C.1.1 C.1.2.1 dX7_readRow_36 rfl (lv_at hl 0 rfl) ?_
    refine r_getI C hw km0 fX7_53 rfl dX7_readRow_37 ?_
    refine lv_iconst (v := 2) C.1.1 C.1.2.1 dX7_readRow_40 (by decide) ?_
    refine lv_icmp_eq (tgt := 48) C.1.1 C.1.2.1 dX7_readRow_41 (by decide) (fun hc => ?_) (fun hc => ?_)
    · replace h := ite_pos' h hc
      exact w_X7_readRow_48 C hx hw hl h
    · replace h := ite_neg' h hc
      refine lv_aload_n C.1.1 C.1.2.1 dX7_readRow_44 rfl (lv_at hl 0 rfl) ?_
      obtain ⟨g_27, hc, h⟩ := bnd_some h
      refine r_vV (dc := 2) (As := []) (rest := []) C hw vX7_89 km0 (by decide) rfl (fun sz => c_X7_wrong hx hc sz) (by decide) rfl rfl hl.1 (Nat.le_of_ble_eq_true rfl) dX7_readRow_45 ⟨Nat.le_refl _, Nat.le_refl _⟩ (fun H locs hw => ?_)
      exact w_X7_readRow_48 C hx hw hl h
set_option maxHeartbeats 4000000 in
set_option maxRecDepth 100000 in
theorem w_X7_readRow_18 {g : GM} {gz : GM} (C : CX p s m args meth c RX7 yX7_readRow cX7_readRow 5 none D cA) (hx : HM hr ad) {H : Heap} {locs : List Loc} (hw : WS D cA ev hr ad A KM s H locs g) {ls : Array Slot} (hl : lv_has ls 5 [(0, .ref (ad 0))]) (h : F_X7_readRow_18 g = some gz) : W p l e (RM 5 0 0) s m args below meth c H locs 0 0 (MQ below (QV D cA ev hr ad A KM gz) args s 0 0 A) (F0 m 18 ls []) := by
  refine lv_aload_n C.1.1 C.1.2.1 dX7_readRow_18 rfl (lv_at hl 0 rfl) ?_
  obtain ⟨r_28, hc, h⟩ := bnd_some h
  refine r_vI (dc := 1) (As := []) (rest := []) C hw vX7_81 km0 (by decide) rfl (fun sz => c_X7_isGood hx hc sz) (by decide) rfl rfl hl.1 (Nat.le_of_ble_eq_true rfl) dX7_readRow_19 ⟨Nat.le_refl _, Nat.le_refl _⟩ (fun H locs hw => ?_)
  refine lv_if_eq (tgt := 29) C.1.1 C.1.2.1 dX7_readRow_22 (by decide) (fun hc => ?_) (fun hc => ?_)
  · replace h := ite_pos' h hc
    exact w_X7_readRow_29 C hx hw hl h
  · replace h := ite_neg' h hc
    refine lv_aload_n C.1.1 C.1.2.1 dX7_readRow_25 rfl (lv_at hl 0 rfl) ?_
    obtain ⟨g_29, hc, h⟩ := bnd_some h
    refine r_vV (dc := 2) (As := []) (rest := []) C hw vX7_85 km0 (by decide) rfl (fun sz => c_X7_next hx hc sz) (by decide) rfl rfl hl.1 (Nat.le_of_ble_eq_true rfl) dX7_readRow_26 ⟨Nat.le_refl _, Nat.le_refl _⟩ (fun H locs hw => ?_)
    exact w_X7_readRow_29 C hx hw hl h
set_option maxHeartbeats 4000000 in
set_option maxRecDepth 100000 in
theorem w_X7_readRow_0 (C : CX p s m args meth c RX7 yX7_readRow cX7_readRow 5 none D cA) (hx : HM hr ad) {H : Heap} {locs : List Loc} {g : GM} (hw : WS D cA ev hr ad A KM s H locs g) {ls : Array Slot} (hl : lv_has ls 5 [(0, .ref (ad 0))]) {gz : GM} (h : F_X7_readRow g = some gz) : W p l e (RM 5 0 0) s m args below meth c H locs 0 0 (MQ below (QV D cA ev hr ad A KM gz) args s 0 0 A) (F0 m 0 ls []) := by
  refine lv_aload_n C.1.1 C.1.2.1 dX7_readRow_0 rfl (lv_at hl 0 rfl) ?_
  refine r_getR (v := .ref (ad 13)) C hw km0 fX7_122 rfl (hm22 hx) dX7_readRow_1 ?_
  refine lv_aload_n C.1.1 C.1.2.1 dX7_readRow_4 rfl (lv_at hl 0 rfl) ?_
  refine r_getI C hw km0 fX7_119 rfl dX7_readRow_5 ?_
  obtain ⟨hz, h⟩ := ck_some h
  refine r_iald C hw km13 (inB_in hz) dX7_readRow_8 ?_
  refine lv_bipush (v := 16) C.1.1 C.1.2.1 dX7_readRow_9 (by decide) ?_
  refine lv_icmp_ne (tgt := 18) C.1.1 C.1.2.1 dX7_readRow_11 (by decide) (fun hc => ?_) (fun hc => ?_)
  · replace h := ite_neg' h hc
    exact w_X7_readRow_18 C hx hw hl h
  · replace h := ite_pos' h hc
    refine lv_aload_n C.1.1 C.1.2.1 dX7_readRow_14 rfl (lv_at hl 0 rfl) ?_
    obtain ⟨g_30, hc, h⟩ := bnd_some h
    refine r_vV (dc := 2) (As := []) (rest := []) C hw vX7_89 km0 (by decide) rfl (fun sz => c_X7_wrong hx hc sz) (by decide) rfl rfl hl.1 (Nat.le_of_ble_eq_true rfl) dX7_readRow_15 ⟨Nat.le_refl _, Nat.le_refl _⟩ (fun H locs hw => ?_)
    exact w_X7_readRow_18 C hx hw hl h
set_option maxHeartbeats 4000000 in
set_option maxRecDepth 100000 in
theorem c_X7_readRow (hx : HM hr ad) {g : GM} {gz : GM} (h : F_X7_readRow g = some gz) (sz : Nat) : Met l yX7_readRow (WSX yX7_readRow cX7_readRow 5 none) (RM 5 0 0) (va_Pc [.ref (ad 0)] (PX D cA ev hr ad KM g sz)) (QV D cA ev hr ad (AX ad KM.length sz) KM gz) 0 0 (AX ad KM.length sz) :=
  met_of (own := RX7) pnX7 rfl (Nat.le_of_ble_eq_true rfl) (fun p e s m below meth c ls C hw hsz hl => w_X7_readRow_0 C hx hw hl h)
set_option maxHeartbeats 4000000 in
set_option maxRecDepth 100000 in
theorem w_X7_checkLinks_79 {x1 : Int32} {x2 : Int32} {x3 : Int32} {g : GM} {gz : GM} (kb9 : Int32 × GM → Option (GM)) (hk9 : ∀ (x3 : Int32) (g : GM) (H : Heap) (locs : List Loc) (ls : Array Slot), WS D cA ev hr ad A KM s H locs g → lv_has ls 6 [(0, .ref (ad 0)), (1, .int x1), (2, .int x2), (3, .int x3)] → kb9 (x3, g) = some gz → W p l e (RM 2 0 0) s m args below meth c H locs 0 0 (MQ below (QV D cA ev hr ad A KM gz) args s 0 0 A) (F0 m 9 ls [])) (C : CX p s m args meth c RX7 yX7_checkLinks cX7_checkLinks 6 none D cA) (hx : HM hr ad) {H : Heap} {locs : List Loc} (hw : WS D cA ev hr ad A KM s H locs g) {ls : Array Slot} (hl : lv_has ls 6 [(0, .ref (ad 0)), (1, .int x1), (2, .int x2), (3, .int x3)]) (h : F_X7_checkLinks_79 kb9 x1 x2 x3 g = some gz) : W p l e (RM 2 0 0) s m args below meth c H locs 0 0 (MQ below (QV D cA ev hr ad A KM gz) args s 0 0 A) (F0 m 79 ls []) := by
  refine lv_iinc (v := x3 + 1) (lv' := [(3, .int (x3 + 1)), (0, .ref (ad 0)), (1, .int x1), (2, .int x2)]) C.1.1 C.1.2.1 dX7_checkLinks_79 hl (k := 3) rfl rfl (by decide) rfl (fun ls hl => ?_)
  refine lt_gen (P := fun x => lv_has ls 6 [(3, .int x), (0, .ref (ad 0)), (1, .int x1), (2, .int x2)]) h hl (fun x3_1 h hl => ?_)
  refine lv_goto (tgt := 9) C.1.1 C.1.2.1 dX7_checkLinks_82 (by decide) ?_
  exact hk9 _ _ _ _ _ hw (lv_sub hl [1, 2, 3, 0] rfl) h
set_option maxHeartbeats 4000000 in
set_option maxRecDepth 100000 in
theorem w_X7_checkLinks_9 {x1 : Int32} {x2 : Int32} {gz : GM} (kb9 : Int32 × GM → Option (GM)) (hk9 : ∀ (x3 : Int32) (g : GM) (H : Heap) (locs : List Loc) (ls : Array Slot), WS D cA ev hr ad A KM s H locs g → lv_has ls 6 [(0, .ref (ad 0)), (1, .int x1), (2, .int x2), (3, .int x3)] → kb9 (x3, g) = some gz → W p l e (RM 2 0 0) s m args below meth c H locs 0 0 (MQ below (QV D cA ev hr ad A KM gz) args s 0 0 A) (F0 m 9 ls [])) (C : CX p s m args meth c RX7 yX7_checkLinks cX7_checkLinks 6 none D cA) (hx : HM hr ad) {H : Heap} {locs : List Loc} {x3 : Int32} {g : GM} (hw : WS D cA ev hr ad A KM s H locs g) {ls : Array Slot} (hl : lv_has ls 6 [(0, .ref (ad 0)), (1, .int x1), (2, .int x2), (3, .int x3)]) (h : F_X7_checkLinks_9B x1 x2 kb9 (x3, g) = some gz) : W p l e (RM 2 0 0) s m args below meth c H locs 0 0 (MQ below (QV D cA ev hr ad A KM gz) args s 0 0 A) (F0 m 9 ls []) := by
  refine lv_iload_n C.1.1 C.1.2.1 dX7_checkLinks_9 rfl (lv_at hl 3 rfl) ?_
  refine lv_aload_n C.1.1 C.1.2.1 dX7_checkLinks_10 rfl (lv_at hl 0 rfl) ?_
  refine r_getR (v := .ref (ad 5)) C hw km0 fX7_106 rfl (hm14 hx) dX7_checkLinks_11 ?_
  refine lv_iload_n C.1.1 C.1.2.1 dX7_checkLinks_14 rfl (lv_at hl 2 rfl) ?_
  obtain ⟨hz, h⟩ := ck_some h
  refine r_iald C hw km5 (inB_in hz) dX7_checkLinks_15 ?_
  refine lv_icmp_ge (tgt := 85) C.1.1 C.1.2.1 dX7_checkLinks_16 (by decide) (fun hc => ?_) (fun hc => ?_)
  · replace h := ite_pos' h hc
    cases h
    exact r_vret C hw rfl dX7_checkLinks_85
  · replace h := ite_neg' h hc
    refine lv_aload_n C.1.1 C.1.2.1 dX7_checkLinks_19 rfl (lv_at hl 0 rfl) ?_
    obtain ⟨r_2, hc, h⟩ := bnd_some h
    refine r_vI (dc := 1) (As := []) (rest := []) C hw vX7_81 km0 (by decide) rfl (fun sz => c_X7_isGood hx hc sz) (by decide) rfl rfl hl.1 (Nat.le_of_ble_eq_true rfl) dX7_checkLinks_20 ⟨Nat.le_refl _, Nat.le_refl _⟩ (fun H locs hw => ?_)
    refine lv_if_eq (tgt := 85) C.1.1 C.1.2.1 dX7_checkLinks_23 (by decide) (fun hc => ?_) (fun hc => ?_)
    · replace h := ite_pos' h hc
      cases h
      exact r_vret C hw rfl dX7_checkLinks_85
    · replace h := ite_neg' h hc
      refine lv_aload_n C.1.1 C.1.2.1 dX7_checkLinks_26 rfl (lv_at hl 0 rfl) ?_
      refine r_getR (v := .ref (ad 7)) C hw km0 fX7_175 rfl (hm16 hx) dX7_checkLinks_27 ?_
      refine lv_iconst (v := 5) C.1.1 C.1.2.1 dX7_checkLinks_30 (by decide) ?_
      refine lv_iload_n C.1.1 C.1.2.1 dX7_checkLinks_31 rfl (lv_at hl 2 rfl) ?_
      refine lv_imul C.1.1 C.1.2.1 dX7_checkLinks_32 ?_
      refine lv_iload_n C.1.1 C.1.2.1 dX7_checkLinks_33 rfl (lv_at hl 3 rfl) ?_
      refine lv_iadd C.1.1 C.1.2.1 dX7_checkLinks_34 ?_
      obtain ⟨hz, h⟩ := ck_some h
      refine r_iald C hw km7 (inB_in hz) dX7_checkLinks_35 ?_
      refine lv_istore (lv' := [(4, .int (gi g 7 ((5 * x2) + x3).toNatClampNeg)), (0, .ref (ad 0)), (1, .int x1), (2, .int x2), (3, .int x3)]) C.1.1 C.1.2.1 dX7_checkLinks_36 hl (by decide) rfl (fun ls hl => ?_)
      refine lt_gen (P := fun x => lv_has ls 6 [(4, .int x), (0, .ref (ad 0)), (1, .int x1), (2, .int x2), (3, .int x3)]) h hl (fun x4_3 h hl => ?_)
      refine lv_iconst (v := 5) C.1.1 C.1.2.1 dX7_checkLinks_38 (by decide) ?_
      refine lv_iload_n C.1.1 C.1.2.1 dX7_checkLinks_39 rfl (lv_at hl 2 rfl) ?_
      refine lv_imul C.1.1 C.1.2.1 dX7_checkLinks_40 ?_
      refine lv_iload_n C.1.1 C.1.2.1 dX7_checkLinks_41 rfl (lv_at hl 4 rfl) ?_
      refine lv_iadd C.1.1 C.1.2.1 dX7_checkLinks_42 ?_
      refine lv_istore (lv' := [(5, .int ((5 * x1) + x3)), (4, .int x4_3), (0, .ref (ad 0)), (1, .int x1), (2, .int x2), (3, .int x3)]) C.1.1 C.1.2.1 dX7_checkLinks_43 hl (by decide) rfl (fun ls hl => ?_)
      refine lt_gen (P := fun x => lv_has ls 6 [(5, .int x), (4, .int x4_3), (0, .ref (ad 0)), (1, .int x1), (2, .int x2), (3, .int x3)]) h hl (fun x5_4 h hl => ?_)
      refine lv_iload C.1.1 C.1.2.1 dX7_checkLinks_45 (lv_at hl 1 rfl) ?_
      refine lv_if_lt (tgt := 79) C.1.1 C.1.2.1 dX7_checkLinks_47 (by decide) (fun hc => ?_) (fun hc => ?_)
      · replace h := ite_pos' h hc
        exact w_X7_checkLinks_79 kb9 hk9 C hx hw (lv_sub hl [2, 3, 4, 5] rfl) h
      · replace h := ite_neg' h hc
        refine lv_aload_n C.1.1 C.1.2.1 dX7_checkLinks_50 rfl (lv_at hl 2 rfl) ?_
        refine r_getR (v := .ref (ad 10)) C hw km0 fX7_188 rfl (hm19 hx) dX7_checkLinks_51 ?_
        refine lv_iload C.1.1 C.1.2.1 dX7_checkLinks_54 (lv_at hl 0 rfl) ?_
        obtain ⟨hz, h⟩ := ck_some h
        refine r_iald C hw km10 (inB_in hz) dX7_checkLinks_56 ?_
        refine lv_aload_n C.1.1 C.1.2.1 dX7_checkLinks_57 rfl (lv_at hl 2 rfl) ?_
        refine r_getR (v := .ref (ad 6)) C hw km0 fX7_160 rfl (hm15 hx) dX7_checkLinks_58 ?_
        refine lv_iload C.1.1 C.1.2.1 dX7_checkLinks_61 (lv_at hl 1 rfl) ?_
        obtain ⟨hz, h⟩ := ck_some h
        refine r_iald C hw km6 (inB_in hz) dX7_checkLinks_63 ?_
        refine lv_icmp_lt (tgt := 79) C.1.1 C.1.2.1 dX7_checkLinks_64 (by decide) (fun hc => ?_) (fun hc => ?_)
        · replace h := ite_pos' h hc
          exact w_X7_checkLinks_79 kb9 hk9 C hx hw (lv_sub hl [2, 3, 4, 5] rfl) h
        · replace h := ite_neg' h hc
          refine lv_aload_n C.1.1 C.1.2.1 dX7_checkLinks_67 rfl (lv_at hl 2 rfl) ?_
          refine lv_iconst (v := 5) C.1.1 C.1.2.1 dX7_checkLinks_68 (by decide) ?_
          refine lv_aload_n C.1.1 C.1.2.1 dX7_checkLinks_69 rfl (lv_at hl 2 rfl) ?_
          refine r_getR (v := .ref (ad 11)) C hw km0 fX7_191 rfl (hm20 hx) dX7_checkLinks_70 ?_
          refine lv_iload C.1.1 C.1.2.1 dX7_checkLinks_73 (lv_at hl 0 rfl) ?_
          obtain ⟨hz, h⟩ := ck_some h
          refine r_iald C hw km11 (inB_in hz) dX7_checkLinks_75 ?_
          obtain ⟨g_5, hc, h⟩ := bnd_some h
          refine r_vV (dc := 1) (As := [.int 5, .int (gi g 11 x5_4.toNatClampNeg)]) (rest := []) C hw vX7_77 km0 (by decide) rfl (fun sz => c_X7_fails hx hc sz) (by decide) rfl rfl hl.1 (Nat.le_of_ble_eq_true rfl) dX7_checkLinks_76 ⟨Nat.le_refl _, Nat.le_refl _⟩ (fun H locs hw => ?_)
          exact w_X7_checkLinks_79 kb9 hk9 C hx hw (lv_sub hl [2, 3, 4, 5] rfl) h
set_option maxHeartbeats 4000000 in
set_option maxRecDepth 100000 in
theorem w_X7_checkLinks_9L {x1 : Int32} {x2 : Int32} {gz : GM} (C : CX p s m args meth c RX7 yX7_checkLinks cX7_checkLinks 6 none D cA) (hx : HM hr ad) : ∀ (n : Nat) (x3 : Int32) (g : GM) (H : Heap) (locs : List Loc) (ls : Array Slot), WS D cA ev hr ad A KM s H locs g → lv_has ls 6 [(0, .ref (ad 0)), (1, .int x1), (2, .int x2), (3, .int x3)] → fixN (F_X7_checkLinks_9B x1 x2) n (x3, g) = some gz → W p l e (RM 2 0 0) s m args below meth c H locs 0 0 (MQ below (QV D cA ev hr ad A KM gz) args s 0 0 A) (F0 m 9 ls []) := by
  intro n
  induction n with
  | zero => intro x3 g H locs ls hw hl h; exact (fix_zero h).elim
  | succ n ih => intro x3 g H locs ls hw hl h; exact w_X7_checkLinks_9 (fixN (F_X7_checkLinks_9B x1 x2) n) ih C hx hw hl h
set_option maxHeartbeats 4000000 in
set_option maxRecDepth 100000 in
theorem w_X7_checkLinks_0 (C : CX p s m args meth c RX7 yX7_checkLinks cX7_checkLinks 6 none D cA) (hx : HM hr ad) {H : Heap} {locs : List Loc} {g : GM} (hw : WS D cA ev hr ad A KM s H locs g) {a1 : Int32} {ls : Array Slot} (hl : lv_has ls 6 [(0, .ref (ad 0)), (1, .int a1)]) {gz : GM} (h : F_X7_checkLinks a1 g = some gz) : W p l e (RM 2 0 0) s m args below meth c H locs 0 0 (MQ below (QV D cA ev hr ad A KM gz) args s 0 0 A) (F0 m 0 ls []) := by
  refine lv_aload_n C.1.1 C.1.2.1 dX7_checkLinks_0 rfl (lv_at hl 0 rfl) ?_
  refine r_getR (v := .ref (ad 8)) C hw km0 fX7_182 rfl (hm17 hx) dX7_checkLinks_1 ?_
  refine lv_iload_n C.1.1 C.1.2.1 dX7_checkLinks_4 rfl (lv_at hl 1 rfl) ?_
  obtain ⟨hz, h⟩ := ck_some h
  refine r_iald C hw km8 (inB_in hz) dX7_checkLinks_5 ?_
  refine lv_istore_n (lv' := [(2, .int (gi g 8 a1.toNatClampNeg)), (0, .ref (ad 0)), (1, .int a1)]) C.1.1 C.1.2.1 dX7_checkLinks_6 rfl hl (by decide) rfl (fun ls hl => ?_)
  refine lt_gen (P := fun x => lv_has ls 6 [(2, .int x), (0, .ref (ad 0)), (1, .int a1)]) h hl (fun x2_6 h hl => ?_)
  refine lv_iconst (v := 0) C.1.1 C.1.2.1 dX7_checkLinks_7 (by decide) ?_
  refine lv_istore_n (lv' := [(3, .int 0), (2, .int x2_6), (0, .ref (ad 0)), (1, .int a1)]) C.1.1 C.1.2.1 dX7_checkLinks_8 rfl hl (by decide) rfl (fun ls hl => ?_)
  exact w_X7_checkLinks_9L C hx FU _ _ _ _ _ hw (lv_sub hl [2, 3, 1, 0] rfl) h
set_option maxHeartbeats 4000000 in
set_option maxRecDepth 100000 in
theorem c_X7_checkLinks (hx : HM hr ad) {a1 : Int32} {g : GM} {gz : GM} (h : F_X7_checkLinks a1 g = some gz) (sz : Nat) : Met l yX7_checkLinks (WSX yX7_checkLinks cX7_checkLinks 6 none) (RM 2 0 0) (va_Pc [.ref (ad 0), .int a1] (PX D cA ev hr ad KM g sz)) (QV D cA ev hr ad (AX ad KM.length sz) KM gz) 0 0 (AX ad KM.length sz) :=
  met_of (own := RX7) pnX7 rfl (Nat.le_of_ble_eq_true rfl) (fun p e s m below meth c ls C hw hsz hl => w_X7_checkLinks_0 C hx hw hl h)
set_option maxHeartbeats 4000000 in
set_option maxRecDepth 100000 in
theorem w_X7_store_174 {r : Int32} {gz : GM} (kb174 : Int32 × GM → Option (Int32 × GM)) (hk174 : ∀ (x1 : Int32) (g : GM) (H : Heap) (locs : List Loc) (ls : Array Slot), WS D cA ev hr ad A KM s H locs g → lv_has ls 2 [(0, .ref (ad 0)), (1, .int x1)] → kb174 (x1, g) = some (r, gz) → W p l e (RM 6 0 0) s m args below meth c H locs 0 0 (MQ below (QI D cA ev hr ad A KM r gz) args s 0 0 A) (F0 m 174 ls [])) (C : CX p s m args meth c RX7 yX7_store cX7_store 2 (some .int) D cA) (hx : HM hr ad) {H : Heap} {locs : List Loc} {x1 : Int32} {g : GM} (hw : WS D cA ev hr ad A KM s H locs g) {ls : Array Slot} (hl : lv_has ls 2 [(0, .ref (ad 0)), (1, .int x1)]) (h : F_X7_store_174B kb174 (x1, g) = some (r, gz)) : W p l e (RM 6 0 0) s m args below meth c H locs 0 0 (MQ below (QI D cA ev hr ad A KM r gz) args s 0 0 A) (F0 m 174 ls []) := by
  refine lv_iload_n C.1.1 C.1.2.1 dX7_store_174 rfl (lv_at hl 1 rfl) ?_
  refine lv_bipush (v := 25) C.1.1 C.1.2.1 dX7_store_175 (by decide) ?_
  refine lv_icmp_ge (tgt := 193) C.1.1 C.1.2.1 dX7_store_177 (by decide) (fun hc => ?_) (fun hc => ?_)
  · replace h := ite_pos' h hc
    refine lv_aload_n C.1.1 C.1.2.1 dX7_store_193 rfl (lv_at hl 0 rfl) ?_
    refine lv_iconst (v := 0) C.1.1 C.1.2.1 dX7_store_194 (by decide) ?_
    refine r_putZ C hw km0 fX7_153 rfl rfl (Or.inl rfl) (Or.inl rfl) dX7_store_195 (fun H locs hw => ?_)
    refine lt_gen (P := fun g => WS D cA ev hr ad A KM s H locs g) h hw (fun g_1 h hw => ?_)
    refine lv_aload_n C.1.1 C.1.2.1 dX7_store_198 rfl (lv_at hl 0 rfl) ?_
    refine r_getR (v := .ref (ad 13)) C hw km0 fX7_122 rfl (hm22 hx) dX7_store_199 ?_
    refine lv_aload_n C.1.1 C.1.2.1 dX7_store_202 rfl (lv_at hl 0 rfl) ?_
    refine r_getI C hw km0 fX7_116 rfl dX7_store_203 ?_
    obtain ⟨hz, h⟩ := ck_some h
    refine r_iald C hw km13 (inB_in hz) dX7_store_206 ?_
    cases h
    exact r_iret C hw (Or.inl rfl) dX7_store_207
  · replace h := ite_neg' h hc
    refine lv_aload_n C.1.1 C.1.2.1 dX7_store_180 rfl (lv_at hl 0 rfl) ?_
    refine r_getR (v := .ref (ad 32)) C hw km0 fX7_150 rfl (hm54 hx) dX7_store_181 ?_
    refine lv_iload_n C.1.1 C.1.2.1 dX7_store_184 rfl (lv_at hl 1 rfl) ?_
    refine lv_iconst (v := (-1)) C.1.1 C.1.2.1 dX7_store_185 (by decide) ?_
    obtain ⟨hz, h⟩ := ck_some h
    refine r_iast C hw km32 (inB_in hz) dX7_store_186 (fun H locs hw => ?_)
    refine lt_gen (P := fun g => WS D cA ev hr ad A KM s H locs g) h hw (fun g_2 h hw => ?_)
    refine lv_iinc (v := x1 + 1) (lv' := [(1, .int (x1 + 1)), (0, .ref (ad 0))]) C.1.1 C.1.2.1 dX7_store_187 hl (k := 1) rfl rfl (by decide) rfl (fun ls hl => ?_)
    refine lt_gen (P := fun x => lv_has ls 2 [(1, .int x), (0, .ref (ad 0))]) h hl (fun x1_3 h hl => ?_)
    refine lv_goto (tgt := 174) C.1.1 C.1.2.1 dX7_store_190 (by decide) ?_
    exact hk174 _ _ _ _ _ hw (lv_sub hl [1, 0] rfl) h
set_option maxHeartbeats 4000000 in
set_option maxRecDepth 100000 in
theorem w_X7_store_174L {r : Int32} {gz : GM} (C : CX p s m args meth c RX7 yX7_store cX7_store 2 (some .int) D cA) (hx : HM hr ad) : ∀ (n : Nat) (x1 : Int32) (g : GM) (H : Heap) (locs : List Loc) (ls : Array Slot), WS D cA ev hr ad A KM s H locs g → lv_has ls 2 [(0, .ref (ad 0)), (1, .int x1)] → fixN (F_X7_store_174B) n (x1, g) = some (r, gz) → W p l e (RM 6 0 0) s m args below meth c H locs 0 0 (MQ below (QI D cA ev hr ad A KM r gz) args s 0 0 A) (F0 m 174 ls []) := by
  intro n
  induction n with
  | zero => intro x1 g H locs ls hw hl h; exact (fix_zero h).elim
  | succ n ih => intro x1 g H locs ls hw hl h; exact w_X7_store_174 (fixN (F_X7_store_174B) n) ih C hx hw hl h
set_option maxHeartbeats 4000000 in
set_option maxRecDepth 100000 in
theorem w_X7_store_135 {g : GM} {r : Int32} {gz : GM} (C : CX p s m args meth c RX7 yX7_store cX7_store 2 (some .int) D cA) (hx : HM hr ad) {H : Heap} {locs : List Loc} (hw : WS D cA ev hr ad A KM s H locs g) {ls : Array Slot} (hl : lv_has ls 2 [(0, .ref (ad 0))]) (h : F_X7_store_135 g = some (r, gz)) : W p l e (RM 6 0 0) s m args below meth c H locs 0 0 (MQ below (QI D cA ev hr ad A KM r gz) args s 0 0 A) (F0 m 135 ls []) := by
  refine lv_aload_n C.1.1 C.1.2.1 dX7_store_135 rfl (lv_at hl 0 rfl) ?_
  obtain ⟨r_4, hc, h⟩ := bnd_some h
  refine r_vI (dc := 1) (As := []) (rest := []) C hw vX7_81 km0 (by decide) rfl (fun sz => c_X7_isGood hx hc sz) (by decide) rfl rfl hl.1 (Nat.le_of_ble_eq_true rfl) dX7_store_136 ⟨Nat.le_refl _, Nat.le_refl _⟩ (fun H locs hw => ?_)
  refine lv_if_ne (tgt := 144) C.1.1 C.1.2.1 dX7_store_139 (by decide) (fun hc => ?_) (fun hc => ?_)
  · replace h := ite_neg' h hc
    refine lv_aload_n C.1.1 C.1.2.1 dX7_store_144 rfl (lv_at hl 0 rfl) ?_
    refine lv_aload_n C.1.1 C.1.2.1 dX7_store_145 rfl (lv_at hl 0 rfl) ?_
    refine r_getI C hw km0 fX7_119 rfl dX7_store_146 ?_
    refine r_putI C hw km0 fX7_116 rfl rfl (Or.inl rfl) dX7_store_149 (fun H locs hw => ?_)
    refine lt_gen (P := fun g => WS D cA ev hr ad A KM s H locs g) h hw (fun g_5 h hw => ?_)
    refine lv_aload_n C.1.1 C.1.2.1 dX7_store_152 rfl (lv_at hl 0 rfl) ?_
    refine r_getR (v := .ref (ad 14)) C hw km0 fX7_138 rfl (hm25 hx) dX7_store_153 ?_
    refine lv_aload_n C.1.1 C.1.2.1 dX7_store_156 rfl (lv_at hl 0 rfl) ?_
    refine r_getI C hw km0 fX7_141 rfl dX7_store_157 ?_
    refine lv_iconst (v := 0) C.1.1 C.1.2.1 dX7_store_160 (by decide) ?_
    obtain ⟨hz, h⟩ := ck_some h
    refine r_iast C hw km14 (inB_in hz) dX7_store_161 (fun H locs hw => ?_)
    refine lt_gen (P := fun g => WS D cA ev hr ad A KM s H locs g) h hw (fun g_6 h hw => ?_)
    refine lv_aload_n C.1.1 C.1.2.1 dX7_store_162 rfl (lv_at hl 0 rfl) ?_
    refine lv_iconst (v := 0) C.1.1 C.1.2.1 dX7_store_163 (by decide) ?_
    refine r_putI C hw km0 fX7_144 rfl rfl (Or.inl rfl) dX7_store_164 (fun H locs hw => ?_)
    refine lt_gen (P := fun g => WS D cA ev hr ad A KM s H locs g) h hw (fun g_7 h hw => ?_)
    refine lv_aload_n C.1.1 C.1.2.1 dX7_store_167 rfl (lv_at hl 0 rfl) ?_
    refine lv_iconst (v := 0) C.1.1 C.1.2.1 dX7_store_168 (by decide) ?_
    refine r_putI C hw km0 fX7_147 rfl rfl (Or.inl rfl) dX7_store_169 (fun H locs hw => ?_)
    refine lt_gen (P := fun g => WS D cA ev hr ad A KM s H locs g) h hw (fun g_8 h hw => ?_)
    refine lv_iconst (v := 0) C.1.1 C.1.2.1 dX7_store_172 (by decide) ?_
    refine lv_istore_n (lv' := [(1, .int 0), (0, .ref (ad 0))]) C.1.1 C.1.2.1 dX7_store_173 rfl hl (by decide) rfl (fun ls hl => ?_)
    exact w_X7_store_174L C hx FU _ _ _ _ _ hw (lv_sub hl [1, 0] rfl) h
  · replace h := ite_pos' h hc
    refine lv_iconst (v := (-1)) C.1.1 C.1.2.1 dX7_store_142 (by decide) ?_
    cases h
    exact r_iret C hw (Or.inl rfl) dX7_store_143
set_option maxHeartbeats 4000000 in
set_option maxRecDepth 100000 in
theorem w_X7_store_96 {r : Int32} {gz : GM} (kb96 : Int32 × GM → Option (Int32 × GM)) (hk96 : ∀ (x1 : Int32) (g : GM) (H : Heap) (locs : List Loc) (ls : Array Slot), WS D cA ev hr ad A KM s H locs g → lv_has ls 2 [(0, .ref (ad 0)), (1, .int x1)] → kb96 (x1, g) = some (r, gz) → W p l e (RM 6 0 0) s m args below meth c H locs 0 0 (MQ below (QI D cA ev hr ad A KM r gz) args s 0 0 A) (F0 m 96 ls [])) (C : CX p s m args meth c RX7 yX7_store cX7_store 2 (some .int) D cA) (hx : HM hr ad) {H : Heap} {locs : List Loc} {x1 : Int32} {g : GM} (hw : WS D cA ev hr ad A KM s H locs g) {ls : Array Slot} (hl : lv_has ls 2 [(0, .ref (ad 0)), (1, .int x1)]) (h : F_X7_store_96B kb96 (x1, g) = some (r, gz)) : W p l e (RM 6 0 0) s m args below meth c H locs 0 0 (MQ below (QI D cA ev hr ad A KM r gz) args s 0 0 A) (F0 m 96 ls []) := by
  refine lv_iload_n C.1.1 C.1.2.1 dX7_store_96 rfl (lv_at hl 1 rfl) ?_
  refine lv_aload_n C.1.1 C.1.2.1 dX7_store_97 rfl (lv_at hl 0 rfl) ?_
  refine r_getR (v := .ref (ad 13)) C hw km0 fX7_122 rfl (hm22 hx) dX7_store_98 ?_
  refine lv_aload_n C.1.1 C.1.2.1 dX7_store_101 rfl (lv_at hl 0 rfl) ?_
  refine r_getI C hw km0 fX7_119 rfl dX7_store_102 ?_
  obtain ⟨hz, h⟩ := ck_some h
  refine r_iald C hw km13 (inB_in hz) dX7_store_105 ?_
  refine lv_icmp_ge (tgt := 135) C.1.1 C.1.2.1 dX7_store_106 (by decide) (fun hc => ?_) (fun hc => ?_)
  · replace h := ite_pos' h hc
    exact w_X7_store_135 C hx hw (lv_sub hl [0] rfl) h
  · replace h := ite_neg' h hc
    refine lv_aload_n C.1.1 C.1.2.1 dX7_store_109 rfl (lv_at hl 0 rfl) ?_
    obtain ⟨r_9, hc, h⟩ := bnd_some h
    refine r_vI (dc := 1) (As := []) (rest := []) C hw vX7_81 km0 (by decide) rfl (fun sz => c_X7_isGood hx hc sz) (by decide) rfl rfl hl.1 (Nat.le_of_ble_eq_true rfl) dX7_store_110 ⟨Nat.le_refl _, Nat.le_refl _⟩ (fun H locs hw => ?_)
    refine lv_if_eq (tgt := 135) C.1.1 C.1.2.1 dX7_store_113 (by decide) (fun hc => ?_) (fun hc => ?_)
    · replace h := ite_pos' h hc
      exact w_X7_store_135 C hx hw (lv_sub hl [0] rfl) h
    · replace h := ite_neg' h hc
      refine lv_aload_n C.1.1 C.1.2.1 dX7_store_116 rfl (lv_at hl 0 rfl) ?_
      refine lv_bipush (v := 16) C.1.1 C.1.2.1 dX7_store_117 (by decide) ?_
      refine lv_aload_n C.1.1 C.1.2.1 dX7_store_119 rfl (lv_at hl 0 rfl) ?_
      refine r_getI C hw km0 fX7_119 rfl dX7_store_120 ?_
      refine lv_imul C.1.1 C.1.2.1 dX7_store_123 ?_
      refine lv_iload_n C.1.1 C.1.2.1 dX7_store_124 rfl (lv_at hl 1 rfl) ?_
      refine lv_iadd C.1.1 C.1.2.1 dX7_store_125 ?_
      obtain ⟨g_10, hc, h⟩ := bnd_some h
      refine r_vV (dc := 2) (As := [.int ((16 * (gi g 0 24)) + x1)]) (rest := []) C hw vX7_134 km0 (by decide) rfl (fun sz => c_X7_checkLinks hx hc sz) (by decide) rfl rfl hl.1 (Nat.le_of_ble_eq_true rfl) dX7_store_126 ⟨Nat.le_refl _, Nat.le_refl _⟩ (fun H locs hw => ?_)
      refine lv_iinc (v := x1 + 1) (lv' := [(1, .int (x1 + 1)), (0, .ref (ad 0))]) C.1.1 C.1.2.1 dX7_store_129 hl (k := 1) rfl rfl (by decide) rfl (fun ls hl => ?_)
      refine lt_gen (P := fun x => lv_has ls 2 [(1, .int x), (0, .ref (ad 0))]) h hl (fun x1_11 h hl => ?_)
      refine lv_goto (tgt := 96) C.1.1 C.1.2.1 dX7_store_132 (by decide) ?_
      exact hk96 _ _ _ _ _ hw (lv_sub hl [1, 0] rfl) h
set_option maxHeartbeats 4000000 in
set_option maxRecDepth 100000 in
theorem w_X7_store_96L {r : Int32} {gz : GM} (C : CX p s m args meth c RX7 yX7_store cX7_store 2 (some .int) D cA) (hx : HM hr ad) : ∀ (n : Nat) (x1 : Int32) (g : GM) (H : Heap) (locs : List Loc) (ls : Array Slot), WS D cA ev hr ad A KM s H locs g → lv_has ls 2 [(0, .ref (ad 0)), (1, .int x1)] → fixN (F_X7_store_96B) n (x1, g) = some (r, gz) → W p l e (RM 6 0 0) s m args below meth c H locs 0 0 (MQ below (QI D cA ev hr ad A KM r gz) args s 0 0 A) (F0 m 96 ls []) := by
  intro n
  induction n with
  | zero => intro x1 g H locs ls hw hl h; exact (fix_zero h).elim
  | succ n ih => intro x1 g H locs ls hw hl h; exact w_X7_store_96 (fixN (F_X7_store_96B) n) ih C hx hw hl h
set_option maxHeartbeats 4000000 in
set_option maxRecDepth 100000 in
theorem w_X7_store_94 {g : GM} {r : Int32} {gz : GM} (C : CX p s m args meth c RX7 yX7_store cX7_store 2 (some .int) D cA) (hx : HM hr ad) {H : Heap} {locs : List Loc} (hw : WS D cA ev hr ad A KM s H locs g) {ls : Array Slot} (hl : lv_has ls 2 [(0, .ref (ad 0))]) (h : F_X7_store_94 g = some (r, gz)) : W p l e (RM 6 0 0) s m args below meth c H locs 0 0 (MQ below (QI D cA ev hr ad A KM r gz) args s 0 0 A) (F0 m 94 ls []) := by
  refine lv_iconst (v := 0) C.1.1 C.1.2.1 dX7_store_94 (by decide) ?_
  refine lv_istore_n (lv' := [(1, .int 0), (0, .ref (ad 0))]) C.1.1 C.1.2.1 dX7_store_95 rfl hl (by decide) rfl (fun ls hl => ?_)
  exact w_X7_store_96L C hx FU _ _ _ _ _ hw (lv_sub hl [1, 0] rfl) h
set_option maxHeartbeats 4000000 in
set_option maxRecDepth 100000 in
theorem w_X7_store_39 {r : Int32} {gz : GM} (kb39 : GM → Option (Int32 × GM)) (hk39 : ∀ (g : GM) (H : Heap) (locs : List Loc) (ls : Array Slot), WS D cA ev hr ad A KM s H locs g → lv_has ls 2 [(0, .ref (ad 0))] → kb39 g = some (r, gz) → W p l e (RM 6 0 0) s m args below meth c H locs 0 0 (MQ below (QI D cA ev hr ad A KM r gz) args s 0 0 A) (F0 m 39 ls [])) (C : CX p s m args meth c RX7 yX7_store cX7_store 2 (some .int) D cA) (hx : HM hr ad) {H : Heap} {locs : List Loc} {g : GM} (hw : WS D cA ev hr ad A KM s H locs g) {ls : Array Slot} (hl : lv_has ls 2 [(0, .ref (ad 0))]) (h : F_X7_store_39B kb39 g = some (r, gz)) : W p l e (RM 6 0 0) s m args below meth c H locs 0 0 (MQ below (QI D cA ev hr ad A KM r gz) args s 0 0 A) (F0 m 39 ls []) := by
  refine lv_aload_n C.1.1 C.1.2.1 dX7_store_39 rfl (lv_at hl 0 rfl) ?_
  obtain ⟨r_12, hc, h⟩ := bnd_some h
  refine r_vI (dc := 1) (As := []) (rest := []) C hw vX7_81 km0 (by decide) rfl (fun sz => c_X7_isGood hx hc sz) (by decide) rfl rfl hl.1 (Nat.le_of_ble_eq_true rfl) dX7_store_40 ⟨Nat.le_refl _, Nat.le_refl _⟩ (fun H locs hw => ?_)
  refine lv_if_eq (tgt := 94) C.1.1 C.1.2.1 dX7_store_43 (by decide) (fun hc => ?_) (fun hc => ?_)
  · replace h := ite_pos' h hc
    exact w_X7_store_94 C hx hw hl h
  · replace h := ite_neg' h hc
    refine lv_aload_n C.1.1 C.1.2.1 dX7_store_46 rfl (lv_at hl 0 rfl) ?_
    refine r_getI C hw km0 fX7_53 rfl dX7_store_47 ?_
    refine lv_if_eq (tgt := 94) C.1.1 C.1.2.1 dX7_store_50 (by decide) (fun hc => ?_) (fun hc => ?_)
    · replace h := ite_pos' h hc
      exact w_X7_store_94 C hx hw hl h
    · replace h := ite_neg' h hc
      refine lv_aload_n C.1.1 C.1.2.1 dX7_store_53 rfl (lv_at hl 0 rfl) ?_
      refine lv_ldc2 (v := 499850046565) C.1.1 C.1.2.1 C.1.2.2.2.1 (C.w kc810) dX7_store_54 ?_
      obtain ⟨r_13, hc, h⟩ := bnd_some h
      refine r_vI (dc := 1) (As := [.long 499850046565]) (rest := []) C hw vX7_125 km0 (by decide) rfl (fun sz => c_X7_isWord hx hc sz) (by decide) rfl rfl hl.1 (Nat.le_of_ble_eq_true rfl) dX7_store_57 ⟨Nat.le_refl _, Nat.le_refl _⟩ (fun H locs hw => ?_)
      refine lv_if_eq (tgt := 70) C.1.1 C.1.2.1 dX7_store_60 (by decide) (fun hc => ?_) (fun hc => ?_)
      · replace h := ite_pos' h hc
        refine lv_aload_n C.1.1 C.1.2.1 dX7_store_70 rfl (lv_at hl 0 rfl) ?_
        refine lv_ldc2 (v := 7499639) C.1.1 C.1.2.1 C.1.2.2.2.1 (C.w kc811) dX7_store_71 ?_
        obtain ⟨r_14, hc, h⟩ := bnd_some h
        refine r_vI (dc := 1) (As := [.long 7499639]) (rest := []) C hw vX7_125 km0 (by decide) rfl (fun sz => c_X7_isWord hx hc sz) (by decide) rfl rfl hl.1 (Nat.le_of_ble_eq_true rfl) dX7_store_74 ⟨Nat.le_refl _, Nat.le_refl _⟩ (fun H locs hw => ?_)
        refine lv_if_eq (tgt := 87) C.1.1 C.1.2.1 dX7_store_77 (by decide) (fun hc => ?_) (fun hc => ?_)
        · replace h := ite_pos' h hc
          refine lv_aload_n C.1.1 C.1.2.1 dX7_store_87 rfl (lv_at hl 0 rfl) ?_
          obtain ⟨g_15, hc, h⟩ := bnd_some h
          refine r_vV (dc := 2) (As := []) (rest := []) C hw vX7_89 km0 (by decide) rfl (fun sz => c_X7_wrong hx hc sz) (by decide) rfl rfl hl.1 (Nat.le_of_ble_eq_true rfl) dX7_store_88 ⟨Nat.le_refl _, Nat.le_refl _⟩ (fun H locs hw => ?_)
          refine lv_goto (tgt := 39) C.1.1 C.1.2.1 dX7_store_91 (by decide) ?_
          exact hk39 _ _ _ _ hw hl h
        · replace h := ite_neg' h hc
          refine lv_aload_n C.1.1 C.1.2.1 dX7_store_80 rfl (lv_at hl 0 rfl) ?_
          obtain ⟨g_16, hc, h⟩ := bnd_some h
          refine r_vV (dc := 5) (As := []) (rest := []) C hw vX7_131 km0 (by decide) rfl (fun sz => c_X7_readRow hx hc sz) (by decide) rfl rfl hl.1 (Nat.le_of_ble_eq_true rfl) dX7_store_81 ⟨Nat.le_refl _, Nat.le_refl _⟩ (fun H locs hw => ?_)
          refine lv_goto (tgt := 39) C.1.1 C.1.2.1 dX7_store_84 (by decide) ?_
          exact hk39 _ _ _ _ hw hl h
      · replace h := ite_neg' h hc
        refine lv_aload_n C.1.1 C.1.2.1 dX7_store_63 rfl (lv_at hl 0 rfl) ?_
        obtain ⟨g_17, hc, h⟩ := bnd_some h
        refine r_vV (dc := 4) (As := []) (rest := []) C hw vX7_128 km0 (by decide) rfl (fun sz => c_X7_readTable hx hc sz) (by decide) rfl rfl hl.1 (Nat.le_of_ble_eq_true rfl) dX7_store_64 ⟨Nat.le_refl _, Nat.le_refl _⟩ (fun H locs hw => ?_)
        refine lv_goto (tgt := 39) C.1.1 C.1.2.1 dX7_store_67 (by decide) ?_
        exact hk39 _ _ _ _ hw hl h
set_option maxHeartbeats 4000000 in
set_option maxRecDepth 100000 in
theorem w_X7_store_39L {r : Int32} {gz : GM} (C : CX p s m args meth c RX7 yX7_store cX7_store 2 (some .int) D cA) (hx : HM hr ad) : ∀ (n : Nat) (g : GM) (H : Heap) (locs : List Loc) (ls : Array Slot), WS D cA ev hr ad A KM s H locs g → lv_has ls 2 [(0, .ref (ad 0))] → fixN (F_X7_store_39B) n g = some (r, gz) → W p l e (RM 6 0 0) s m args below meth c H locs 0 0 (MQ below (QI D cA ev hr ad A KM r gz) args s 0 0 A) (F0 m 39 ls []) := by
  intro n
  induction n with
  | zero => intro g H locs ls hw hl h; exact (fix_zero h).elim
  | succ n ih => intro g H locs ls hw hl h; exact w_X7_store_39 (fixN (F_X7_store_39B) n) ih C hx hw hl h
set_option maxHeartbeats 4000000 in
set_option maxRecDepth 100000 in
theorem w_X7_store_0 (C : CX p s m args meth c RX7 yX7_store cX7_store 2 (some .int) D cA) (hx : HM hr ad) {H : Heap} {locs : List Loc} {g : GM} (hw : WS D cA ev hr ad A KM s H locs g) {ls : Array Slot} (hl : lv_has ls 2 [(0, .ref (ad 0))]) {r : Int32} {gz : GM} (h : F_X7_store g = some (r, gz)) : W p l e (RM 6 0 0) s m args below meth c H locs 0 0 (MQ below (QI D cA ev hr ad A KM r gz) args s 0 0 A) (F0 m 0 ls []) := by
  refine lv_aload_n C.1.1 C.1.2.1 dX7_store_0 rfl (lv_at hl 0 rfl) ?_
  refine lv_iconst (v := 0) C.1.1 C.1.2.1 dX7_store_1 (by decide) ?_
  obtain ⟨g_18, hc, h⟩ := bnd_some h
  refine r_vV (dc := 1) (As := [.int 0]) (rest := []) C hw vX7_112 km0 (by decide) rfl (fun sz => c_X7_takeTape hx hc sz) (by decide) rfl rfl hl.1 (Nat.le_of_ble_eq_true rfl) dX7_store_2 ⟨Nat.le_refl _, Nat.le_refl _⟩ (fun H locs hw => ?_)
  refine lv_aload_n C.1.1 C.1.2.1 dX7_store_5 rfl (lv_at hl 0 rfl) ?_
  refine lv_iconst (v := 1) C.1.1 C.1.2.1 dX7_store_6 (by decide) ?_
  refine lv_aload_n C.1.1 C.1.2.1 dX7_store_7 rfl (lv_at hl 0 rfl) ?_
  refine r_getI C hw km0 fX7_116 rfl dX7_store_8 ?_
  refine lv_isub C.1.1 C.1.2.1 dX7_store_11 ?_
  refine r_putI C hw km0 fX7_119 rfl rfl (Or.inl rfl) dX7_store_12 (fun H locs hw => ?_)
  refine lt_gen (P := fun g => WS D cA ev hr ad A KM s H locs g) h hw (fun g_19 h hw => ?_)
  refine lv_aload_n C.1.1 C.1.2.1 dX7_store_15 rfl (lv_at hl 0 rfl) ?_
  refine r_getR (v := .ref (ad 12)) C hw km0 fX7_98 rfl (hm21 hx) dX7_store_16 ?_
  refine lv_aload_n C.1.1 C.1.2.1 dX7_store_19 rfl (lv_at hl 0 rfl) ?_
  refine r_getI C hw km0 fX7_119 rfl dX7_store_20 ?_
  refine lv_iconst (v := 0) C.1.1 C.1.2.1 dX7_store_23 (by decide) ?_
  obtain ⟨hz, h⟩ := ck_some h
  refine r_iast C hw km12 (inB_in hz) dX7_store_24 (fun H locs hw => ?_)
  refine lt_gen (P := fun g => WS D cA ev hr ad A KM s H locs g) h hw (fun g_20 h hw => ?_)
  refine lv_aload_n C.1.1 C.1.2.1 dX7_store_25 rfl (lv_at hl 0 rfl) ?_
  refine r_getR (v := .ref (ad 13)) C hw km0 fX7_122 rfl (hm22 hx) dX7_store_26 ?_
  refine lv_aload_n C.1.1 C.1.2.1 dX7_store_29 rfl (lv_at hl 0 rfl) ?_
  refine r_getI C hw km0 fX7_119 rfl dX7_store_30 ?_
  refine lv_iconst (v := 0) C.1.1 C.1.2.1 dX7_store_33 (by decide) ?_
  obtain ⟨hz, h⟩ := ck_some h
  refine r_iast C hw km13 (inB_in hz) dX7_store_34 (fun H locs hw => ?_)
  refine lt_gen (P := fun g => WS D cA ev hr ad A KM s H locs g) h hw (fun g_21 h hw => ?_)
  refine lv_aload_n C.1.1 C.1.2.1 dX7_store_35 rfl (lv_at hl 0 rfl) ?_
  obtain ⟨g_22, hc, h⟩ := bnd_some h
  refine r_vV (dc := 2) (As := []) (rest := []) C hw vX7_85 km0 (by decide) rfl (fun sz => c_X7_next hx hc sz) (by decide) rfl rfl hl.1 (Nat.le_of_ble_eq_true rfl) dX7_store_36 ⟨Nat.le_refl _, Nat.le_refl _⟩ (fun H locs hw => ?_)
  exact w_X7_store_39L C hx FU _ _ _ _ hw hl h
set_option maxHeartbeats 4000000 in
set_option maxRecDepth 100000 in
theorem c_X7_store (hx : HM hr ad) {g : GM} {r : Int32} {gz : GM} (h : F_X7_store g = some (r, gz)) (sz : Nat) : Met l yX7_store (WSX yX7_store cX7_store 2 (some .int)) (RM 6 0 0) (va_Pc [.ref (ad 0)] (PX D cA ev hr ad KM g sz)) (QI D cA ev hr ad (AX ad KM.length sz) KM r gz) 0 0 (AX ad KM.length sz) :=
  met_of (own := RX7) pnX7 rfl (Nat.le_of_ble_eq_true rfl) (fun p e s m below meth c ls C hw hsz hl => w_X7_store_0 C hx hw hl h)
set_option maxHeartbeats 4000000 in
set_option maxRecDepth 100000 in
theorem w_X7_fault_0 (C : CX p s m args meth c RX7 yX7_fault cX7_fault 2 (some .int) D cA) (hx : HM hr ad) {H : Heap} {locs : List Loc} {g : GM} (hw : WS D cA ev hr ad A KM s H locs g) {a1 : Int32} {ls : Array Slot} (hl : lv_has ls 2 [(0, .ref (ad 0)), (1, .int a1)]) {r : Int32} (h : F_X7_fault a1 g = some r) : W p l e (RM 1 0 0) s m args below meth c H locs 0 0 (MQ below (QI D cA ev hr ad A KM r g) args s 0 0 A) (F0 m 0 ls []) := by
  refine lv_iload_n C.1.1 C.1.2.1 dX7_fault_0 rfl (lv_at hl 1 rfl) ?_
  refine lv_if_ne (tgt := 11) C.1.1 C.1.2.1 dX7_fault_1 (by decide) (fun hc => ?_) (fun hc => ?_)
  · replace h := ite_neg' h hc
    refine lv_iload_n C.1.1 C.1.2.1 dX7_fault_11 rfl (lv_at hl 1 rfl) ?_
    refine lv_iconst (v := 1) C.1.1 C.1.2.1 dX7_fault_12 (by decide) ?_
    refine lv_icmp_ne (tgt := 23) C.1.1 C.1.2.1 dX7_fault_13 (by decide) (fun hc => ?_) (fun hc => ?_)
    · replace h := ite_neg' h hc
      refine lv_iconst (v := (-1)) C.1.1 C.1.2.1 dX7_fault_23 (by decide) ?_
      cases h
      exact r_iret C hw (Or.inl rfl) dX7_fault_24
    · replace h := ite_pos' h hc
      refine lv_aload_n C.1.1 C.1.2.1 dX7_fault_16 rfl (lv_at hl 0 rfl) ?_
      refine r_getI C hw km0 fX7_14 rfl dX7_fault_17 ?_
      refine lv_goto (tgt := 24) C.1.1 C.1.2.1 dX7_fault_20 (by decide) ?_
      cases h
      exact r_iret C hw (Or.inl rfl) dX7_fault_24
  · replace h := ite_pos' h hc
    refine lv_aload_n C.1.1 C.1.2.1 dX7_fault_4 rfl (lv_at hl 0 rfl) ?_
    refine r_getI C hw km0 fX7_11 rfl dX7_fault_5 ?_
    refine lv_goto (tgt := 24) C.1.1 C.1.2.1 dX7_fault_8 (by decide) ?_
    cases h
    exact r_iret C hw (Or.inl rfl) dX7_fault_24
set_option maxHeartbeats 4000000 in
set_option maxRecDepth 100000 in
theorem c_X7_fault (hx : HM hr ad) {a1 : Int32} {g : GM} {r : Int32} (h : F_X7_fault a1 g = some r) (sz : Nat) : Met l yX7_fault (WSX yX7_fault cX7_fault 2 (some .int)) (RM 1 0 0) (va_Pc [.ref (ad 0), .int a1] (PX D cA ev hr ad KM g sz)) (QI D cA ev hr ad (AX ad KM.length sz) KM r g) 0 0 (AX ad KM.length sz) :=
  met_of (own := RX7) pnX7 rfl (Nat.le_of_ble_eq_true rfl) (fun p e s m below meth c ls C hw hsz hl => w_X7_fault_0 C hx hw hl h)
set_option maxHeartbeats 4000000 in
set_option maxRecDepth 100000 in
theorem w_X7_isRow_21 {g : GM} {r : Int32} (C : CX p s m args meth c RX7 yX7_isRow cX7_isRow 2 (some .boolean) D cA) (hx : HM hr ad) {H : Heap} {locs : List Loc} (hw : WS D cA ev hr ad A KM s H locs g) {ls : Array Slot} (hl : lv_has ls 2 []) (h : F_X7_isRow_21 g = some r) : W p l e (RM 1 0 0) s m args below meth c H locs 0 0 (MQ below (QI D cA ev hr ad A KM r g) args s 0 0 A) (F0 m 21 ls []) := by
  refine lv_iconst (v := 0) C.1.1 C.1.2.1 dX7_isRow_21 (by decide) ?_
  cases h
  exact r_iret C hw (Or.inr ⟨rfl, Or.inl rfl⟩) dX7_isRow_22
set_option maxHeartbeats 4000000 in
set_option maxRecDepth 100000 in
theorem w_X7_isRow_0 (C : CX p s m args meth c RX7 yX7_isRow cX7_isRow 2 (some .boolean) D cA) (hx : HM hr ad) {H : Heap} {locs : List Loc} {g : GM} (hw : WS D cA ev hr ad A KM s H locs g) {a1 : Int32} {ls : Array Slot} (hl : lv_has ls 2 [(0, .ref (ad 0)), (1, .int a1)]) {r : Int32} (h : F_X7_isRow a1 g = some r) : W p l e (RM 1 0 0) s m args below meth c H locs 0 0 (MQ below (QI D cA ev hr ad A KM r g) args s 0 0 A) (F0 m 0 ls []) := by
  refine lv_iload_n C.1.1 C.1.2.1 dX7_isRow_0 rfl (lv_at hl 1 rfl) ?_
  refine lv_if_lt (tgt := 21) C.1.1 C.1.2.1 dX7_isRow_1 (by decide) (fun hc => ?_) (fun hc => ?_)
  · replace h := ite_pos' h hc
    exact w_X7_isRow_21 C hx hw (lv_sub hl [] rfl) h
  · replace h := ite_neg' h hc
    refine lv_iload_n C.1.1 C.1.2.1 dX7_isRow_4 rfl (lv_at hl 1 rfl) ?_
    refine lv_aload_n C.1.1 C.1.2.1 dX7_isRow_5 rfl (lv_at hl 0 rfl) ?_
    refine r_getR (v := .ref (ad 13)) C hw km0 fX7_122 rfl (hm22 hx) dX7_isRow_6 ?_
    refine lv_aload_n C.1.1 C.1.2.1 dX7_isRow_9 rfl (lv_at hl 0 rfl) ?_
    refine r_getI C hw km0 fX7_116 rfl dX7_isRow_10 ?_
    obtain ⟨hz, h⟩ := ck_some h
    refine r_iald C hw km13 (inB_in hz) dX7_isRow_13 ?_
    refine lv_icmp_ge (tgt := 21) C.1.1 C.1.2.1 dX7_isRow_14 (by decide) (fun hc => ?_) (fun hc => ?_)
    · replace h := ite_pos' h hc
      exact w_X7_isRow_21 C hx hw (lv_sub hl [] rfl) h
    · replace h := ite_neg' h hc
      refine lv_iconst (v := 1) C.1.1 C.1.2.1 dX7_isRow_17 (by decide) ?_
      refine lv_goto (tgt := 22) C.1.1 C.1.2.1 dX7_isRow_18 (by decide) ?_
      cases h
      exact r_iret C hw (Or.inr ⟨rfl, Or.inr rfl⟩) dX7_isRow_22
set_option maxHeartbeats 4000000 in
set_option maxRecDepth 100000 in
theorem c_X7_isRow (hx : HM hr ad) {a1 : Int32} {g : GM} {r : Int32} (h : F_X7_isRow a1 g = some r) (sz : Nat) : Met l yX7_isRow (WSX yX7_isRow cX7_isRow 2 (some .boolean)) (RM 1 0 0) (va_Pc [.ref (ad 0), .int a1] (PX D cA ev hr ad KM g sz)) (QI D cA ev hr ad (AX ad KM.length sz) KM r g) 0 0 (AX ad KM.length sz) :=
  met_of (own := RX7) pnX7 rfl (Nat.le_of_ble_eq_true rfl) (fun p e s m below meth c ls C hw hsz hl => w_X7_isRow_0 C hx hw hl h)
set_option maxHeartbeats 4000000 in
set_option maxRecDepth 100000 in
theorem w_X7_tableAt_0 (C : CX p s m args meth c RX7 yX7_tableAt cX7_tableAt 2 (some .int) D cA) (hx : HM hr ad) {H : Heap} {locs : List Loc} {g : GM} (hw : WS D cA ev hr ad A KM s H locs g) {a1 : Int32} {ls : Array Slot} (hl : lv_has ls 2 [(0, .ref (ad 0)), (1, .int a1)]) {r : Int32} (h : F_X7_tableAt a1 g = some r) : W p l e (RM 1 0 0) s m args below meth c H locs 0 0 (MQ below (QI D cA ev hr ad A KM r g) args s 0 0 A) (F0 m 0 ls []) := by
  refine lv_aload_n C.1.1 C.1.2.1 dX7_tableAt_0 rfl (lv_at hl 0 rfl) ?_
  refine r_getR (v := .ref (ad 8)) C hw km0 fX7_182 rfl (hm17 hx) dX7_tableAt_1 ?_
  refine lv_bipush (v := 16) C.1.1 C.1.2.1 dX7_tableAt_4 (by decide) ?_
  refine lv_aload_n C.1.1 C.1.2.1 dX7_tableAt_6 rfl (lv_at hl 0 rfl) ?_
  refine r_getI C hw km0 fX7_116 rfl dX7_tableAt_7 ?_
  refine lv_imul C.1.1 C.1.2.1 dX7_tableAt_10 ?_
  refine lv_iload_n C.1.1 C.1.2.1 dX7_tableAt_11 rfl (lv_at hl 1 rfl) ?_
  refine lv_iadd C.1.1 C.1.2.1 dX7_tableAt_12 ?_
  obtain ⟨hz, h⟩ := ck_some h
  refine r_iald C hw km8 (inB_in hz) dX7_tableAt_13 ?_
  cases h
  exact r_iret C hw (Or.inl rfl) dX7_tableAt_14
set_option maxHeartbeats 4000000 in
set_option maxRecDepth 100000 in
theorem c_X7_tableAt (hx : HM hr ad) {a1 : Int32} {g : GM} {r : Int32} (h : F_X7_tableAt a1 g = some r) (sz : Nat) : Met l yX7_tableAt (WSX yX7_tableAt cX7_tableAt 2 (some .int)) (RM 1 0 0) (va_Pc [.ref (ad 0), .int a1] (PX D cA ev hr ad KM g sz)) (QI D cA ev hr ad (AX ad KM.length sz) KM r g) 0 0 (AX ad KM.length sz) :=
  met_of (own := RX7) pnX7 rfl (Nat.le_of_ble_eq_true rfl) (fun p e s m below meth c ls C hw hsz hl => w_X7_tableAt_0 C hx hw hl h)
set_option maxHeartbeats 4000000 in
set_option maxRecDepth 100000 in
theorem w_X7_numberAt_0 (C : CX p s m args meth c RX7 yX7_numberAt cX7_numberAt 2 (some .int) D cA) (hx : HM hr ad) {H : Heap} {locs : List Loc} {g : GM} (hw : WS D cA ev hr ad A KM s H locs g) {a1 : Int32} {ls : Array Slot} (hl : lv_has ls 2 [(0, .ref (ad 0)), (1, .int a1)]) {r : Int32} (h : F_X7_numberAt a1 g = some r) : W p l e (RM 1 0 0) s m args below meth c H locs 0 0 (MQ below (QI D cA ev hr ad A KM r g) args s 0 0 A) (F0 m 0 ls []) := by
  refine lv_aload_n C.1.1 C.1.2.1 dX7_numberAt_0 rfl (lv_at hl 0 rfl) ?_
  refine r_getR (v := .ref (ad 9)) C hw km0 fX7_185 rfl (hm18 hx) dX7_numberAt_1 ?_
  refine lv_bipush (v := 16) C.1.1 C.1.2.1 dX7_numberAt_4 (by decide) ?_
  refine lv_aload_n C.1.1 C.1.2.1 dX7_numberAt_6 rfl (lv_at hl 0 rfl) ?_
  refine r_getI C hw km0 fX7_116 rfl dX7_numberAt_7 ?_
  refine lv_imul C.1.1 C.1.2.1 dX7_numberAt_10 ?_
  refine lv_iload_n C.1.1 C.1.2.1 dX7_numberAt_11 rfl (lv_at hl 1 rfl) ?_
  refine lv_iadd C.1.1 C.1.2.1 dX7_numberAt_12 ?_
  obtain ⟨hz, h⟩ := ck_some h
  refine r_iald C hw km9 (inB_in hz) dX7_numberAt_13 ?_
  cases h
  exact r_iret C hw (Or.inl rfl) dX7_numberAt_14
set_option maxHeartbeats 4000000 in
set_option maxRecDepth 100000 in
theorem c_X7_numberAt (hx : HM hr ad) {a1 : Int32} {g : GM} {r : Int32} (h : F_X7_numberAt a1 g = some r) (sz : Nat) : Met l yX7_numberAt (WSX yX7_numberAt cX7_numberAt 2 (some .int)) (RM 1 0 0) (va_Pc [.ref (ad 0), .int a1] (PX D cA ev hr ad KM g sz)) (QI D cA ev hr ad (AX ad KM.length sz) KM r g) 0 0 (AX ad KM.length sz) :=
  met_of (own := RX7) pnX7 rfl (Nat.le_of_ble_eq_true rfl) (fun p e s m below meth c ls C hw hsz hl => w_X7_numberAt_0 C hx hw hl h)
set_option maxHeartbeats 4000000 in
set_option maxRecDepth 100000 in
theorem w_X7_valueAt_87 {x3 : Int32} {x4 : Int32} {x5 : Int32} {g : GM} {r : Int32} (kb49 : Int32 → Option (Int32)) (hk49 : ∀ (x5 : Int32) (H : Heap) (locs : List Loc) (ls : Array Slot), WS D cA ev hr ad A KM s H locs g → lv_has ls 6 [(0, .ref (ad 0)), (3, .int x3), (4, .int x4), (5, .int x5)] → kb49 x5 = some r → W p l e (RM 2 0 0) s m args below meth c H locs 0 0 (MQ below (QI D cA ev hr ad A KM r g) args s 0 0 A) (F0 m 49 ls [])) (C : CX p s m args meth c RX7 yX7_valueAt cX7_valueAt 6 (some .int) D cA) (hx : HM hr ad) {H : Heap} {locs : List Loc} (hw : WS D cA ev hr ad A KM s H locs g) {ls : Array Slot} (hl : lv_has ls 6 [(0, .ref (ad 0)), (3, .int x3), (4, .int x4), (5, .int x5)]) (h : F_X7_valueAt_87 kb49 x3 x4 x5 g = some r) : W p l e (RM 2 0 0) s m args below meth c H locs 0 0 (MQ below (QI D cA ev hr ad A KM r g) args s 0 0 A) (F0 m 87 ls []) := by
  refine lv_iinc (v := x5 + 1) (lv' := [(5, .int (x5 + 1)), (0, .ref (ad 0)), (3, .int x3), (4, .int x4)]) C.1.1 C.1.2.1 dX7_valueAt_87 hl (k := 3) rfl rfl (by decide) rfl (fun ls hl => ?_)
  refine lt_gen (P := fun x => lv_has ls 6 [(5, .int x), (0, .ref (ad 0)), (3, .int x3), (4, .int x4)]) h hl (fun x5_1 h hl => ?_)
  refine lv_goto (tgt := 49) C.1.1 C.1.2.1 dX7_valueAt_90 (by decide) ?_
  exact hk49 _ _ _ _ hw (lv_sub hl [1, 2, 3, 0] rfl) h
set_option maxHeartbeats 4000000 in
set_option maxRecDepth 100000 in
theorem w_X7_valueAt_49 {x3 : Int32} {x4 : Int32} {g : GM} {r : Int32} (kb49 : Int32 → Option (Int32)) (hk49 : ∀ (x5 : Int32) (H : Heap) (locs : List Loc) (ls : Array Slot), WS D cA ev hr ad A KM s H locs g → lv_has ls 6 [(0, .ref (ad 0)), (3, .int x3), (4, .int x4), (5, .int x5)] → kb49 x5 = some r → W p l e (RM 2 0 0) s m args below meth c H locs 0 0 (MQ below (QI D cA ev hr ad A KM r g) args s 0 0 A) (F0 m 49 ls [])) (C : CX p s m args meth c RX7 yX7_valueAt cX7_valueAt 6 (some .int) D cA) (hx : HM hr ad) {H : Heap} {locs : List Loc} {x5 : Int32} (hw : WS D cA ev hr ad A KM s H locs g) {ls : Array Slot} (hl : lv_has ls 6 [(0, .ref (ad 0)), (3, .int x3), (4, .int x4), (5, .int x5)]) (h : F_X7_valueAt_49B x3 x4 g kb49 x5 = some r) : W p l e (RM 2 0 0) s m args below meth c H locs 0 0 (MQ below (QI D cA ev hr ad A KM r g) args s 0 0 A) (F0 m 49 ls []) := by
  refine lv_iload C.1.1 C.1.2.1 dX7_valueAt_49 (lv_at hl 3 rfl) ?_
  refine lv_aload_n C.1.1 C.1.2.1 dX7_valueAt_51 rfl (lv_at hl 0 rfl) ?_
  refine r_getR (v := .ref (ad 13)) C hw km0 fX7_122 rfl (hm22 hx) dX7_valueAt_52 ?_
  refine lv_aload_n C.1.1 C.1.2.1 dX7_valueAt_55 rfl (lv_at hl 0 rfl) ?_
  refine r_getI C hw km0 fX7_116 rfl dX7_valueAt_56 ?_
  obtain ⟨hz, h⟩ := ck_some h
  refine r_iald C hw km13 (inB_in hz) dX7_valueAt_59 ?_
  refine lv_icmp_ge (tgt := 93) C.1.1 C.1.2.1 dX7_valueAt_60 (by decide) (fun hc => ?_) (fun hc => ?_)
  · replace h := ite_pos' h hc
    refine lv_iconst (v := (-1)) C.1.1 C.1.2.1 dX7_valueAt_93 (by decide) ?_
    cases h
    exact r_iret C hw (Or.inl rfl) dX7_valueAt_94
  · replace h := ite_neg' h hc
    refine lv_aload_n C.1.1 C.1.2.1 dX7_valueAt_63 rfl (lv_at hl 0 rfl) ?_
    refine lv_iload C.1.1 C.1.2.1 dX7_valueAt_64 (lv_at hl 3 rfl) ?_
    obtain ⟨r_2, hc, h⟩ := bnd_some h
    refine r_vI (dc := 1) (As := [.int x5]) (rest := []) C hw vX7_194 km0 (by decide) rfl (fun sz => c_X7_tableAt hx hc sz) (by decide) rfl rfl hl.1 (Nat.le_of_ble_eq_true rfl) dX7_valueAt_66 ⟨Nat.le_refl _, Nat.le_refl _⟩ (fun H locs hw => ?_)
    refine lv_iload C.1.1 C.1.2.1 dX7_valueAt_69 (lv_at hl 2 rfl) ?_
    refine lv_icmp_ne (tgt := 87) C.1.1 C.1.2.1 dX7_valueAt_71 (by decide) (fun hc => ?_) (fun hc => ?_)
    · replace h := ite_neg' h hc
      exact w_X7_valueAt_87 kb49 hk49 C hx hw hl h
    · replace h := ite_pos' h hc
      refine lv_aload_n C.1.1 C.1.2.1 dX7_valueAt_74 rfl (lv_at hl 0 rfl) ?_
      refine lv_iload C.1.1 C.1.2.1 dX7_valueAt_75 (lv_at hl 3 rfl) ?_
      obtain ⟨r_3, hc, h⟩ := bnd_some h
      refine r_vI (dc := 1) (As := [.int x5]) (rest := []) C hw vX7_197 km0 (by decide) rfl (fun sz => c_X7_numberAt hx hc sz) (by decide) rfl rfl hl.1 (Nat.le_of_ble_eq_true rfl) dX7_valueAt_77 ⟨Nat.le_refl _, Nat.le_refl _⟩ (fun H locs hw => ?_)
      refine lv_iload_n C.1.1 C.1.2.1 dX7_valueAt_80 rfl (lv_at hl 1 rfl) ?_
      refine lv_icmp_ne (tgt := 87) C.1.1 C.1.2.1 dX7_valueAt_81 (by decide) (fun hc => ?_) (fun hc => ?_)
      · replace h := ite_neg' h hc
        exact w_X7_valueAt_87 kb49 hk49 C hx hw hl h
      · replace h := ite_pos' h hc
        refine lv_iload C.1.1 C.1.2.1 dX7_valueAt_84 (lv_at hl 3 rfl) ?_
        cases h
        exact r_iret C hw (Or.inl rfl) dX7_valueAt_86
set_option maxHeartbeats 4000000 in
set_option maxRecDepth 100000 in
theorem w_X7_valueAt_49L {x3 : Int32} {x4 : Int32} {g : GM} {r : Int32} (C : CX p s m args meth c RX7 yX7_valueAt cX7_valueAt 6 (some .int) D cA) (hx : HM hr ad) : ∀ (n : Nat) (x5 : Int32) (H : Heap) (locs : List Loc) (ls : Array Slot), WS D cA ev hr ad A KM s H locs g → lv_has ls 6 [(0, .ref (ad 0)), (3, .int x3), (4, .int x4), (5, .int x5)] → fixN (F_X7_valueAt_49B x3 x4 g) n x5 = some r → W p l e (RM 2 0 0) s m args below meth c H locs 0 0 (MQ below (QI D cA ev hr ad A KM r g) args s 0 0 A) (F0 m 49 ls []) := by
  intro n
  induction n with
  | zero => intro x5 H locs ls hw hl h; exact (fix_zero h).elim
  | succ n ih => intro x5 H locs ls hw hl h; exact w_X7_valueAt_49 (fixN (F_X7_valueAt_49B x3 x4 g) n) ih C hx hw hl h
set_option maxHeartbeats 4000000 in
set_option maxRecDepth 100000 in
theorem w_X7_valueAt_0 (C : CX p s m args meth c RX7 yX7_valueAt cX7_valueAt 6 (some .int) D cA) (hx : HM hr ad) {H : Heap} {locs : List Loc} {g : GM} (hw : WS D cA ev hr ad A KM s H locs g) {a1 : Int32} {a2 : Int32} {ls : Array Slot} (hl : lv_has ls 6 [(0, .ref (ad 0)), (1, .int a1), (2, .int a2)]) {r : Int32} (h : F_X7_valueAt a1 a2 g = some r) : W p l e (RM 2 0 0) s m args below meth c H locs 0 0 (MQ below (QI D cA ev hr ad A KM r g) args s 0 0 A) (F0 m 0 ls []) := by
  refine lv_aload_n C.1.1 C.1.2.1 dX7_valueAt_0 rfl (lv_at hl 0 rfl) ?_
  refine r_getR (v := .ref (ad 10)) C hw km0 fX7_188 rfl (hm19 hx) dX7_valueAt_1 ?_
  refine lv_iconst (v := 5) C.1.1 C.1.2.1 dX7_valueAt_4 (by decide) ?_
  refine lv_bipush (v := 16) C.1.1 C.1.2.1 dX7_valueAt_5 (by decide) ?_
  refine lv_aload_n C.1.1 C.1.2.1 dX7_valueAt_7 rfl (lv_at hl 0 rfl) ?_
  refine r_getI C hw km0 fX7_116 rfl dX7_valueAt_8 ?_
  refine lv_imul C.1.1 C.1.2.1 dX7_valueAt_11 ?_
  refine lv_iload_n C.1.1 C.1.2.1 dX7_valueAt_12 rfl (lv_at hl 1 rfl) ?_
  refine lv_iadd C.1.1 C.1.2.1 dX7_valueAt_13 ?_
  refine lv_imul C.1.1 C.1.2.1 dX7_valueAt_14 ?_
  refine lv_iload_n C.1.1 C.1.2.1 dX7_valueAt_15 rfl (lv_at hl 2 rfl) ?_
  refine lv_iadd C.1.1 C.1.2.1 dX7_valueAt_16 ?_
  obtain ⟨hz, h⟩ := ck_some h
  refine r_iald C hw km10 (inB_in hz) dX7_valueAt_17 ?_
  refine lv_istore_n (lv' := [(3, .int (gi g 10 ((5 * ((16 * (gi g 0 23)) + a1)) + a2).toNatClampNeg)), (0, .ref (ad 0)), (1, .int a1), (2, .int a2)]) C.1.1 C.1.2.1 dX7_valueAt_18 rfl hl (by decide) rfl (fun ls hl => ?_)
  refine lt_gen (P := fun x => lv_has ls 6 [(3, .int x), (0, .ref (ad 0)), (1, .int a1), (2, .int a2)]) h hl (fun x3_4 h hl => ?_)
  refine lv_aload_n C.1.1 C.1.2.1 dX7_valueAt_19 rfl (lv_at hl 1 rfl) ?_
  refine r_getR (v := .ref (ad 7)) C hw km0 fX7_175 rfl (hm16 hx) dX7_valueAt_20 ?_
  refine lv_iconst (v := 5) C.1.1 C.1.2.1 dX7_valueAt_23 (by decide) ?_
  refine lv_aload_n C.1.1 C.1.2.1 dX7_valueAt_24 rfl (lv_at hl 1 rfl) ?_
  refine lv_iload_n C.1.1 C.1.2.1 dX7_valueAt_25 rfl (lv_at hl 2 rfl) ?_
  obtain ⟨r_5, hc, h⟩ := bnd_some h
  refine r_vI (dc := 1) (As := [.int a1]) (rest := [.int 5, .ref (ad 7)]) C hw vX7_194 km0 (by decide) rfl (fun sz => c_X7_tableAt hx hc sz) (by decide) rfl rfl hl.1 (Nat.le_of_ble_eq_true rfl) dX7_valueAt_26 ⟨Nat.le_refl _, Nat.le_refl _⟩ (fun H locs hw => ?_)
  refine lv_imul C.1.1 C.1.2.1 dX7_valueAt_29 ?_
  refine lv_iload_n C.1.1 C.1.2.1 dX7_valueAt_30 rfl (lv_at hl 3 rfl) ?_
  refine lv_iadd C.1.1 C.1.2.1 dX7_valueAt_31 ?_
  obtain ⟨hz, h⟩ := ck_some h
  refine r_iald C hw km7 (inB_in hz) dX7_valueAt_32 ?_
  refine lv_istore (lv' := [(4, .int (gi g 7 ((5 * r_5) + a2).toNatClampNeg)), (3, .int x3_4), (0, .ref (ad 0)), (1, .int a1), (2, .int a2)]) C.1.1 C.1.2.1 dX7_valueAt_33 hl (by decide) rfl (fun ls hl => ?_)
  refine lt_gen (P := fun x => lv_has ls 6 [(4, .int x), (3, .int x3_4), (0, .ref (ad 0)), (1, .int a1), (2, .int a2)]) h hl (fun x4_6 h hl => ?_)
  refine lv_iload C.1.1 C.1.2.1 dX7_valueAt_35 (lv_at hl 0 rfl) ?_
  refine lv_if_lt (tgt := 44) C.1.1 C.1.2.1 dX7_valueAt_37 (by decide) (fun hc => ?_) (fun hc => ?_)
  · replace h := ite_pos' h hc
    refine lv_iload_n C.1.1 C.1.2.1 dX7_valueAt_44 rfl (lv_at hl 1 rfl) ?_
    cases h
    exact r_iret C hw (Or.inl rfl) dX7_valueAt_45
  · replace h := ite_neg' h hc
    refine lv_iload_n C.1.1 C.1.2.1 dX7_valueAt_40 rfl (lv_at hl 1 rfl) ?_
    refine lv_if_ge (tgt := 46) C.1.1 C.1.2.1 dX7_valueAt_41 (by decide) (fun hc => ?_) (fun hc => ?_)
    · replace h := ite_pos' h hc
      refine lv_iconst (v := 0) C.1.1 C.1.2.1 dX7_valueAt_46 (by decide) ?_
      refine lv_istore (lv' := [(5, .int 0), (4, .int x4_6), (3, .int x3_4), (0, .ref (ad 0)), (1, .int a1), (2, .int a2)]) C.1.1 C.1.2.1 dX7_valueAt_47 hl (by decide) rfl (fun ls hl => ?_)
      exact w_X7_valueAt_49L C hx FU _ _ _ _ hw (lv_sub hl [3, 2, 1, 0] rfl) h
    · replace h := ite_neg' h hc
      refine lv_iload_n C.1.1 C.1.2.1 dX7_valueAt_44 rfl (lv_at hl 1 rfl) ?_
      cases h
      exact r_iret C hw (Or.inl rfl) dX7_valueAt_45
set_option maxHeartbeats 4000000 in
set_option maxRecDepth 100000 in
theorem c_X7_valueAt (hx : HM hr ad) {a1 : Int32} {a2 : Int32} {g : GM} {r : Int32} (h : F_X7_valueAt a1 a2 g = some r) (sz : Nat) : Met l yX7_valueAt (WSX yX7_valueAt cX7_valueAt 6 (some .int)) (RM 2 0 0) (va_Pc [.ref (ad 0), .int a1, .int a2] (PX D cA ev hr ad KM g sz)) (QI D cA ev hr ad (AX ad KM.length sz) KM r g) 0 0 (AX ad KM.length sz) :=
  met_of (own := RX7) pnX7 rfl (Nat.le_of_ble_eq_true rfl) (fun p e s m below meth c ls C hw hsz hl => w_X7_valueAt_0 C hx hw hl h)
set_option maxHeartbeats 4000000 in
set_option maxRecDepth 100000 in
theorem w_X7_hasColumn_30 {g : GM} {r : Int32} (C : CX p s m args meth c RX7 yX7_hasColumn cX7_hasColumn 3 (some .boolean) D cA) (hx : HM hr ad) {H : Heap} {locs : List Loc} (hw : WS D cA ev hr ad A KM s H locs g) {ls : Array Slot} (hl : lv_has ls 3 []) (h : F_X7_hasColumn_30 g = some r) : W p l e (RM 2 0 0) s m args below meth c H locs 0 0 (MQ below (QI D cA ev hr ad A KM r g) args s 0 0 A) (F0 m 30 ls []) := by
  refine lv_iconst (v := 0) C.1.1 C.1.2.1 dX7_hasColumn_30 (by decide) ?_
  cases h
  exact r_iret C hw (Or.inr ⟨rfl, Or.inl rfl⟩) dX7_hasColumn_31
set_option maxHeartbeats 4000000 in
set_option maxRecDepth 100000 in
theorem w_X7_hasColumn_0 (C : CX p s m args meth c RX7 yX7_hasColumn cX7_hasColumn 3 (some .boolean) D cA) (hx : HM hr ad) {H : Heap} {locs : List Loc} {g : GM} (hw : WS D cA ev hr ad A KM s H locs g) {a1 : Int32} {a2 : Int32} {ls : Array Slot} (hl : lv_has ls 3 [(0, .ref (ad 0)), (1, .int a1), (2, .int a2)]) {r : Int32} (h : F_X7_hasColumn a1 a2 g = some r) : W p l e (RM 2 0 0) s m args below meth c H locs 0 0 (MQ below (QI D cA ev hr ad A KM r g) args s 0 0 A) (F0 m 0 ls []) := by
  refine lv_aload_n C.1.1 C.1.2.1 dX7_hasColumn_0 rfl (lv_at hl 0 rfl) ?_
  refine lv_iload_n C.1.1 C.1.2.1 dX7_hasColumn_1 rfl (lv_at hl 1 rfl) ?_
  obtain ⟨r_1, hc, h⟩ := bnd_some h
  refine r_vI (dc := 1) (As := [.int a1]) (rest := []) C hw vX7_200 km0 (by decide) rfl (fun sz => c_X7_isRow hx hc sz) (by decide) rfl rfl hl.1 (Nat.le_of_ble_eq_true rfl) dX7_hasColumn_2 ⟨Nat.le_refl _, Nat.le_refl _⟩ (fun H locs hw => ?_)
  refine lv_if_eq (tgt := 30) C.1.1 C.1.2.1 dX7_hasColumn_5 (by decide) (fun hc => ?_) (fun hc => ?_)
  · replace h := ite_pos' h hc
    exact w_X7_hasColumn_30 C hx hw (lv_sub hl [] rfl) h
  · replace h := ite_neg' h hc
    refine lv_iload_n C.1.1 C.1.2.1 dX7_hasColumn_8 rfl (lv_at hl 2 rfl) ?_
    refine lv_if_lt (tgt := 30) C.1.1 C.1.2.1 dX7_hasColumn_9 (by decide) (fun hc => ?_) (fun hc => ?_)
    · replace h := ite_pos' h hc
      exact w_X7_hasColumn_30 C hx hw (lv_sub hl [] rfl) h
    · replace h := ite_neg' h hc
      refine lv_iload_n C.1.1 C.1.2.1 dX7_hasColumn_12 rfl (lv_at hl 2 rfl) ?_
      refine lv_aload_n C.1.1 C.1.2.1 dX7_hasColumn_13 rfl (lv_at hl 0 rfl) ?_
      refine r_getR (v := .ref (ad 5)) C hw km0 fX7_106 rfl (hm14 hx) dX7_hasColumn_14 ?_
      refine lv_aload_n C.1.1 C.1.2.1 dX7_hasColumn_17 rfl (lv_at hl 0 rfl) ?_
      refine lv_iload_n C.1.1 C.1.2.1 dX7_hasColumn_18 rfl (lv_at hl 1 rfl) ?_
      obtain ⟨r_2, hc, h⟩ := bnd_some h
      refine r_vI (dc := 1) (As := [.int a1]) (rest := [.ref (ad 5), .int a2]) C hw vX7_194 km0 (by decide) rfl (fun sz => c_X7_tableAt hx hc sz) (by decide) rfl rfl hl.1 (Nat.le_of_ble_eq_true rfl) dX7_hasColumn_19 ⟨Nat.le_refl _, Nat.le_refl _⟩ (fun H locs hw => ?_)
      obtain ⟨hz, h⟩ := ck_some h
      refine r_iald C hw km5 (inB_in hz) dX7_hasColumn_22 ?_
      refine lv_icmp_ge (tgt := 30) C.1.1 C.1.2.1 dX7_hasColumn_23 (by decide) (fun hc => ?_) (fun hc => ?_)
      · replace h := ite_pos' h hc
        exact w_X7_hasColumn_30 C hx hw (lv_sub hl [] rfl) h
      · replace h := ite_neg' h hc
        refine lv_iconst (v := 1) C.1.1 C.1.2.1 dX7_hasColumn_26 (by decide) ?_
        refine lv_goto (tgt := 31) C.1.1 C.1.2.1 dX7_hasColumn_27 (by decide) ?_
        cases h
        exact r_iret C hw (Or.inr ⟨rfl, Or.inr rfl⟩) dX7_hasColumn_31
set_option maxHeartbeats 4000000 in
set_option maxRecDepth 100000 in
theorem c_X7_hasColumn (hx : HM hr ad) {a1 : Int32} {a2 : Int32} {g : GM} {r : Int32} (h : F_X7_hasColumn a1 a2 g = some r) (sz : Nat) : Met l yX7_hasColumn (WSX yX7_hasColumn cX7_hasColumn 3 (some .boolean)) (RM 2 0 0) (va_Pc [.ref (ad 0), .int a1, .int a2] (PX D cA ev hr ad KM g sz)) (QI D cA ev hr ad (AX ad KM.length sz) KM r g) 0 0 (AX ad KM.length sz) :=
  met_of (own := RX7) pnX7 rfl (Nat.le_of_ble_eq_true rfl) (fun p e s m below meth c ls C hw hsz hl => w_X7_hasColumn_0 C hx hw hl h)
set_option maxHeartbeats 4000000 in
set_option maxRecDepth 100000 in
theorem w_X7_isLink_0 (C : CX p s m args meth c RX7 yX7_isLink cX7_isLink 3 (some .boolean) D cA) (hx : HM hr ad) {H : Heap} {locs : List Loc} {g : GM} (hw : WS D cA ev hr ad A KM s H locs g) {a1 : Int32} {a2 : Int32} {ls : Array Slot} (hl : lv_has ls 3 [(0, .ref (ad 0)), (1, .int a1), (2, .int a2)]) {r : Int32} (h : F_X7_isLink a1 a2 g = some r) : W p l e (RM 2 0 0) s m args below meth c H locs 0 0 (MQ below (QI D cA ev hr ad A KM r g) args s 0 0 A) (F0 m 0 ls []) := by
  refine lv_aload_n C.1.1 C.1.2.1 dX7_isLink_0 rfl (lv_at hl 0 rfl) ?_
  refine r_getR (v := .ref (ad 7)) C hw km0 fX7_175 rfl (hm16 hx) dX7_isLink_1 ?_
  refine lv_iconst (v := 5) C.1.1 C.1.2.1 dX7_isLink_4 (by decide) ?_
  refine lv_aload_n C.1.1 C.1.2.1 dX7_isLink_5 rfl (lv_at hl 0 rfl) ?_
  refine lv_iload_n C.1.1 C.1.2.1 dX7_isLink_6 rfl (lv_at hl 1 rfl) ?_
  obtain ⟨r_1, hc, h⟩ := bnd_some h
  refine r_vI (dc := 1) (As := [.int a1]) (rest := [.int 5, .ref (ad 7)]) C hw vX7_194 km0 (by decide) rfl (fun sz => c_X7_tableAt hx hc sz) (by decide) rfl rfl hl.1 (Nat.le_of_ble_eq_true rfl) dX7_isLink_7 ⟨Nat.le_refl _, Nat.le_refl _⟩ (fun H locs hw => ?_)
  refine lv_imul C.1.1 C.1.2.1 dX7_isLink_10 ?_
  refine lv_iload_n C.1.1 C.1.2.1 dX7_isLink_11 rfl (lv_at hl 2 rfl) ?_
  refine lv_iadd C.1.1 C.1.2.1 dX7_isLink_12 ?_
  obtain ⟨hz, h⟩ := ck_some h
  refine r_iald C hw km7 (inB_in hz) dX7_isLink_13 ?_
  refine lv_if_lt (tgt := 21) C.1.1 C.1.2.1 dX7_isLink_14 (by decide) (fun hc => ?_) (fun hc => ?_)
  · replace h := ite_pos' h hc
    refine lv_iconst (v := 0) C.1.1 C.1.2.1 dX7_isLink_21 (by decide) ?_
    cases h
    exact r_iret C hw (Or.inr ⟨rfl, Or.inl rfl⟩) dX7_isLink_22
  · replace h := ite_neg' h hc
    refine lv_iconst (v := 1) C.1.1 C.1.2.1 dX7_isLink_17 (by decide) ?_
    refine lv_goto (tgt := 22) C.1.1 C.1.2.1 dX7_isLink_18 (by decide) ?_
    cases h
    exact r_iret C hw (Or.inr ⟨rfl, Or.inr rfl⟩) dX7_isLink_22
set_option maxHeartbeats 4000000 in
set_option maxRecDepth 100000 in
theorem c_X7_isLink (hx : HM hr ad) {a1 : Int32} {a2 : Int32} {g : GM} {r : Int32} (h : F_X7_isLink a1 a2 g = some r) (sz : Nat) : Met l yX7_isLink (WSX yX7_isLink cX7_isLink 3 (some .boolean)) (RM 2 0 0) (va_Pc [.ref (ad 0), .int a1, .int a2] (PX D cA ev hr ad KM g sz)) (QI D cA ev hr ad (AX ad KM.length sz) KM r g) 0 0 (AX ad KM.length sz) :=
  met_of (own := RX7) pnX7 rfl (Nat.le_of_ble_eq_true rfl) (fun p e s m below meth c ls C hw hsz hl => w_X7_isLink_0 C hx hw hl h)
end WM0

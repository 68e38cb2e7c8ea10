section WX0
variable {p : Program} {l : Launch} {e : Env} {s : State} {m : MethodId} {args : Array Value} {below : List Frame} {meth : Method} {c : Code} {D : va_G} {cA : Nat → ClassId} {ev : EVa} {hr : Nat → Nat → Value} {ad : Nat → Nat} {A : Nat → Prop} {tl : List (Nat × Nat)}
set_option maxHeartbeats 4000000 in
set_option maxRecDepth 100000 in
theorem w_X4_append_3 {x1 : Int32} {gz : GM} (kb3 : Int32 × GM → Option (GM)) (hk3 : ∀ (x2 : Int32) (g : GM) (H : Heap) (locs : List Loc) (ls : Array Slot), WS D cA ev hr ad A (KX ++ tl) s H locs g → lv_has ls 3 [(0, .ref (ad 1)), (1, .int x1), (2, .int x2)] → kb3 (x2, g) = some gz → W p l e (RM 1 0 0) s m args below meth c H locs 0 0 (MQ below (QV D cA ev hr ad A (KX ++ tl) gz) args s 0 0 A) (F0 m 3 ls [])) (C : CX p s m args meth c RX4 yX4_append cX4_append 3 none D cA) (hx : HX hr ad) {H : Heap} {locs : List Loc} {x2 : Int32} {g : GM} (hw : WS D cA ev hr ad A (KX ++ tl) s H locs g) {ls : Array Slot} (hl : lv_has ls 3 [(0, .ref (ad 1)), (1, .int x1), (2, .int x2)]) (h : F_X4_append_3B x1 kb3 (x2, g) = some gz) : W p l e (RM 1 0 0) s m args below meth c H locs 0 0 (MQ below (QV D cA ev hr ad A (KX ++ tl) gz) args s 0 0 A) (F0 m 3 ls []) := by
  refine lv_iload_n C.1.1 C.1.2.1 dX4_append_3 rfl (lv_at hl 2 rfl) ?_
  refine lv_if_lt (tgt := 48) C.1.1 C.1.2.1 dX4_append_4 (by decide) (fun hc => ?_) (fun hc => ?_)
  · replace h := ite_pos' h hc
    cases h
    exact r_vret C hw rfl dX4_append_48
  · replace h := ite_neg' h hc
    refine lv_aload_n C.1.1 C.1.2.1 dX4_append_7 rfl (lv_at hl 0 rfl) ?_
    refine r_getI C hw (kx1 _) fX4_43 rfl dX4_append_8 ?_
    refine lv_aload_n C.1.1 C.1.2.1 dX4_append_11 rfl (lv_at hl 0 rfl) ?_
    refine r_getR (v := .ref (ad 2)) C hw (kx1 _) fX4_9 rfl (hx1_0 hx) dX4_append_12 ?_
    refine r_alen (ty := .int) (v := 1200) C hw (kx2 _) (by decide) (by decide) dX4_append_15 ?_
    refine lv_icmp_ge (tgt := 48) C.1.1 C.1.2.1 dX4_append_16 (by decide) (fun hc => ?_) (fun hc => ?_)
    · replace h := ite_pos' h hc
      cases h
      exact r_vret C hw rfl dX4_append_48
    · replace h := ite_neg' h hc
      refine lv_aload_n C.1.1 C.1.2.1 dX4_append_19 rfl (lv_at hl 0 rfl) ?_
      refine r_getR (v := .ref (ad 2)) C hw (kx1 _) fX4_9 rfl (hx1_0 hx) dX4_append_20 ?_
      refine lv_aload_n C.1.1 C.1.2.1 dX4_append_23 rfl (lv_at hl 0 rfl) ?_
      refine r_getI C hw (kx1 _) fX4_43 rfl dX4_append_24 ?_
      refine lv_iload_n C.1.1 C.1.2.1 dX4_append_27 rfl (lv_at hl 1 rfl) ?_
      refine lv_iload_n C.1.1 C.1.2.1 dX4_append_28 rfl (lv_at hl 2 rfl) ?_
      refine lv_ishr C.1.1 C.1.2.1 dX4_append_29 ?_
      refine lv_i2b (v := (x1 >>> (x2 &&& 31)).toInt8.toInt32) C.1.1 C.1.2.1 dX4_append_30 rfl ?_
      obtain ⟨hz, h⟩ := ck_some h
      refine r_bast C hw (kx2 _) (inB_in hz) dX4_append_31 (fun H locs hw => ?_)
      refine lt_gen (P := fun g => WS D cA ev hr ad A (KX ++ tl) s H locs g) h hw (fun g_1 h hw => ?_)
      refine lv_aload_n C.1.1 C.1.2.1 dX4_append_32 rfl (lv_at hl 0 rfl) ?_
      refine lv_dup C.1.1 C.1.2.1 dX4_append_33 rfl ?_
      refine r_getI C hw (kx1 _) fX4_43 rfl dX4_append_34 ?_
      refine lv_iconst (v := 1) C.1.1 C.1.2.1 dX4_append_37 (by decide) ?_
      refine lv_iadd C.1.1 C.1.2.1 dX4_append_38 ?_
      refine r_putI C hw (kx1 _) fX4_43 rfl rfl (Or.inl rfl) dX4_append_39 (fun H locs hw => ?_)
      refine lt_gen (P := fun g => WS D cA ev hr ad A (KX ++ tl) s H locs g) h hw (fun g_2 h hw => ?_)
      refine lv_iinc (v := x2 + (-8)) (lv' := [(2, .int (x2 + (-8))), (0, .ref (ad 1)), (1, .int x1)]) C.1.1 C.1.2.1 dX4_append_42 hl (k := 2) rfl rfl (by decide) rfl (fun ls hl => ?_)
      refine lt_gen (P := fun x => lv_has ls 3 [(2, .int x), (0, .ref (ad 1)), (1, .int x1)]) h hl (fun x2_3 h hl => ?_)
      refine lv_goto (tgt := 3) C.1.1 C.1.2.1 dX4_append_45 (by decide) ?_
      exact hk3 _ _ _ _ _ hw (lv_sub hl [1, 2, 0] rfl) h
set_option maxHeartbeats 4000000 in
set_option maxRecDepth 100000 in
theorem w_X4_append_3L {x1 : Int32} {gz : GM} (C : CX p s m args meth c RX4 yX4_append cX4_append 3 none D cA) (hx : HX hr ad) : ∀ (n : Nat) (x2 : Int32) (g : GM) (H : Heap) (locs : List Loc) (ls : Array Slot), WS D cA ev hr ad A (KX ++ tl) s H locs g → lv_has ls 3 [(0, .ref (ad 1)), (1, .int x1), (2, .int x2)] → fixN (F_X4_append_3B x1) n (x2, g) = some gz → W p l e (RM 1 0 0) s m args below meth c H locs 0 0 (MQ below (QV D cA ev hr ad A (KX ++ tl) gz) args s 0 0 A) (F0 m 3 ls []) := by
  intro n
  induction n with
  | zero => intro x2 g H locs ls hw hl h; exact (fix_zero h).elim
  | succ n ih => intro x2 g H locs ls hw hl h; exact w_X4_append_3 (fixN (F_X4_append_3B x1) n) ih C hx hw hl h
set_option maxHeartbeats 4000000 in
set_option maxRecDepth 100000 in
theorem w_X4_append_0 (C : CX p s m args meth c RX4 yX4_append cX4_append 3 none D cA) (hx : HX hr ad) {H : Heap} {locs : List Loc} {g : GM} (hw : WS D cA ev hr ad A (KX ++ tl) s H locs g) {a1 : Int32} {ls : Array Slot} (hl : lv_has ls 3 [(0, .ref (ad 1)), (1, .int a1)]) {gz : GM} (h : F_X4_append a1 g = some gz) : W p l e (RM 1 0 0) s m args below meth c H locs 0 0 (MQ below (QV D cA ev hr ad A (KX ++ tl) gz) args s 0 0 A) (F0 m 0 ls []) := by
  refine lv_bipush (v := 24) C.1.1 C.1.2.1 dX4_append_0 (by decide) ?_
  refine lv_istore_n (lv' := [(2, .int 24), (0, .ref (ad 1)), (1, .int a1)]) C.1.1 C.1.2.1 dX4_append_2 rfl hl (by decide) rfl (fun ls hl => ?_)
  exact w_X4_append_3L C hx FU _ _ _ _ _ hw (lv_sub hl [1, 2, 0] rfl) h
set_option maxHeartbeats 4000000 in
set_option maxRecDepth 100000 in
theorem c_X4_append (hx : HX hr ad) {a1 : Int32} {g : GM} {gz : GM} (h : F_X4_append a1 g = some gz) (sz : Nat) : Met l yX4_append (WSX yX4_append cX4_append 3 none) (RM 1 0 0) (va_Pc [.ref (ad 1), .int a1] (PX D cA ev hr ad (KX ++ tl) g sz)) (QV D cA ev hr ad (AX ad (KX ++ tl).length sz) (KX ++ tl) gz) 0 0 (AX ad (KX ++ tl).length sz) :=
  met_of (own := RX4) pnX4 rfl (Nat.le_of_ble_eq_true rfl) (fun p e s m below meth c ls C hw hsz hl => w_X4_append_0 C hx hw hl h)
set_option maxHeartbeats 4000000 in
set_option maxRecDepth 100000 in
theorem w_X6_feed_0 (C : CX p s m args meth c RX6 yX6_feed cX6_feed 6 (some .int) D cA) (hx : HX hr ad) {H : Heap} {locs : List Loc} {g : GM} (hw : WS D cA ev hr ad A (KX ++ tl) s H locs g) {a1 : Int32} {a2 : Int32} {a3 : Int32} {a4 : Int32} {a5 : Int32} {ls : Array Slot} (hl : lv_has ls 6 [(0, .ref (ad 0)), (1, .int a1), (2, .int a2), (3, .int a3), (4, .int a4), (5, .int a5)]) {r : Int32} {gz : GM} (h : F_X6_feed a1 a2 a3 a4 a5 g = some (r, gz)) : W p l e (RM 2 0 0) s m args below meth c H locs 0 0 (MQ below (QI D cA ev hr ad A (KX ++ tl) r gz) args s 0 0 A) (F0 m 0 ls []) := by
  refine lv_aload_n C.1.1 C.1.2.1 dX6_feed_0 rfl (lv_at hl 0 rfl) ?_
  refine r_getR (v := .ref (ad 1)) C hw (kx0 _) fX6_10 rfl (hx0_0 hx) dX6_feed_1 ?_
  refine r_getI C hw (kx1 _) fX6_49 rfl dX6_feed_4 ?_
  refine lv_bipush (v := 20) C.1.1 C.1.2.1 dX6_feed_7 (by decide) ?_
  refine lv_iadd C.1.1 C.1.2.1 dX6_feed_9 ?_
  refine lv_sipush (v := 1200) C.1.1 C.1.2.1 dX6_feed_10 (by decide) ?_
  refine lv_icmp_le (tgt := 18) C.1.1 C.1.2.1 dX6_feed_13 (by decide) (fun hc => ?_) (fun hc => ?_)
  · replace h := ite_pos' h hc
    refine lv_aload_n C.1.1 C.1.2.1 dX6_feed_18 rfl (lv_at hl 0 rfl) ?_
    refine r_getR (v := .ref (ad 1)) C hw (kx0 _) fX6_10 rfl (hx0_0 hx) dX6_feed_19 ?_
    refine lv_iload_n C.1.1 C.1.2.1 dX6_feed_22 rfl (lv_at hl 1 rfl) ?_
    obtain ⟨g_1, hc, h⟩ := bnd_some h
    refine r_vV (dc := 1) (As := [.int a1]) (rest := []) C hw vX6_53 (kx1 _) (by decide) rfl (fun sz => c_X4_append hx hc sz) (by decide) rfl rfl hl.1 (Nat.le_of_ble_eq_true rfl) dX6_feed_23 ⟨Nat.le_refl _, Nat.le_refl _⟩ (fun H locs hw => ?_)
    refine lv_aload_n C.1.1 C.1.2.1 dX6_feed_26 rfl (lv_at hl 0 rfl) ?_
    refine r_getR (v := .ref (ad 1)) C hw (kx0 _) fX6_10 rfl (hx0_0 hx) dX6_feed_27 ?_
    refine lv_iload_n C.1.1 C.1.2.1 dX6_feed_30 rfl (lv_at hl 2 rfl) ?_
    obtain ⟨g_2, hc, h⟩ := bnd_some h
    refine r_vV (dc := 1) (As := [.int a2]) (rest := []) C hw vX6_53 (kx1 _) (by decide) rfl (fun sz => c_X4_append hx hc sz) (by decide) rfl rfl hl.1 (Nat.le_of_ble_eq_true rfl) dX6_feed_31 ⟨Nat.le_refl _, Nat.le_refl _⟩ (fun H locs hw => ?_)
    refine lv_aload_n C.1.1 C.1.2.1 dX6_feed_34 rfl (lv_at hl 0 rfl) ?_
    refine r_getR (v := .ref (ad 1)) C hw (kx0 _) fX6_10 rfl (hx0_0 hx) dX6_feed_35 ?_
    refine lv_iload_n C.1.1 C.1.2.1 dX6_feed_38 rfl (lv_at hl 3 rfl) ?_
    obtain ⟨g_3, hc, h⟩ := bnd_some h
    refine r_vV (dc := 1) (As := [.int a3]) (rest := []) C hw vX6_53 (kx1 _) (by decide) rfl (fun sz => c_X4_append hx hc sz) (by decide) rfl rfl hl.1 (Nat.le_of_ble_eq_true rfl) dX6_feed_39 ⟨Nat.le_refl _, Nat.le_refl _⟩ (fun H locs hw => ?_)
    refine lv_aload_n C.1.1 C.1.2.1 dX6_feed_42 rfl (lv_at hl 0 rfl) ?_
    refine r_getR (v := .ref (ad 1)) C hw (kx0 _) fX6_10 rfl (hx0_0 hx) dX6_feed_43 ?_
    refine lv_iload C.1.1 C.1.2.1 dX6_feed_46 (lv_at hl 4 rfl) ?_
    obtain ⟨g_4, hc, h⟩ := bnd_some h
    refine r_vV (dc := 1) (As := [.int a4]) (rest := []) C hw vX6_53 (kx1 _) (by decide) rfl (fun sz => c_X4_append hx hc sz) (by decide) rfl rfl hl.1 (Nat.le_of_ble_eq_true rfl) dX6_feed_48 ⟨Nat.le_refl _, Nat.le_refl _⟩ (fun H locs hw => ?_)
    refine lv_aload_n C.1.1 C.1.2.1 dX6_feed_51 rfl (lv_at hl 0 rfl) ?_
    refine r_getR (v := .ref (ad 1)) C hw (kx0 _) fX6_10 rfl (hx0_0 hx) dX6_feed_52 ?_
    refine lv_iload C.1.1 C.1.2.1 dX6_feed_55 (lv_at hl 5 rfl) ?_
    obtain ⟨g_5, hc, h⟩ := bnd_some h
    refine r_vV (dc := 1) (As := [.int a5]) (rest := []) C hw vX6_53 (kx1 _) (by decide) rfl (fun sz => c_X4_append hx hc sz) (by decide) rfl rfl hl.1 (Nat.le_of_ble_eq_true rfl) dX6_feed_57 ⟨Nat.le_refl _, Nat.le_refl _⟩ (fun H locs hw => ?_)
    refine lv_aload_n C.1.1 C.1.2.1 dX6_feed_60 rfl (lv_at hl 0 rfl) ?_
    refine r_getR (v := .ref (ad 1)) C hw (kx0 _) fX6_10 rfl (hx0_0 hx) dX6_feed_61 ?_
    refine r_getI C hw (kx1 _) fX6_49 rfl dX6_feed_64 ?_
    cases h
    exact r_iret C hw (Or.inl rfl) dX6_feed_67
  · replace h := ite_neg' h hc
    refine lv_iconst (v := (-1)) C.1.1 C.1.2.1 dX6_feed_16 (by decide) ?_
    cases h
    exact r_iret C hw (Or.inl rfl) dX6_feed_17
set_option maxHeartbeats 4000000 in
set_option maxRecDepth 100000 in
theorem c_X6_feed (hx : HX hr ad) {a1 : Int32} {a2 : Int32} {a3 : Int32} {a4 : Int32} {a5 : Int32} {g : GM} {r : Int32} {gz : GM} (h : F_X6_feed a1 a2 a3 a4 a5 g = some (r, gz)) (sz : Nat) : Met l yX6_feed (WSX yX6_feed cX6_feed 6 (some .int)) (RM 2 0 0) (va_Pc [.ref (ad 0), .int a1, .int a2, .int a3, .int a4, .int a5] (PX D cA ev hr ad (KX ++ tl) g sz)) (QI D cA ev hr ad (AX ad (KX ++ tl).length sz) (KX ++ tl) r gz) 0 0 (AX ad (KX ++ tl).length sz) :=
  met_of (own := RX6) pnX6 rfl (Nat.le_of_ble_eq_true rfl) (fun p e s m below meth c ls C hw hsz hl => w_X6_feed_0 C hx hw hl h)
set_option maxHeartbeats 4000000 in
set_option maxRecDepth 100000 in
theorem w_X6_end_0 (C : CX p s m args meth c RX6 yX6_end cX6_end 2 (some .int) D cA) (hx : HX hr ad) {H : Heap} {locs : List Loc} {g : GM} (hw : WS D cA ev hr ad A (KX ++ tl) s H locs g) {a1 : Int32} {ls : Array Slot} (hl : lv_has ls 2 [(0, .ref (ad 0)), (1, .int a1)]) {r : Int32} {gz : GM} (h : F_X6_end a1 g = some (r, gz)) : W p l e (RM 1 0 0) s m args below meth c H locs 0 0 (MQ below (QI D cA ev hr ad A (KX ++ tl) r gz) args s 0 0 A) (F0 m 0 ls []) := by
  refine lv_iload_n C.1.1 C.1.2.1 dX6_end_0 rfl (lv_at hl 1 rfl) ?_
  refine lv_if_lt (tgt := 15) C.1.1 C.1.2.1 dX6_end_1 (by decide) (fun hc => ?_) (fun hc => ?_)
  · replace h := ite_pos' h hc
    refine lv_iconst (v := (-1)) C.1.1 C.1.2.1 dX6_end_15 (by decide) ?_
    cases h
    exact r_iret C hw (Or.inl rfl) dX6_end_16
  · replace h := ite_neg' h hc
    refine lv_iload_n C.1.1 C.1.2.1 dX6_end_4 rfl (lv_at hl 1 rfl) ?_
    refine lv_aload_n C.1.1 C.1.2.1 dX6_end_5 rfl (lv_at hl 0 rfl) ?_
    refine r_getR (v := .ref (ad 1)) C hw (kx0 _) fX6_10 rfl (hx0_0 hx) dX6_end_6 ?_
    refine r_getI C hw (kx1 _) fX6_49 rfl dX6_end_9 ?_
    refine lv_icmp_le (tgt := 17) C.1.1 C.1.2.1 dX6_end_12 (by decide) (fun hc => ?_) (fun hc => ?_)
    · replace h := ite_pos' h hc
      refine lv_aload_n C.1.1 C.1.2.1 dX6_end_17 rfl (lv_at hl 0 rfl) ?_
      refine r_getR (v := .ref (ad 1)) C hw (kx0 _) fX6_10 rfl (hx0_0 hx) dX6_end_18 ?_
      refine lv_iload_n C.1.1 C.1.2.1 dX6_end_21 rfl (lv_at hl 1 rfl) ?_
      refine r_putI C hw (kx1 _) fX6_49 rfl rfl (Or.inl rfl) dX6_end_22 (fun H locs hw => ?_)
      refine lt_gen (P := fun g => WS D cA ev hr ad A (KX ++ tl) s H locs g) h hw (fun g_1 h hw => ?_)
      refine lv_iload_n C.1.1 C.1.2.1 dX6_end_25 rfl (lv_at hl 1 rfl) ?_
      cases h
      exact r_iret C hw (Or.inl rfl) dX6_end_26
    · replace h := ite_neg' h hc
      refine lv_iconst (v := (-1)) C.1.1 C.1.2.1 dX6_end_15 (by decide) ?_
      cases h
      exact r_iret C hw (Or.inl rfl) dX6_end_16
set_option maxHeartbeats 4000000 in
set_option maxRecDepth 100000 in
theorem c_X6_end (hx : HX hr ad) {a1 : Int32} {g : GM} {r : Int32} {gz : GM} (h : F_X6_end a1 g = some (r, gz)) (sz : Nat) : Met l yX6_end (WSX yX6_end cX6_end 2 (some .int)) (RM 1 0 0) (va_Pc [.ref (ad 0), .int a1] (PX D cA ev hr ad (KX ++ tl) g sz)) (QI D cA ev hr ad (AX ad (KX ++ tl).length sz) (KX ++ tl) r gz) 0 0 (AX ad (KX ++ tl).length sz) :=
  met_of (own := RX6) pnX6 rfl (Nat.le_of_ble_eq_true rfl) (fun p e s m below meth c ls C hw hsz hl => w_X6_end_0 C hx hw hl h)
set_option maxHeartbeats 4000000 in
set_option maxRecDepth 100000 in
theorem w_X6_fault_0 (C : CX p s m args meth c RX6 yX6_fault cX6_fault 2 (some .int) D cA) (hx : HX hr ad) {H : Heap} {locs : List Loc} {g : GM} (hw : WS D cA ev hr ad A (KX ++ tl) s H locs g) {a1 : Int32} {ls : Array Slot} (hl : lv_has ls 2 [(0, .ref (ad 0)), (1, .int a1)]) {r : Int32} (h : F_X6_fault a1 g = some r) : W p l e (RM 1 0 0) s m args below meth c H locs 0 0 (MQ below (QI D cA ev hr ad A (KX ++ tl) r g) args s 0 0 A) (F0 m 0 ls []) := by
  refine lv_iload_n C.1.1 C.1.2.1 dX6_fault_0 rfl (lv_at hl 1 rfl) ?_
  refine lv_if_ne (tgt := 12) C.1.1 C.1.2.1 dX6_fault_1 (by decide) (fun hc => ?_) (fun hc => ?_)
  · replace h := ite_neg' h hc
    refine lv_iload_n C.1.1 C.1.2.1 dX6_fault_12 rfl (lv_at hl 1 rfl) ?_
    refine lv_iconst (v := 1) C.1.1 C.1.2.1 dX6_fault_13 (by decide) ?_
    refine lv_icmp_ne (tgt := 27) C.1.1 C.1.2.1 dX6_fault_14 (by decide) (fun hc => ?_) (fun hc => ?_)
    · replace h := ite_neg' h hc
      refine lv_iconst (v := (-1)) C.1.1 C.1.2.1 dX6_fault_27 (by decide) ?_
      cases h
      exact r_iret C hw (Or.inl rfl) dX6_fault_28
    · replace h := ite_pos' h hc
      refine lv_aload_n C.1.1 C.1.2.1 dX6_fault_17 rfl (lv_at hl 0 rfl) ?_
      refine r_getR (v := .ref (ad 1)) C hw (kx0 _) fX6_10 rfl (hx0_0 hx) dX6_fault_18 ?_
      refine r_getI C hw (kx1 _) fX6_96 rfl dX6_fault_21 ?_
      refine lv_goto (tgt := 28) C.1.1 C.1.2.1 dX6_fault_24 (by decide) ?_
      cases h
      exact r_iret C hw (Or.inl rfl) dX6_fault_28
  · replace h := ite_pos' h hc
    refine lv_aload_n C.1.1 C.1.2.1 dX6_fault_4 rfl (lv_at hl 0 rfl) ?_
    refine r_getR (v := .ref (ad 1)) C hw (kx0 _) fX6_10 rfl (hx0_0 hx) dX6_fault_5 ?_
    refine r_getI C hw (kx1 _) fX6_93 rfl dX6_fault_8 ?_
    cases h
    exact r_iret C hw (Or.inl rfl) dX6_fault_11
set_option maxHeartbeats 4000000 in
set_option maxRecDepth 100000 in
theorem c_X6_fault (hx : HX hr ad) {a1 : Int32} {g : GM} {r : Int32} (h : F_X6_fault a1 g = some r) (sz : Nat) : Met l yX6_fault (WSX yX6_fault cX6_fault 2 (some .int)) (RM 1 0 0) (va_Pc [.ref (ad 0), .int a1] (PX D cA ev hr ad (KX ++ tl) g sz)) (QI D cA ev hr ad (AX ad (KX ++ tl).length sz) (KX ++ tl) r g) 0 0 (AX ad (KX ++ tl).length sz) :=
  met_of (own := RX6) pnX6 rfl (Nat.le_of_ble_eq_true rfl) (fun p e s m below meth c ls C hw hsz hl => w_X6_fault_0 C hx hw hl h)
set_option maxHeartbeats 4000000 in
set_option maxRecDepth 100000 in
theorem w_X2_hasRow_s_16 {g : GM} {r : Int32} (C : CX p s m args meth c RX2 yX2_hasRow cX2_hasRow 2 (some .boolean) D cA) (hx : HX hr ad) {H : Heap} {locs : List Loc} (hw : WS D cA ev hr ad A (KX ++ tl) s H locs g) {ls : Array Slot} (hl : lv_has ls 2 []) (h : F_X2_hasRow_s_16 g = some r) : W p l e (RM 1 0 0) s m args below meth c H locs 0 0 (MQ below (QI D cA ev hr ad A (KX ++ tl) r g) args s 0 0 A) (F0 m 16 ls []) := by
  refine lv_iconst (v := 0) C.1.1 C.1.2.1 dX2_hasRow_16 (by decide) ?_
  cases h
  exact r_iret C hw (Or.inr ⟨rfl, Or.inl rfl⟩) dX2_hasRow_17
set_option maxHeartbeats 4000000 in
set_option maxRecDepth 100000 in
theorem w_X2_hasRow_s_0 (C : CX p s m args meth c RX2 yX2_hasRow cX2_hasRow 2 (some .boolean) D cA) (hx : HX hr ad) {H : Heap} {locs : List Loc} {g : GM} (hw : WS D cA ev hr ad A (KX ++ tl) s H locs g) {a1 : Int32} {ls : Array Slot} (hl : lv_has ls 2 [(0, .ref (ad 6)), (1, .int a1)]) {r : Int32} (h : F_X2_hasRow_s a1 g = some r) : W p l e (RM 1 0 0) s m args below meth c H locs 0 0 (MQ below (QI D cA ev hr ad A (KX ++ tl) r g) args s 0 0 A) (F0 m 0 ls []) := by
  refine lv_iload_n C.1.1 C.1.2.1 dX2_hasRow_0 rfl (lv_at hl 1 rfl) ?_
  refine lv_if_lt (tgt := 16) C.1.1 C.1.2.1 dX2_hasRow_1 (by decide) (fun hc => ?_) (fun hc => ?_)
  · replace h := ite_pos' h hc
    exact w_X2_hasRow_s_16 C hx hw (lv_sub hl [] rfl) h
  · replace h := ite_neg' h hc
    refine lv_iload_n C.1.1 C.1.2.1 dX2_hasRow_4 rfl (lv_at hl 1 rfl) ?_
    refine lv_aload_n C.1.1 C.1.2.1 dX2_hasRow_5 rfl (lv_at hl 0 rfl) ?_
    refine r_getI C hw (kx6 _) fX2_47 rfl dX2_hasRow_6 ?_
    refine lv_icmp_ge (tgt := 16) C.1.1 C.1.2.1 dX2_hasRow_9 (by decide) (fun hc => ?_) (fun hc => ?_)
    · replace h := ite_pos' h hc
      exact w_X2_hasRow_s_16 C hx hw (lv_sub hl [] rfl) h
    · replace h := ite_neg' h hc
      refine lv_iconst (v := 1) C.1.1 C.1.2.1 dX2_hasRow_12 (by decide) ?_
      refine lv_goto (tgt := 17) C.1.1 C.1.2.1 dX2_hasRow_13 (by decide) ?_
      cases h
      exact r_iret C hw (Or.inr ⟨rfl, Or.inr rfl⟩) dX2_hasRow_17
set_option maxHeartbeats 4000000 in
set_option maxRecDepth 100000 in
theorem c_X2_hasRow_s (hx : HX hr ad) {a1 : Int32} {g : GM} {r : Int32} (h : F_X2_hasRow_s a1 g = some r) (sz : Nat) : Met l yX2_hasRow (WSX yX2_hasRow cX2_hasRow 2 (some .boolean)) (RM 1 0 0) (va_Pc [.ref (ad 6), .int a1] (PX D cA ev hr ad (KX ++ tl) g sz)) (QI D cA ev hr ad (AX ad (KX ++ tl).length sz) (KX ++ tl) r g) 0 0 (AX ad (KX ++ tl).length sz) :=
  met_of (own := RX2) pnX2 rfl (Nat.le_of_ble_eq_true rfl) (fun p e s m below meth c ls C hw hsz hl => w_X2_hasRow_s_0 C hx hw hl h)
set_option maxHeartbeats 4000000 in
set_option maxRecDepth 100000 in
theorem w_X6_has_0 (C : CX p s m args meth c RX6 yX6_has cX6_has 2 (some .boolean) D cA) (hx : HX hr ad) {H : Heap} {locs : List Loc} {g : GM} (hw : WS D cA ev hr ad A (KX ++ tl) s H locs g) {a0 : Int32} {a1 : Int32} {ls : Array Slot} (hl : lv_has ls 2 [(0, .int a0), (1, .int a1)]) {r : Int32} (h : F_X6_has a0 a1 = some r) : W p l e (RM 1 0 0) s m args below meth c H locs 0 0 (MQ below (QI D cA ev hr ad A (KX ++ tl) r g) args s 0 0 A) (F0 m 0 ls []) := by
  refine lv_iload_n C.1.1 C.1.2.1 dX6_has_0 rfl (lv_at hl 0 rfl) ?_
  refine lv_iload_n C.1.1 C.1.2.1 dX6_has_1 rfl (lv_at hl 1 rfl) ?_
  refine lv_ishr C.1.1 C.1.2.1 dX6_has_2 ?_
  refine lv_iconst (v := 1) C.1.1 C.1.2.1 dX6_has_3 (by decide) ?_
  refine lv_iand C.1.1 C.1.2.1 dX6_has_4 ?_
  refine lv_if_eq (tgt := 12) C.1.1 C.1.2.1 dX6_has_5 (by decide) (fun hc => ?_) (fun hc => ?_)
  · replace h := ite_pos' h hc
    refine lv_iconst (v := 0) C.1.1 C.1.2.1 dX6_has_12 (by decide) ?_
    cases h
    exact r_iret C hw (Or.inr ⟨rfl, Or.inl rfl⟩) dX6_has_13
  · replace h := ite_neg' h hc
    refine lv_iconst (v := 1) C.1.1 C.1.2.1 dX6_has_8 (by decide) ?_
    refine lv_goto (tgt := 13) C.1.1 C.1.2.1 dX6_has_9 (by decide) ?_
    cases h
    exact r_iret C hw (Or.inr ⟨rfl, Or.inr rfl⟩) dX6_has_13
set_option maxHeartbeats 4000000 in
set_option maxRecDepth 100000 in
theorem c_X6_has (hx : HX hr ad) {a0 : Int32} {a1 : Int32} {g : GM} {r : Int32} (h : F_X6_has a0 a1 = some r) (sz : Nat) : Met l yX6_has (WSX yX6_has cX6_has 2 (some .boolean)) (RM 1 0 0) (va_Pc [.int a0, .int a1] (PX D cA ev hr ad (KX ++ tl) g sz)) (QI D cA ev hr ad (AX ad (KX ++ tl).length sz) (KX ++ tl) r g) 0 0 (AX ad (KX ++ tl).length sz) :=
  met_of (own := RX6) pnX6 rfl (Nat.le_of_ble_eq_true rfl) (fun p e s m below meth c ls C hw hsz hl => w_X6_has_0 C hx hw hl h)
set_option maxHeartbeats 4000000 in
set_option maxRecDepth 100000 in
theorem w_X6_row_0 (C : CX p s m args meth c RX6 yX6_row cX6_row 3 (some .int) D cA) (hx : HX hr ad) {H : Heap} {locs : List Loc} {g : GM} (hw : WS D cA ev hr ad A (KX ++ tl) s H locs g) {a1 : Int32} {a2 : Int32} {ls : Array Slot} (hl : lv_has ls 3 [(0, .ref (ad 0)), (1, .int a1), (2, .int a2)]) {r : Int32} (h : F_X6_row a1 a2 g = some r) : W p l e (RM 2 0 0) s m args below meth c H locs 0 0 (MQ below (QI D cA ev hr ad A (KX ++ tl) r g) args s 0 0 A) (F0 m 0 ls []) := by
  refine lv_aload_n C.1.1 C.1.2.1 dX6_row_0 rfl (lv_at hl 0 rfl) ?_
  refine r_getR (v := .ref (ad 6)) C hw (kx0 _) fX6_26 rfl (hx0_3 hx) dX6_row_1 ?_
  refine lv_iload_n C.1.1 C.1.2.1 dX6_row_4 rfl (lv_at hl 1 rfl) ?_
  obtain ⟨r_1, hc, h⟩ := bnd_some h
  refine r_vI (dc := 1) (As := [.int a1]) (rest := []) C hw vX6_99 (kx6 _) (by decide) rfl (fun sz => c_X2_hasRow_s hx hc sz) (by decide) rfl rfl hl.1 (Nat.le_of_ble_eq_true rfl) dX6_row_5 ⟨Nat.le_refl _, Nat.le_refl _⟩ (fun H locs hw => ?_)
  refine lv_if_ne (tgt := 13) C.1.1 C.1.2.1 dX6_row_8 (by decide) (fun hc => ?_) (fun hc => ?_)
  · replace h := ite_neg' h hc
    refine lv_iload_n C.1.1 C.1.2.1 dX6_row_13 rfl (lv_at hl 2 rfl) ?_
    by_cases hc0 : a2 = 0
    · replace h := ite_pos' h hc0
      refine lv_tableIn (off := 26) (tgt := 40) C.1.1 C.1.2.1 dX6_row_14 (by rw [hc0]; decide) (by rw [hc0]; decide) (by rw [hc0]; rfl) (by decide) ?_
      refine lv_aload_n C.1.1 C.1.2.1 dX6_row_40 rfl (lv_at hl 0 rfl) ?_
      refine r_getR (v := .ref (ad 6)) C hw (kx0 _) fX6_26 rfl (hx0_3 hx) dX6_row_41 ?_
      refine r_getR (v := .ref (ad 12)) C hw (kx6 _) fX6_103 rfl (hx6_7 hx) dX6_row_44 ?_
      refine lv_iload_n C.1.1 C.1.2.1 dX6_row_47 rfl (lv_at hl 1 rfl) ?_
      obtain ⟨hz, h⟩ := ck_some h
      refine r_iald C hw (kx12 _) (inB_in hz) dX6_row_48 ?_
      cases h
      exact r_iret C hw (Or.inl rfl) dX6_row_49
    · replace h := ite_neg' h hc0
      by_cases hc1 : a2 = 1
      · replace h := ite_pos' h hc1
        refine lv_tableIn (off := 36) (tgt := 50) C.1.1 C.1.2.1 dX6_row_14 (by rw [hc1]; decide) (by rw [hc1]; decide) (by rw [hc1]; rfl) (by decide) ?_
        refine lv_aload_n C.1.1 C.1.2.1 dX6_row_50 rfl (lv_at hl 0 rfl) ?_
        refine r_getR (v := .ref (ad 6)) C hw (kx0 _) fX6_26 rfl (hx0_3 hx) dX6_row_51 ?_
        refine r_getR (v := .ref (ad 13)) C hw (kx6 _) fX6_106 rfl (hx6_8 hx) dX6_row_54 ?_
        refine lv_iload_n C.1.1 C.1.2.1 dX6_row_57 rfl (lv_at hl 1 rfl) ?_
        obtain ⟨hz, h⟩ := ck_some h
        refine r_iald C hw (kx13 _) (inB_in hz) dX6_row_58 ?_
        cases h
        exact r_iret C hw (Or.inl rfl) dX6_row_59
      · replace h := ite_neg' h hc1
        by_cases hc2 : a2 = 2
        · replace h := ite_pos' h hc2
          refine lv_tableIn (off := 46) (tgt := 60) C.1.1 C.1.2.1 dX6_row_14 (by rw [hc2]; decide) (by rw [hc2]; decide) (by rw [hc2]; rfl) (by decide) ?_
          refine lv_aload_n C.1.1 C.1.2.1 dX6_row_60 rfl (lv_at hl 0 rfl) ?_
          refine r_getI C hw (kx0 _) fX6_69 rfl dX6_row_61 ?_
          refine lv_iload_n C.1.1 C.1.2.1 dX6_row_64 rfl (lv_at hl 1 rfl) ?_
          obtain ⟨r_2, hc, h⟩ := bnd_some h
          refine r_sI (dc := 1) (As := [.int (gi g 0 7), .int a1]) (rest := []) C hw sX6_109 (fun sz => c_X6_has hx hc sz) (by decide) rfl rfl hl.1 (Nat.le_of_ble_eq_true rfl) dX6_row_65 ⟨Nat.le_refl _, Nat.le_refl _⟩ (fun H locs hw => ?_)
          refine lv_if_eq (tgt := 75) C.1.1 C.1.2.1 dX6_row_68 (by decide) (fun hc => ?_) (fun hc => ?_)
          · replace h := ite_pos' h hc
            refine lv_iconst (v := 0) C.1.1 C.1.2.1 dX6_row_75 (by decide) ?_
            cases h
            exact r_iret C hw (Or.inl rfl) dX6_row_76
          · replace h := ite_neg' h hc
            refine lv_iconst (v := 1) C.1.1 C.1.2.1 dX6_row_71 (by decide) ?_
            refine lv_goto (tgt := 76) C.1.1 C.1.2.1 dX6_row_72 (by decide) ?_
            cases h
            exact r_iret C hw (Or.inl rfl) dX6_row_76
        · replace h := ite_neg' h hc2
          refine lv_tableOut (tgt := 77) C.1.1 C.1.2.1 dX6_row_14 (by have q0 := lv_neT (k := 0) (a := 0) hc0 (by decide); have q1 := lv_neT (k := 1) (a := 1) hc1 (by decide); have q2 := lv_neT (k := 2) (a := 2) hc2 (by decide); omega) (by decide) ?_
          refine lv_iconst (v := (-1)) C.1.1 C.1.2.1 dX6_row_77 (by decide) ?_
          cases h
          exact r_iret C hw (Or.inl rfl) dX6_row_78
  · replace h := ite_pos' h hc
    refine lv_iconst (v := (-1)) C.1.1 C.1.2.1 dX6_row_11 (by decide) ?_
    cases h
    exact r_iret C hw (Or.inl rfl) dX6_row_12
set_option maxHeartbeats 4000000 in
set_option maxRecDepth 100000 in
theorem c_X6_row (hx : HX hr ad) {a1 : Int32} {a2 : Int32} {g : GM} {r : Int32} (h : F_X6_row a1 a2 g = some r) (sz : Nat) : Met l yX6_row (WSX yX6_row cX6_row 3 (some .int)) (RM 2 0 0) (va_Pc [.ref (ad 0), .int a1, .int a2] (PX D cA ev hr ad (KX ++ tl) g sz)) (QI D cA ev hr ad (AX ad (KX ++ tl).length sz) (KX ++ tl) r g) 0 0 (AX ad (KX ++ tl).length sz) :=
  met_of (own := RX6) pnX6 rfl (Nat.le_of_ble_eq_true rfl) (fun p e s m below meth c ls C hw hsz hl => w_X6_row_0 C hx hw hl h)
set_option maxHeartbeats 4000000 in
set_option maxRecDepth 100000 in
theorem w_X2_cell_s_0 (C : CX p s m args meth c RX2 yX2_cell cX2_cell 3 (some .int) D cA) (hx : HX hr ad) {H : Heap} {locs : List Loc} {g : GM} (hw : WS D cA ev hr ad A (KX ++ tl) s H locs g) {a1 : Int32} {a2 : Int32} {ls : Array Slot} (hl : lv_has ls 3 [(0, .ref (ad 6)), (1, .int a1), (2, .int a2)]) {r : Int32} (h : F_X2_cell_s a1 a2 g = some r) : W p l e (RM 1 0 0) s m args below meth c H locs 0 0 (MQ below (QI D cA ev hr ad A (KX ++ tl) r g) args s 0 0 A) (F0 m 0 ls []) := by
  refine lv_iload_n C.1.1 C.1.2.1 dX2_cell_0 rfl (lv_at hl 1 rfl) ?_
  refine lv_if_lt (tgt := 21) C.1.1 C.1.2.1 dX2_cell_1 (by decide) (fun hc => ?_) (fun hc => ?_)
  · replace h := ite_pos' h hc
    refine lv_iconst (v := (-1)) C.1.1 C.1.2.1 dX2_cell_21 (by decide) ?_
    cases h
    exact r_iret C hw (Or.inl rfl) dX2_cell_22
  · replace h := ite_neg' h hc
    refine lv_iload_n C.1.1 C.1.2.1 dX2_cell_4 rfl (lv_at hl 1 rfl) ?_
    refine lv_aload_n C.1.1 C.1.2.1 dX2_cell_5 rfl (lv_at hl 0 rfl) ?_
    refine r_getI C hw (kx6 _) fX2_47 rfl dX2_cell_6 ?_
    refine lv_icmp_ge (tgt := 21) C.1.1 C.1.2.1 dX2_cell_9 (by decide) (fun hc => ?_) (fun hc => ?_)
    · replace h := ite_pos' h hc
      refine lv_iconst (v := (-1)) C.1.1 C.1.2.1 dX2_cell_21 (by decide) ?_
      cases h
      exact r_iret C hw (Or.inl rfl) dX2_cell_22
    · replace h := ite_neg' h hc
      refine lv_iload_n C.1.1 C.1.2.1 dX2_cell_12 rfl (lv_at hl 2 rfl) ?_
      refine lv_if_lt (tgt := 21) C.1.1 C.1.2.1 dX2_cell_13 (by decide) (fun hc => ?_) (fun hc => ?_)
      · replace h := ite_pos' h hc
        refine lv_iconst (v := (-1)) C.1.1 C.1.2.1 dX2_cell_21 (by decide) ?_
        cases h
        exact r_iret C hw (Or.inl rfl) dX2_cell_22
      · replace h := ite_neg' h hc
        refine lv_iload_n C.1.1 C.1.2.1 dX2_cell_16 rfl (lv_at hl 2 rfl) ?_
        refine lv_iconst (v := 5) C.1.1 C.1.2.1 dX2_cell_17 (by decide) ?_
        refine lv_icmp_lt (tgt := 23) C.1.1 C.1.2.1 dX2_cell_18 (by decide) (fun hc => ?_) (fun hc => ?_)
        · replace h := ite_pos' h hc
          refine lv_aload_n C.1.1 C.1.2.1 dX2_cell_23 rfl (lv_at hl 0 rfl) ?_
          refine r_getR (v := .ref (ad 14)) C hw (kx6 _) fX2_34 rfl (hx6_9 hx) dX2_cell_24 ?_
          refine lv_iload_n C.1.1 C.1.2.1 dX2_cell_27 rfl (lv_at hl 1 rfl) ?_
          refine lv_iconst (v := 5) C.1.1 C.1.2.1 dX2_cell_28 (by decide) ?_
          refine lv_imul C.1.1 C.1.2.1 dX2_cell_29 ?_
          refine lv_iload_n C.1.1 C.1.2.1 dX2_cell_30 rfl (lv_at hl 2 rfl) ?_
          refine lv_iadd C.1.1 C.1.2.1 dX2_cell_31 ?_
          obtain ⟨hz, h⟩ := ck_some h
          refine r_iald C hw (kx14 _) (inB_in hz) dX2_cell_32 ?_
          cases h
          exact r_iret C hw (Or.inl rfl) dX2_cell_33
        · replace h := ite_neg' h hc
          refine lv_iconst (v := (-1)) C.1.1 C.1.2.1 dX2_cell_21 (by decide) ?_
          cases h
          exact r_iret C hw (Or.inl rfl) dX2_cell_22
set_option maxHeartbeats 4000000 in
set_option maxRecDepth 100000 in
theorem c_X2_cell_s (hx : HX hr ad) {a1 : Int32} {a2 : Int32} {g : GM} {r : Int32} (h : F_X2_cell_s a1 a2 g = some r) (sz : Nat) : Met l yX2_cell (WSX yX2_cell cX2_cell 3 (some .int)) (RM 1 0 0) (va_Pc [.ref (ad 6), .int a1, .int a2] (PX D cA ev hr ad (KX ++ tl) g sz)) (QI D cA ev hr ad (AX ad (KX ++ tl).length sz) (KX ++ tl) r g) 0 0 (AX ad (KX ++ tl).length sz) :=
  met_of (own := RX2) pnX2 rfl (Nat.le_of_ble_eq_true rfl) (fun p e s m below meth c ls C hw hsz hl => w_X2_cell_s_0 C hx hw hl h)
set_option maxHeartbeats 4000000 in
set_option maxRecDepth 100000 in
theorem w_X6_value_0 (C : CX p s m args meth c RX6 yX6_value cX6_value 3 (some .int) D cA) (hx : HX hr ad) {H : Heap} {locs : List Loc} {g : GM} (hw : WS D cA ev hr ad A (KX ++ tl) s H locs g) {a1 : Int32} {a2 : Int32} {ls : Array Slot} (hl : lv_has ls 3 [(0, .ref (ad 0)), (1, .int a1), (2, .int a2)]) {r : Int32} (h : F_X6_value a1 a2 g = some r) : W p l e (RM 2 0 0) s m args below meth c H locs 0 0 (MQ below (QI D cA ev hr ad A (KX ++ tl) r g) args s 0 0 A) (F0 m 0 ls []) := by
  refine lv_aload_n C.1.1 C.1.2.1 dX6_value_0 rfl (lv_at hl 0 rfl) ?_
  refine r_getR (v := .ref (ad 6)) C hw (kx0 _) fX6_26 rfl (hx0_3 hx) dX6_value_1 ?_
  refine lv_iload_n C.1.1 C.1.2.1 dX6_value_4 rfl (lv_at hl 1 rfl) ?_
  refine lv_iload_n C.1.1 C.1.2.1 dX6_value_5 rfl (lv_at hl 2 rfl) ?_
  obtain ⟨r_1, hc, h⟩ := bnd_some h
  refine r_vI (dc := 1) (As := [.int a1, .int a2]) (rest := []) C hw vX6_113 (kx6 _) (by decide) rfl (fun sz => c_X2_cell_s hx hc sz) (by decide) rfl rfl hl.1 (Nat.le_of_ble_eq_true rfl) dX6_value_6 ⟨Nat.le_refl _, Nat.le_refl _⟩ (fun H locs hw => ?_)
  cases h
  exact r_iret C hw (Or.inl rfl) dX6_value_9
set_option maxHeartbeats 4000000 in
set_option maxRecDepth 100000 in
theorem c_X6_value (hx : HX hr ad) {a1 : Int32} {a2 : Int32} {g : GM} {r : Int32} (h : F_X6_value a1 a2 g = some r) (sz : Nat) : Met l yX6_value (WSX yX6_value cX6_value 3 (some .int)) (RM 2 0 0) (va_Pc [.ref (ad 0), .int a1, .int a2] (PX D cA ev hr ad (KX ++ tl) g sz)) (QI D cA ev hr ad (AX ad (KX ++ tl).length sz) (KX ++ tl) r g) 0 0 (AX ad (KX ++ tl).length sz) :=
  met_of (own := RX6) pnX6 rfl (Nat.le_of_ble_eq_true rfl) (fun p e s m below meth c ls C hw hsz hl => w_X6_value_0 C hx hw hl h)
set_option maxHeartbeats 4000000 in
set_option maxRecDepth 100000 in
theorem w_X1_isWish_d_25 {g : GM} {r : Int32} (C : CX p s m args meth c RX1 yX1_isWish cX1_isWish 2 (some .boolean) D cA) (hx : HX hr ad) {H : Heap} {locs : List Loc} (hw : WS D cA ev hr ad A (KX ++ tl) s H locs g) {ls : Array Slot} (hl : lv_has ls 2 []) (h : F_X1_isWish_d_25 g = some r) : W p l e (RM 1 0 0) s m args below meth c H locs 0 0 (MQ below (QI D cA ev hr ad A (KX ++ tl) r g) args s 0 0 A) (F0 m 25 ls []) := by
  refine lv_iconst (v := 0) C.1.1 C.1.2.1 dX1_isWish_25 (by decide) ?_
  cases h
  exact r_iret C hw (Or.inr ⟨rfl, Or.inl rfl⟩) dX1_isWish_26
set_option maxHeartbeats 4000000 in
set_option maxRecDepth 100000 in
theorem w_X1_isWish_d_0 (C : CX p s m args meth c RX1 yX1_isWish cX1_isWish 2 (some .boolean) D cA) (hx : HX hr ad) {H : Heap} {locs : List Loc} {g : GM} (hw : WS D cA ev hr ad A (KX ++ tl) s H locs g) {a1 : Int32} {ls : Array Slot} (hl : lv_has ls 2 [(0, .ref (ad 28)), (1, .int a1)]) {r : Int32} (h : F_X1_isWish_d a1 g = some r) : W p l e (RM 1 0 0) s m args below meth c H locs 0 0 (MQ below (QI D cA ev hr ad A (KX ++ tl) r g) args s 0 0 A) (F0 m 0 ls []) := by
  refine lv_iload_n C.1.1 C.1.2.1 dX1_isWish_0 rfl (lv_at hl 1 rfl) ?_
  refine lv_if_lt (tgt := 25) C.1.1 C.1.2.1 dX1_isWish_1 (by decide) (fun hc => ?_) (fun hc => ?_)
  · replace h := ite_pos' h hc
    exact w_X1_isWish_d_25 C hx hw (lv_sub hl [] rfl) h
  · replace h := ite_neg' h hc
    refine lv_iload_n C.1.1 C.1.2.1 dX1_isWish_4 rfl (lv_at hl 1 rfl) ?_
    refine lv_aload_n C.1.1 C.1.2.1 dX1_isWish_5 rfl (lv_at hl 0 rfl) ?_
    refine r_getI C hw (kx28 _) fX1_31 rfl dX1_isWish_6 ?_
    refine lv_icmp_ge (tgt := 25) C.1.1 C.1.2.1 dX1_isWish_9 (by decide) (fun hc => ?_) (fun hc => ?_)
    · replace h := ite_pos' h hc
      exact w_X1_isWish_d_25 C hx hw (lv_sub hl [] rfl) h
    · replace h := ite_neg' h hc
      refine lv_aload_n C.1.1 C.1.2.1 dX1_isWish_12 rfl (lv_at hl 0 rfl) ?_
      refine r_getR (v := .ref (ad 29)) C hw (kx28 _) fX1_9 rfl (hx28_1 hx) dX1_isWish_13 ?_
      refine lv_iload_n C.1.1 C.1.2.1 dX1_isWish_16 rfl (lv_at hl 1 rfl) ?_
      obtain ⟨hz, h⟩ := ck_some h
      refine r_zald C hw (kx29 _) (inB_in hz) dX1_isWish_17 ?_
      refine lv_if_ne (tgt := 25) C.1.1 C.1.2.1 dX1_isWish_18 (by decide) (fun hc => ?_) (fun hc => ?_)
      · replace h := ite_neg' h hc
        exact w_X1_isWish_d_25 C hx hw (lv_sub hl [] rfl) h
      · replace h := ite_pos' h hc
        refine lv_iconst (v := 1) C.1.1 C.1.2.1 dX1_isWish_21 (by decide) ?_
        refine lv_goto (tgt := 26) C.1.1 C.1.2.1 dX1_isWish_22 (by decide) ?_
        cases h
        exact r_iret C hw (Or.inr ⟨rfl, Or.inr rfl⟩) dX1_isWish_26
set_option maxHeartbeats 4000000 in
set_option maxRecDepth 100000 in
theorem c_X1_isWish_d (hx : HX hr ad) {a1 : Int32} {g : GM} {r : Int32} (h : F_X1_isWish_d a1 g = some r) (sz : Nat) : Met l yX1_isWish (WSX yX1_isWish cX1_isWish 2 (some .boolean)) (RM 1 0 0) (va_Pc [.ref (ad 28), .int a1] (PX D cA ev hr ad (KX ++ tl) g sz)) (QI D cA ev hr ad (AX ad (KX ++ tl).length sz) (KX ++ tl) r g) 0 0 (AX ad (KX ++ tl).length sz) :=
  met_of (own := RX1) pnX1 rfl (Nat.le_of_ble_eq_true rfl) (fun p e s m below meth c ls C hw hsz hl => w_X1_isWish_d_0 C hx hw hl h)
set_option maxHeartbeats 4000000 in
set_option maxRecDepth 100000 in
theorem w_X6_holds_0 (C : CX p s m args meth c RX6 yX6_holds cX6_holds 3 (some .int) D cA) (hx : HX hr ad) {H : Heap} {locs : List Loc} {g : GM} (hw : WS D cA ev hr ad A (KX ++ tl) s H locs g) {a1 : Int32} {a2 : Int32} {ls : Array Slot} (hl : lv_has ls 3 [(0, .ref (ad 0)), (1, .int a1), (2, .int a2)]) {r : Int32} (h : F_X6_holds a1 a2 g = some r) : W p l e (RM 2 0 0) s m args below meth c H locs 0 0 (MQ below (QI D cA ev hr ad A (KX ++ tl) r g) args s 0 0 A) (F0 m 0 ls []) := by
  refine lv_aload_n C.1.1 C.1.2.1 dX6_holds_0 rfl (lv_at hl 0 rfl) ?_
  refine r_getR (v := .ref (ad 28)) C hw (kx0 _) fX6_36 rfl (hx0_5 hx) dX6_holds_1 ?_
  refine lv_iload_n C.1.1 C.1.2.1 dX6_holds_4 rfl (lv_at hl 1 rfl) ?_
  obtain ⟨r_1, hc, h⟩ := bnd_some h
  refine r_vI (dc := 1) (As := [.int a1]) (rest := []) C hw vX6_117 (kx28 _) (by decide) rfl (fun sz => c_X1_isWish_d hx hc sz) (by decide) rfl rfl hl.1 (Nat.le_of_ble_eq_true rfl) dX6_holds_5 ⟨Nat.le_refl _, Nat.le_refl _⟩ (fun H locs hw => ?_)
  refine lv_if_eq (tgt := 22) C.1.1 C.1.2.1 dX6_holds_8 (by decide) (fun hc => ?_) (fun hc => ?_)
  · replace h := ite_pos' h hc
    refine lv_iconst (v := (-1)) C.1.1 C.1.2.1 dX6_holds_22 (by decide) ?_
    cases h
    exact r_iret C hw (Or.inl rfl) dX6_holds_23
  · replace h := ite_neg' h hc
    refine lv_aload_n C.1.1 C.1.2.1 dX6_holds_11 rfl (lv_at hl 0 rfl) ?_
    refine r_getR (v := .ref (ad 6)) C hw (kx0 _) fX6_26 rfl (hx0_3 hx) dX6_holds_12 ?_
    refine lv_iload_n C.1.1 C.1.2.1 dX6_holds_15 rfl (lv_at hl 2 rfl) ?_
    obtain ⟨r_2, hc, h⟩ := bnd_some h
    refine r_vI (dc := 1) (As := [.int a2]) (rest := []) C hw vX6_99 (kx6 _) (by decide) rfl (fun sz => c_X2_hasRow_s hx hc sz) (by decide) rfl rfl hl.1 (Nat.le_of_ble_eq_true rfl) dX6_holds_16 ⟨Nat.le_refl _, Nat.le_refl _⟩ (fun H locs hw => ?_)
    refine lv_if_ne (tgt := 24) C.1.1 C.1.2.1 dX6_holds_19 (by decide) (fun hc => ?_) (fun hc => ?_)
    · replace h := ite_neg' h hc
      refine lv_aload_n C.1.1 C.1.2.1 dX6_holds_24 rfl (lv_at hl 0 rfl) ?_
      refine r_getR (v := .ref (ad 6)) C hw (kx0 _) fX6_26 rfl (hx0_3 hx) dX6_holds_25 ?_
      refine r_getR (v := .ref (ad 12)) C hw (kx6 _) fX6_103 rfl (hx6_7 hx) dX6_holds_28 ?_
      refine lv_iload_n C.1.1 C.1.2.1 dX6_holds_31 rfl (lv_at hl 2 rfl) ?_
      obtain ⟨hz, h⟩ := ck_some h
      refine r_iald C hw (kx12 _) (inB_in hz) dX6_holds_32 ?_
      refine lv_aload_n C.1.1 C.1.2.1 dX6_holds_33 rfl (lv_at hl 0 rfl) ?_
      refine r_getR (v := .ref (ad 28)) C hw (kx0 _) fX6_36 rfl (hx0_5 hx) dX6_holds_34 ?_
      refine r_getR (v := .ref (ad 30)) C hw (kx28 _) fX6_120 rfl (hx28_2 hx) dX6_holds_37 ?_
      refine lv_iload_n C.1.1 C.1.2.1 dX6_holds_40 rfl (lv_at hl 1 rfl) ?_
      obtain ⟨hz, h⟩ := ck_some h
      refine r_iald C hw (kx30 _) (inB_in hz) dX6_holds_41 ?_
      refine lv_icmp_eq (tgt := 47) C.1.1 C.1.2.1 dX6_holds_42 (by decide) (fun hc => ?_) (fun hc => ?_)
      · replace h := ite_pos' h hc
        refine lv_aload_n C.1.1 C.1.2.1 dX6_holds_47 rfl (lv_at hl 0 rfl) ?_
        refine r_getR (v := .ref (ad 28)) C hw (kx0 _) fX6_36 rfl (hx0_5 hx) dX6_holds_48 ?_
        refine r_getR (v := .ref (ad 31)) C hw (kx28 _) fX6_123 rfl (hx28_3 hx) dX6_holds_51 ?_
        refine lv_iload_n C.1.1 C.1.2.1 dX6_holds_54 rfl (lv_at hl 1 rfl) ?_
        obtain ⟨hz, h⟩ := ck_some h
        refine r_iald C hw (kx31 _) (inB_in hz) dX6_holds_55 ?_
        refine lv_iload_n C.1.1 C.1.2.1 dX6_holds_56 rfl (lv_at hl 2 rfl) ?_
        obtain ⟨r_3, hc, h⟩ := bnd_some h
        refine r_sI (dc := 1) (As := [.int (gi g 31 a1.toNatClampNeg), .int a2]) (rest := []) C hw sX6_109 (fun sz => c_X6_has hx hc sz) (by decide) rfl rfl hl.1 (Nat.le_of_ble_eq_true rfl) dX6_holds_57 ⟨Nat.le_refl _, Nat.le_refl _⟩ (fun H locs hw => ?_)
        refine lv_if_eq (tgt := 67) C.1.1 C.1.2.1 dX6_holds_60 (by decide) (fun hc => ?_) (fun hc => ?_)
        · replace h := ite_pos' h hc
          refine lv_iconst (v := 0) C.1.1 C.1.2.1 dX6_holds_67 (by decide) ?_
          cases h
          exact r_iret C hw (Or.inl rfl) dX6_holds_68
        · replace h := ite_neg' h hc
          refine lv_iconst (v := 1) C.1.1 C.1.2.1 dX6_holds_63 (by decide) ?_
          refine lv_goto (tgt := 68) C.1.1 C.1.2.1 dX6_holds_64 (by decide) ?_
          cases h
          exact r_iret C hw (Or.inl rfl) dX6_holds_68
      · replace h := ite_neg' h hc
        refine lv_iconst (v := (-1)) C.1.1 C.1.2.1 dX6_holds_45 (by decide) ?_
        cases h
        exact r_iret C hw (Or.inl rfl) dX6_holds_46
    · replace h := ite_pos' h hc
      refine lv_iconst (v := (-1)) C.1.1 C.1.2.1 dX6_holds_22 (by decide) ?_
      cases h
      exact r_iret C hw (Or.inl rfl) dX6_holds_23
set_option maxHeartbeats 4000000 in
set_option maxRecDepth 100000 in
theorem c_X6_holds (hx : HX hr ad) {a1 : Int32} {a2 : Int32} {g : GM} {r : Int32} (h : F_X6_holds a1 a2 g = some r) (sz : Nat) : Met l yX6_holds (WSX yX6_holds cX6_holds 3 (some .int)) (RM 2 0 0) (va_Pc [.ref (ad 0), .int a1, .int a2] (PX D cA ev hr ad (KX ++ tl) g sz)) (QI D cA ev hr ad (AX ad (KX ++ tl).length sz) (KX ++ tl) r g) 0 0 (AX ad (KX ++ tl).length sz) :=
  met_of (own := RX6) pnX6 rfl (Nat.le_of_ble_eq_true rfl) (fun p e s m below meth c ls C hw hsz hl => w_X6_holds_0 C hx hw hl h)
set_option maxHeartbeats 4000000 in
set_option maxRecDepth 100000 in
theorem w_X2_isLinkedFrom_s_33 {x1 : Int32} {x2 : Int32} {x3 : Int32} {g : GM} {r : Int32} (kb2 : Int32 → Option (Int32)) (hk2 : ∀ (x3 : Int32) (H : Heap) (locs : List Loc) (ls : Array Slot), WS D cA ev hr ad A (KX ++ tl) s H locs g → lv_has ls 4 [(0, .ref (ad 6)), (1, .int x1), (2, .int x2), (3, .int x3)] → kb2 x3 = some r → W p l e (RM 2 0 0) s m args below meth c H locs 0 0 (MQ below (QI D cA ev hr ad A (KX ++ tl) r g) args s 0 0 A) (F0 m 2 ls [])) (C : CX p s m args meth c RX2 yX2_isLinkedFrom cX2_isLinkedFrom 4 (some .boolean) D cA) (hx : HX hr ad) {H : Heap} {locs : List Loc} (hw : WS D cA ev hr ad A (KX ++ tl) s H locs g) {ls : Array Slot} (hl : lv_has ls 4 [(0, .ref (ad 6)), (1, .int x1), (2, .int x2), (3, .int x3)]) (h : F_X2_isLinkedFrom_s_33 kb2 x1 x2 x3 g = some r) : W p l e (RM 2 0 0) s m args below meth c H locs 0 0 (MQ below (QI D cA ev hr ad A (KX ++ tl) r g) args s 0 0 A) (F0 m 33 ls []) := by
  refine lv_iinc (v := x3 + 1) (lv' := [(3, .int (x3 + 1)), (0, .ref (ad 6)), (1, .int x1), (2, .int x2)]) C.1.1 C.1.2.1 dX2_isLinkedFrom_33 hl (k := 3) rfl rfl (by decide) rfl (fun ls hl => ?_)
  refine lt_gen (P := fun x => lv_has ls 4 [(3, .int x), (0, .ref (ad 6)), (1, .int x1), (2, .int x2)]) h hl (fun x3_1 h hl => ?_)
  refine lv_goto (tgt := 2) C.1.1 C.1.2.1 dX2_isLinkedFrom_36 (by decide) ?_
  exact hk2 _ _ _ _ hw (lv_sub hl [1, 2, 3, 0] rfl) h
set_option maxHeartbeats 4000000 in
set_option maxRecDepth 100000 in
theorem w_X2_isLinkedFrom_s_2 {x1 : Int32} {x2 : Int32} {g : GM} {r : Int32} (kb2 : Int32 → Option (Int32)) (hk2 : ∀ (x3 : Int32) (H : Heap) (locs : List Loc) (ls : Array Slot), WS D cA ev hr ad A (KX ++ tl) s H locs g → lv_has ls 4 [(0, .ref (ad 6)), (1, .int x1), (2, .int x2), (3, .int x3)] → kb2 x3 = some r → W p l e (RM 2 0 0) s m args below meth c H locs 0 0 (MQ below (QI D cA ev hr ad A (KX ++ tl) r g) args s 0 0 A) (F0 m 2 ls [])) (C : CX p s m args meth c RX2 yX2_isLinkedFrom cX2_isLinkedFrom 4 (some .boolean) D cA) (hx : HX hr ad) {H : Heap} {locs : List Loc} {x3 : Int32} (hw : WS D cA ev hr ad A (KX ++ tl) s H locs g) {ls : Array Slot} (hl : lv_has ls 4 [(0, .ref (ad 6)), (1, .int x1), (2, .int x2), (3, .int x3)]) (h : F_X2_isLinkedFrom_s_2B x1 x2 g kb2 x3 = some r) : W p l e (RM 2 0 0) s m args below meth c H locs 0 0 (MQ below (QI D cA ev hr ad A (KX ++ tl) r g) args s 0 0 A) (F0 m 2 ls []) := by
  refine lv_iload_n C.1.1 C.1.2.1 dX2_isLinkedFrom_2 rfl (lv_at hl 3 rfl) ?_
  refine lv_aload_n C.1.1 C.1.2.1 dX2_isLinkedFrom_3 rfl (lv_at hl 0 rfl) ?_
  refine r_getI C hw (kx6 _) fX2_47 rfl dX2_isLinkedFrom_4 ?_
  refine lv_icmp_ge (tgt := 39) C.1.1 C.1.2.1 dX2_isLinkedFrom_7 (by decide) (fun hc => ?_) (fun hc => ?_)
  · replace h := ite_pos' h hc
    refine lv_iconst (v := 0) C.1.1 C.1.2.1 dX2_isLinkedFrom_39 (by decide) ?_
    cases h
    exact r_iret C hw (Or.inr ⟨rfl, Or.inl rfl⟩) dX2_isLinkedFrom_40
  · replace h := ite_neg' h hc
    refine lv_iload_n C.1.1 C.1.2.1 dX2_isLinkedFrom_10 rfl (lv_at hl 1 rfl) ?_
    refine lv_iload_n C.1.1 C.1.2.1 dX2_isLinkedFrom_11 rfl (lv_at hl 3 rfl) ?_
    obtain ⟨r_2, hc, h⟩ := bnd_some h
    refine r_nI (dc := 1) (As := [.int x1, .int x3]) (rest := []) C hw nX2_67 (fun sz => c_X6_has hx hc sz) (by decide) rfl rfl hl.1 (Nat.le_of_ble_eq_true rfl) dX2_isLinkedFrom_12 ⟨Nat.le_refl _, Nat.le_refl _⟩ (fun H locs hw => ?_)
    refine lv_if_eq (tgt := 33) C.1.1 C.1.2.1 dX2_isLinkedFrom_15 (by decide) (fun hc => ?_) (fun hc => ?_)
    · replace h := ite_pos' h hc
      exact w_X2_isLinkedFrom_s_33 kb2 hk2 C hx hw hl h
    · replace h := ite_neg' h hc
      refine lv_aload_n C.1.1 C.1.2.1 dX2_isLinkedFrom_18 rfl (lv_at hl 0 rfl) ?_
      refine r_getR (v := .ref (ad 16)) C hw (kx6 _) fX2_40 rfl (hx6_11 hx) dX2_isLinkedFrom_19 ?_
      refine lv_iload_n C.1.1 C.1.2.1 dX2_isLinkedFrom_22 rfl (lv_at hl 3 rfl) ?_
      obtain ⟨hz, h⟩ := ck_some h
      refine r_iald C hw (kx16 _) (inB_in hz) dX2_isLinkedFrom_23 ?_
      refine lv_iload_n C.1.1 C.1.2.1 dX2_isLinkedFrom_24 rfl (lv_at hl 2 rfl) ?_
      obtain ⟨r_3, hc, h⟩ := bnd_some h
      refine r_nI (dc := 1) (As := [.int (gi g 16 x3.toNatClampNeg), .int x2]) (rest := []) C hw nX2_67 (fun sz => c_X6_has hx hc sz) (by decide) rfl rfl hl.1 (Nat.le_of_ble_eq_true rfl) dX2_isLinkedFrom_25 ⟨Nat.le_refl _, Nat.le_refl _⟩ (fun H locs hw => ?_)
      refine lv_if_eq (tgt := 33) C.1.1 C.1.2.1 dX2_isLinkedFrom_28 (by decide) (fun hc => ?_) (fun hc => ?_)
      · replace h := ite_pos' h hc
        exact w_X2_isLinkedFrom_s_33 kb2 hk2 C hx hw hl h
      · replace h := ite_neg' h hc
        refine lv_iconst (v := 1) C.1.1 C.1.2.1 dX2_isLinkedFrom_31 (by decide) ?_
        cases h
        exact r_iret C hw (Or.inr ⟨rfl, Or.inr rfl⟩) dX2_isLinkedFrom_32
set_option maxHeartbeats 4000000 in
set_option maxRecDepth 100000 in
theorem w_X2_isLinkedFrom_s_2L {x1 : Int32} {x2 : Int32} {g : GM} {r : Int32} (C : CX p s m args meth c RX2 yX2_isLinkedFrom cX2_isLinkedFrom 4 (some .boolean) D cA) (hx : HX hr ad) : ∀ (n : Nat) (x3 : Int32) (H : Heap) (locs : List Loc) (ls : Array Slot), WS D cA ev hr ad A (KX ++ tl) s H locs g → lv_has ls 4 [(0, .ref (ad 6)), (1, .int x1), (2, .int x2), (3, .int x3)] → fixN (F_X2_isLinkedFrom_s_2B x1 x2 g) n x3 = some r → W p l e (RM 2 0 0) s m args below meth c H locs 0 0 (MQ below (QI D cA ev hr ad A (KX ++ tl) r g) args s 0 0 A) (F0 m 2 ls []) := by
  intro n
  induction n with
  | zero => intro x3 H locs ls hw hl h; exact (fix_zero h).elim
  | succ n ih => intro x3 H locs ls hw hl h; exact w_X2_isLinkedFrom_s_2 (fixN (F_X2_isLinkedFrom_s_2B x1 x2 g) n) ih C hx hw hl h
set_option maxHeartbeats 4000000 in
set_option maxRecDepth 100000 in
theorem w_X2_isLinkedFrom_s_0 (C : CX p s m args meth c RX2 yX2_isLinkedFrom cX2_isLinkedFrom 4 (some .boolean) D cA) (hx : HX hr ad) {H : Heap} {locs : List Loc} {g : GM} (hw : WS D cA ev hr ad A (KX ++ tl) s H locs g) {a1 : Int32} {a2 : Int32} {ls : Array Slot} (hl : lv_has ls 4 [(0, .ref (ad 6)), (1, .int a1), (2, .int a2)]) {r : Int32} (h : F_X2_isLinkedFrom_s a1 a2 g = some r) : W p l e (RM 2 0 0) s m args below meth c H locs 0 0 (MQ below (QI D cA ev hr ad A (KX ++ tl) r g) args s 0 0 A) (F0 m 0 ls []) := by
  refine lv_iconst (v := 0) C.1.1 C.1.2.1 dX2_isLinkedFrom_0 (by decide) ?_
  refine lv_istore_n (lv' := [(3, .int 0), (0, .ref (ad 6)), (1, .int a1), (2, .int a2)]) C.1.1 C.1.2.1 dX2_isLinkedFrom_1 rfl hl (by decide) rfl (fun ls hl => ?_)
  exact w_X2_isLinkedFrom_s_2L C hx FU _ _ _ _ hw (lv_sub hl [1, 2, 3, 0] rfl) h
set_option maxHeartbeats 4000000 in
set_option maxRecDepth 100000 in
theorem c_X2_isLinkedFrom_s (hx : HX hr ad) {a1 : Int32} {a2 : Int32} {g : GM} {r : Int32} (h : F_X2_isLinkedFrom_s a1 a2 g = some r) (sz : Nat) : Met l yX2_isLinkedFrom (WSX yX2_isLinkedFrom cX2_isLinkedFrom 4 (some .boolean)) (RM 2 0 0) (va_Pc [.ref (ad 6), .int a1, .int a2] (PX D cA ev hr ad (KX ++ tl) g sz)) (QI D cA ev hr ad (AX ad (KX ++ tl).length sz) (KX ++ tl) r g) 0 0 (AX ad (KX ++ tl).length sz) :=
  met_of (own := RX2) pnX2 rfl (Nat.le_of_ble_eq_true rfl) (fun p e s m below meth c ls C hw hsz hl => w_X2_isLinkedFrom_s_0 C hx hw hl h)
set_option maxHeartbeats 4000000 in
set_option maxRecDepth 100000 in
theorem w_X1_lose_d_55 {x1 : Int32} {x2 : Int32} {g : GM} {gz : GM} (kb2 : Int32 × GM → Option (GM)) (hk2 : ∀ (x2 : Int32) (g : GM) (H : Heap) (locs : List Loc) (ls : Array Slot), WS D cA ev hr ad A (KX ++ tl) s H locs g → lv_has ls 3 [(0, .ref (ad 28)), (1, .int x1), (2, .int x2)] → kb2 (x2, g) = some gz → W p l e (RM 2 0 0) s m args below meth c H locs 0 0 (MQ below (QV D cA ev hr ad A (KX ++ tl) gz) args s 0 0 A) (F0 m 2 ls [])) (C : CX p s m args meth c RX1 yX1_lose cX1_lose 3 none D cA) (hx : HX hr ad) {H : Heap} {locs : List Loc} (hw : WS D cA ev hr ad A (KX ++ tl) s H locs g) {ls : Array Slot} (hl : lv_has ls 3 [(0, .ref (ad 28)), (1, .int x1), (2, .int x2)]) (h : F_X1_lose_d_55 kb2 x1 x2 g = some gz) : W p l e (RM 2 0 0) s m args below meth c H locs 0 0 (MQ below (QV D cA ev hr ad A (KX ++ tl) gz) args s 0 0 A) (F0 m 55 ls []) := by
  refine lv_iinc (v := x2 + 1) (lv' := [(2, .int (x2 + 1)), (0, .ref (ad 28)), (1, .int x1)]) C.1.1 C.1.2.1 dX1_lose_55 hl (k := 2) rfl rfl (by decide) rfl (fun ls hl => ?_)
  refine lt_gen (P := fun x => lv_has ls 3 [(2, .int x), (0, .ref (ad 28)), (1, .int x1)]) h hl (fun x2_1 h hl => ?_)
  refine lv_goto (tgt := 2) C.1.1 C.1.2.1 dX1_lose_58 (by decide) ?_
  exact hk2 _ _ _ _ _ hw (lv_sub hl [1, 2, 0] rfl) h
set_option maxHeartbeats 4000000 in
set_option maxRecDepth 100000 in
theorem w_X1_lose_d_2 {x1 : Int32} {gz : GM} (kb2 : Int32 × GM → Option (GM)) (hk2 : ∀ (x2 : Int32) (g : GM) (H : Heap) (locs : List Loc) (ls : Array Slot), WS D cA ev hr ad A (KX ++ tl) s H locs g → lv_has ls 3 [(0, .ref (ad 28)), (1, .int x1), (2, .int x2)] → kb2 (x2, g) = some gz → W p l e (RM 2 0 0) s m args below meth c H locs 0 0 (MQ below (QV D cA ev hr ad A (KX ++ tl) gz) args s 0 0 A) (F0 m 2 ls [])) (C : CX p s m args meth c RX1 yX1_lose cX1_lose 3 none D cA) (hx : HX hr ad) {H : Heap} {locs : List Loc} {x2 : Int32} {g : GM} (hw : WS D cA ev hr ad A (KX ++ tl) s H locs g) {ls : Array Slot} (hl : lv_has ls 3 [(0, .ref (ad 28)), (1, .int x1), (2, .int x2)]) (h : F_X1_lose_d_2B x1 kb2 (x2, g) = some gz) : W p l e (RM 2 0 0) s m args below meth c H locs 0 0 (MQ below (QV D cA ev hr ad A (KX ++ tl) gz) args s 0 0 A) (F0 m 2 ls []) := by
  refine lv_iload_n C.1.1 C.1.2.1 dX1_lose_2 rfl (lv_at hl 2 rfl) ?_
  refine lv_aload_n C.1.1 C.1.2.1 dX1_lose_3 rfl (lv_at hl 0 rfl) ?_
  refine r_getI C hw (kx28 _) fX1_35 rfl dX1_lose_4 ?_
  refine lv_icmp_ge (tgt := 61) C.1.1 C.1.2.1 dX1_lose_7 (by decide) (fun hc => ?_) (fun hc => ?_)
  · replace h := ite_pos' h hc
    cases h
    exact r_vret C hw rfl dX1_lose_61
  · replace h := ite_neg' h hc
    refine lv_aload_n C.1.1 C.1.2.1 dX1_lose_10 rfl (lv_at hl 0 rfl) ?_
    refine r_getR (v := .ref (ad 34)) C hw (kx28 _) fX1_28 rfl (hx28_7 hx) dX1_lose_11 ?_
    refine lv_iload_n C.1.1 C.1.2.1 dX1_lose_14 rfl (lv_at hl 2 rfl) ?_
    refine lv_dup2_11 C.1.1 C.1.2.1 dX1_lose_15 rfl rfl ?_
    obtain ⟨hz, h⟩ := ck_some h
    refine r_iald C hw (kx34 _) (inB_in hz) dX1_lose_16 ?_
    refine lv_iload_n C.1.1 C.1.2.1 dX1_lose_17 rfl (lv_at hl 1 rfl) ?_
    refine lv_iconst (v := (-1)) C.1.1 C.1.2.1 dX1_lose_18 (by decide) ?_
    refine lv_ixor C.1.1 C.1.2.1 dX1_lose_19 ?_
    refine lv_iand C.1.1 C.1.2.1 dX1_lose_20 ?_
    obtain ⟨hz, h⟩ := ck_some h
    refine r_iast C hw (kx34 _) (inB_in hz) dX1_lose_21 (fun H locs hw => ?_)
    refine lt_gen (P := fun g => WS D cA ev hr ad A (KX ++ tl) s H locs g) h hw (fun g_2 h hw => ?_)
    refine lv_aload_n C.1.1 C.1.2.1 dX1_lose_22 rfl (lv_at hl 0 rfl) ?_
    refine r_getR (v := .ref (ad 32)) C hw (kx28 _) fX1_22 rfl (hx28_5 hx) dX1_lose_23 ?_
    refine lv_iload_n C.1.1 C.1.2.1 dX1_lose_26 rfl (lv_at hl 2 rfl) ?_
    obtain ⟨hz, h⟩ := ck_some h
    refine r_iald C hw (kx32 _) (inB_in hz) dX1_lose_27 ?_
    refine lv_if_eq (tgt := 55) C.1.1 C.1.2.1 dX1_lose_28 (by decide) (fun hc => ?_) (fun hc => ?_)
    · replace h := ite_pos' h hc
      exact w_X1_lose_d_55 kb2 hk2 C hx hw hl h
    · replace h := ite_neg' h hc
      refine lv_aload_n C.1.1 C.1.2.1 dX1_lose_31 rfl (lv_at hl 0 rfl) ?_
      refine r_getR (v := .ref (ad 33)) C hw (kx28 _) fX1_25 rfl (hx28_6 hx) dX1_lose_32 ?_
      refine lv_iload_n C.1.1 C.1.2.1 dX1_lose_35 rfl (lv_at hl 2 rfl) ?_
      refine lv_aload_n C.1.1 C.1.2.1 dX1_lose_36 rfl (lv_at hl 0 rfl) ?_
      refine r_getR (v := .ref (ad 33)) C hw (kx28 _) fX1_25 rfl (hx28_6 hx) dX1_lose_37 ?_
      refine lv_iload_n C.1.1 C.1.2.1 dX1_lose_40 rfl (lv_at hl 2 rfl) ?_
      obtain ⟨hz, h⟩ := ck_some h
      refine r_iald C hw (kx33 _) (inB_in hz) dX1_lose_41 ?_
      refine lv_aload_n C.1.1 C.1.2.1 dX1_lose_42 rfl (lv_at hl 0 rfl) ?_
      refine r_getR (v := .ref (ad 34)) C hw (kx28 _) fX1_28 rfl (hx28_7 hx) dX1_lose_43 ?_
      refine lv_iload_n C.1.1 C.1.2.1 dX1_lose_46 rfl (lv_at hl 2 rfl) ?_
      obtain ⟨hz, h⟩ := ck_some h
      refine r_iald C hw (kx34 _) (inB_in hz) dX1_lose_47 ?_
      obtain ⟨r_3, hc, h⟩ := bnd_some h
      refine r_sI (dc := 1) (As := [.int (gi g_2 34 x2.toNatClampNeg)]) (rest := [.int (gi g_2 33 x2.toNatClampNeg), .int x2, .ref (ad 33)]) C hw sX1_58 (fun sz => c_J6_bitCount_0f7a4 trivial hc sz) (by decide) rfl rfl hl.1 (Nat.le_of_ble_eq_true rfl) dX1_lose_48 ⟨Nat.le_refl _, Nat.le_refl _⟩ (fun H locs hw => ?_)
      obtain ⟨r_4, hc, h⟩ := bnd_some h
      refine r_sI (dc := 1) (As := [.int (gi g_2 33 x2.toNatClampNeg), .int r_3]) (rest := [.int x2, .ref (ad 33)]) C hw sX1_64 (fun sz => c_J9_min_7cf53 trivial hc sz) (by decide) rfl rfl hl.1 (Nat.le_of_ble_eq_true rfl) dX1_lose_51 ⟨Nat.le_refl _, Nat.le_refl _⟩ (fun H locs hw => ?_)
      obtain ⟨hz, h⟩ := ck_some h
      refine r_iast C hw (kx33 _) (inB_in hz) dX1_lose_54 (fun H locs hw => ?_)
      refine lt_gen (P := fun g => WS D cA ev hr ad A (KX ++ tl) s H locs g) h hw (fun g_5 h hw => ?_)
      exact w_X1_lose_d_55 kb2 hk2 C hx hw hl h
set_option maxHeartbeats 4000000 in
set_option maxRecDepth 100000 in
theorem w_X1_lose_d_2L {x1 : Int32} {gz : GM} (C : CX p s m args meth c RX1 yX1_lose cX1_lose 3 none D cA) (hx : HX hr ad) : ∀ (n : Nat) (x2 : Int32) (g : GM) (H : Heap) (locs : List Loc) (ls : Array Slot), WS D cA ev hr ad A (KX ++ tl) s H locs g → lv_has ls 3 [(0, .ref (ad 28)), (1, .int x1), (2, .int x2)] → fixN (F_X1_lose_d_2B x1) n (x2, g) = some gz → W p l e (RM 2 0 0) s m args below meth c H locs 0 0 (MQ below (QV D cA ev hr ad A (KX ++ tl) gz) args s 0 0 A) (F0 m 2 ls []) := by
  intro n
  induction n with
  | zero => intro x2 g H locs ls hw hl h; exact (fix_zero h).elim
  | succ n ih => intro x2 g H locs ls hw hl h; exact w_X1_lose_d_2 (fixN (F_X1_lose_d_2B x1) n) ih C hx hw hl h
set_option maxHeartbeats 4000000 in
set_option maxRecDepth 100000 in
theorem w_X1_lose_d_0 (C : CX p s m args meth c RX1 yX1_lose cX1_lose 3 none D cA) (hx : HX hr ad) {H : Heap} {locs : List Loc} {g : GM} (hw : WS D cA ev hr ad A (KX ++ tl) s H locs g) {a1 : Int32} {ls : Array Slot} (hl : lv_has ls 3 [(0, .ref (ad 28)), (1, .int a1)]) {gz : GM} (h : F_X1_lose_d a1 g = some gz) : W p l e (RM 2 0 0) s m args below meth c H locs 0 0 (MQ below (QV D cA ev hr ad A (KX ++ tl) gz) args s 0 0 A) (F0 m 0 ls []) := by
  refine lv_iconst (v := 0) C.1.1 C.1.2.1 dX1_lose_0 (by decide) ?_
  refine lv_istore_n (lv' := [(2, .int 0), (0, .ref (ad 28)), (1, .int a1)]) C.1.1 C.1.2.1 dX1_lose_1 rfl hl (by decide) rfl (fun ls hl => ?_)
  exact w_X1_lose_d_2L C hx FU _ _ _ _ _ hw (lv_sub hl [1, 2, 0] rfl) h
set_option maxHeartbeats 4000000 in
set_option maxRecDepth 100000 in
theorem c_X1_lose_d (hx : HX hr ad) {a1 : Int32} {g : GM} {gz : GM} (h : F_X1_lose_d a1 g = some gz) (sz : Nat) : Met l yX1_lose (WSX yX1_lose cX1_lose 3 none) (RM 2 0 0) (va_Pc [.ref (ad 28), .int a1] (PX D cA ev hr ad (KX ++ tl) g sz)) (QV D cA ev hr ad (AX ad (KX ++ tl).length sz) (KX ++ tl) gz) 0 0 (AX ad (KX ++ tl).length sz) :=
  met_of (own := RX1) pnX1 rfl (Nat.le_of_ble_eq_true rfl) (fun p e s m below meth c ls C hw hsz hl => w_X1_lose_d_0 C hx hw hl h)
set_option maxHeartbeats 4000000 in
set_option maxRecDepth 100000 in
theorem w_X6_forgetPieces_0 (C : CX p s m args meth c RX6 yX6_forgetPieces cX6_forgetPieces 1 none D cA) (hx : HX hr ad) {H : Heap} {locs : List Loc} {g : GM} (hw : WS D cA ev hr ad A (KX ++ tl) s H locs g) {ls : Array Slot} (hl : lv_has ls 1 [(0, .ref (ad 0))]) {gz : GM} (h : F_X6_forgetPieces g = some gz) : W p l e (RM 1 0 0) s m args below meth c H locs 0 0 (MQ below (QV D cA ev hr ad A (KX ++ tl) gz) args s 0 0 A) (F0 m 0 ls []) := by
  refine lv_aload_n C.1.1 C.1.2.1 dX6_forgetPieces_0 rfl (lv_at hl 0 rfl) ?_
  refine lv_iconst (v := 0) C.1.1 C.1.2.1 dX6_forgetPieces_1 (by decide) ?_
  refine r_putZ C hw (kx0 _) fX6_129 rfl rfl (Or.inl rfl) (Or.inl rfl) dX6_forgetPieces_2 (fun H locs hw => ?_)
  refine lt_gen (P := fun g => WS D cA ev hr ad A (KX ++ tl) s H locs g) h hw (fun g_1 h hw => ?_)
  refine lv_aload_n C.1.1 C.1.2.1 dX6_forgetPieces_5 rfl (lv_at hl 0 rfl) ?_
  refine lv_iconst (v := 0) C.1.1 C.1.2.1 dX6_forgetPieces_6 (by decide) ?_
  refine r_putZ C hw (kx0 _) fX6_155 rfl rfl (Or.inl rfl) (Or.inl rfl) dX6_forgetPieces_7 (fun H locs hw => ?_)
  refine lt_gen (P := fun g => WS D cA ev hr ad A (KX ++ tl) s H locs g) h hw (fun g_2 h hw => ?_)
  cases h
  exact r_vret C hw rfl dX6_forgetPieces_10
set_option maxHeartbeats 4000000 in
set_option maxRecDepth 100000 in
theorem c_X6_forgetPieces (hx : HX hr ad) {g : GM} {gz : GM} (h : F_X6_forgetPieces g = some gz) (sz : Nat) : Met l yX6_forgetPieces (WSX yX6_forgetPieces cX6_forgetPieces 1 none) (RM 1 0 0) (va_Pc [.ref (ad 0)] (PX D cA ev hr ad (KX ++ tl) g sz)) (QV D cA ev hr ad (AX ad (KX ++ tl).length sz) (KX ++ tl) gz) 0 0 (AX ad (KX ++ tl).length sz) :=
  met_of (own := RX6) pnX6 rfl (Nat.le_of_ble_eq_true rfl) (fun p e s m below meth c ls C hw hsz hl => w_X6_forgetPieces_0 C hx hw hl h)
set_option maxHeartbeats 4000000 in
set_option maxRecDepth 100000 in
theorem w_X6_gone_0 (C : CX p s m args meth c RX6 yX6_gone cX6_gone 2 (some .boolean) D cA) (hx : HX hr ad) {H : Heap} {locs : List Loc} {g : GM} (hw : WS D cA ev hr ad A (KX ++ tl) s H locs g) {a1 : Int32} {ls : Array Slot} (hl : lv_has ls 2 [(0, .ref (ad 0)), (1, .int a1)]) {r : Int32} {gz : GM} (h : F_X6_gone a1 g = some (r, gz)) : W p l e (RM 3 0 0) s m args below meth c H locs 0 0 (MQ below (QI D cA ev hr ad A (KX ++ tl) r gz) args s 0 0 A) (F0 m 0 ls []) := by
  refine lv_aload_n C.1.1 C.1.2.1 dX6_gone_0 rfl (lv_at hl 0 rfl) ?_
  refine r_getR (v := .ref (ad 6)) C hw (kx0 _) fX6_26 rfl (hx0_3 hx) dX6_gone_1 ?_
  refine lv_iload_n C.1.1 C.1.2.1 dX6_gone_4 rfl (lv_at hl 1 rfl) ?_
  obtain ⟨r_1, hc, h⟩ := bnd_some h
  refine r_vI (dc := 1) (As := [.int a1]) (rest := []) C hw vX6_99 (kx6 _) (by decide) rfl (fun sz => c_X2_hasRow_s hx hc sz) (by decide) rfl rfl hl.1 (Nat.le_of_ble_eq_true rfl) dX6_gone_5 ⟨Nat.le_refl _, Nat.le_refl _⟩ (fun H locs hw => ?_)
  refine lv_if_eq (tgt := 39) C.1.1 C.1.2.1 dX6_gone_8 (by decide) (fun hc => ?_) (fun hc => ?_)
  · replace h := ite_pos' h hc
    refine lv_iconst (v := 0) C.1.1 C.1.2.1 dX6_gone_39 (by decide) ?_
    cases h
    exact r_iret C hw (Or.inr ⟨rfl, Or.inl rfl⟩) dX6_gone_40
  · replace h := ite_neg' h hc
    refine lv_aload_n C.1.1 C.1.2.1 dX6_gone_11 rfl (lv_at hl 0 rfl) ?_
    refine r_getI C hw (kx0 _) fX6_69 rfl dX6_gone_12 ?_
    refine lv_iload_n C.1.1 C.1.2.1 dX6_gone_15 rfl (lv_at hl 1 rfl) ?_
    obtain ⟨r_2, hc, h⟩ := bnd_some h
    refine r_sI (dc := 1) (As := [.int (gi g 0 7), .int a1]) (rest := []) C hw sX6_109 (fun sz => c_X6_has hx hc sz) (by decide) rfl rfl hl.1 (Nat.le_of_ble_eq_true rfl) dX6_gone_16 ⟨Nat.le_refl _, Nat.le_refl _⟩ (fun H locs hw => ?_)
    refine lv_if_ne (tgt := 39) C.1.1 C.1.2.1 dX6_gone_19 (by decide) (fun hc => ?_) (fun hc => ?_)
    · replace h := ite_neg' h hc
      refine lv_iconst (v := 0) C.1.1 C.1.2.1 dX6_gone_39 (by decide) ?_
      cases h
      exact r_iret C hw (Or.inr ⟨rfl, Or.inl rfl⟩) dX6_gone_40
    · replace h := ite_pos' h hc
      refine lv_aload_n C.1.1 C.1.2.1 dX6_gone_22 rfl (lv_at hl 0 rfl) ?_
      refine r_getR (v := .ref (ad 6)) C hw (kx0 _) fX6_26 rfl (hx0_3 hx) dX6_gone_23 ?_
      refine lv_aload_n C.1.1 C.1.2.1 dX6_gone_26 rfl (lv_at hl 0 rfl) ?_
      refine r_getI C hw (kx0 _) fX6_69 rfl dX6_gone_27 ?_
      refine lv_iconst (v := (-1)) C.1.1 C.1.2.1 dX6_gone_30 (by decide) ?_
      refine lv_ixor C.1.1 C.1.2.1 dX6_gone_31 ?_
      refine lv_iload_n C.1.1 C.1.2.1 dX6_gone_32 rfl (lv_at hl 1 rfl) ?_
      obtain ⟨r_3, hc, h⟩ := bnd_some h
      refine r_vI (dc := 2) (As := [.int ((gi g 0 7) ^^^ ((-1))), .int a1]) (rest := []) C hw vX6_126 (kx6 _) (by decide) rfl (fun sz => c_X2_isLinkedFrom_s hx hc sz) (by decide) rfl rfl hl.1 (Nat.le_of_ble_eq_true rfl) dX6_gone_33 ⟨Nat.le_refl _, Nat.le_refl _⟩ (fun H locs hw => ?_)
      refine lv_if_eq (tgt := 41) C.1.1 C.1.2.1 dX6_gone_36 (by decide) (fun hc => ?_) (fun hc => ?_)
      · replace h := ite_pos' h hc
        refine lv_aload_n C.1.1 C.1.2.1 dX6_gone_41 rfl (lv_at hl 0 rfl) ?_
        refine lv_dup C.1.1 C.1.2.1 dX6_gone_42 rfl ?_
        refine r_getI C hw (kx0 _) fX6_69 rfl dX6_gone_43 ?_
        refine lv_iconst (v := 1) C.1.1 C.1.2.1 dX6_gone_46 (by decide) ?_
        refine lv_iload_n C.1.1 C.1.2.1 dX6_gone_47 rfl (lv_at hl 1 rfl) ?_
        refine lv_ishl C.1.1 C.1.2.1 dX6_gone_48 ?_
        refine lv_ior C.1.1 C.1.2.1 dX6_gone_49 ?_
        refine r_putI C hw (kx0 _) fX6_69 rfl rfl (Or.inl rfl) dX6_gone_50 (fun H locs hw => ?_)
        refine lt_gen (P := fun g => WS D cA ev hr ad A (KX ++ tl) s H locs g) h hw (fun g_4 h hw => ?_)
        refine lv_aload_n C.1.1 C.1.2.1 dX6_gone_53 rfl (lv_at hl 0 rfl) ?_
        refine r_getR (v := .ref (ad 28)) C hw (kx0 _) fX6_36 rfl (hx0_5 hx) dX6_gone_54 ?_
        refine lv_aload_n C.1.1 C.1.2.1 dX6_gone_57 rfl (lv_at hl 0 rfl) ?_
        refine r_getI C hw (kx0 _) fX6_69 rfl dX6_gone_58 ?_
        obtain ⟨g_5, hc, h⟩ := bnd_some h
        refine r_vV (dc := 2) (As := [.int (gi g_4 0 7)]) (rest := []) C hw vX6_87 (kx28 _) (by decide) rfl (fun sz => c_X1_lose_d hx hc sz) (by decide) rfl rfl hl.1 (Nat.le_of_ble_eq_true rfl) dX6_gone_61 ⟨Nat.le_refl _, Nat.le_refl _⟩ (fun H locs hw => ?_)
        refine lv_aload_n C.1.1 C.1.2.1 dX6_gone_64 rfl (lv_at hl 0 rfl) ?_
        obtain ⟨g_6, hc, h⟩ := bnd_some h
        refine r_vV (dc := 1) (As := []) (rest := []) C hw vX6_75 (kx0 _) (by decide) rfl (fun sz => c_X6_forgetPieces hx hc sz) (by decide) rfl rfl hl.1 (Nat.le_of_ble_eq_true rfl) dX6_gone_65 ⟨Nat.le_refl _, Nat.le_refl _⟩ (fun H locs hw => ?_)
        refine lv_iconst (v := 1) C.1.1 C.1.2.1 dX6_gone_68 (by decide) ?_
        cases h
        exact r_iret C hw (Or.inr ⟨rfl, Or.inr rfl⟩) dX6_gone_69
      · replace h := ite_neg' h hc
        refine lv_iconst (v := 0) C.1.1 C.1.2.1 dX6_gone_39 (by decide) ?_
        cases h
        exact r_iret C hw (Or.inr ⟨rfl, Or.inl rfl⟩) dX6_gone_40
set_option maxHeartbeats 4000000 in
set_option maxRecDepth 100000 in
theorem c_X6_gone (hx : HX hr ad) {a1 : Int32} {g : GM} {r : Int32} {gz : GM} (h : F_X6_gone a1 g = some (r, gz)) (sz : Nat) : Met l yX6_gone (WSX yX6_gone cX6_gone 2 (some .boolean)) (RM 3 0 0) (va_Pc [.ref (ad 0), .int a1] (PX D cA ev hr ad (KX ++ tl) g sz)) (QI D cA ev hr ad (AX ad (KX ++ tl).length sz) (KX ++ tl) r gz) 0 0 (AX ad (KX ++ tl).length sz) :=
  met_of (own := RX6) pnX6 rfl (Nat.le_of_ble_eq_true rfl) (fun p e s m below meth c ls C hw hsz hl => w_X6_gone_0 C hx hw hl h)
set_option maxHeartbeats 4000000 in
set_option maxRecDepth 100000 in
theorem w_X2_hasColumn_s_30 {g : GM} {r : Int32} (C : CX p s m args meth c RX2 yX2_hasColumn cX2_hasColumn 3 (some .boolean) D cA) (hx : HX hr ad) {H : Heap} {locs : List Loc} (hw : WS D cA ev hr ad A (KX ++ tl) s H locs g) {ls : Array Slot} (hl : lv_has ls 3 []) (h : F_X2_hasColumn_s_30 g = some r) : W p l e (RM 1 0 0) s m args below meth c H locs 0 0 (MQ below (QI D cA ev hr ad A (KX ++ tl) r g) args s 0 0 A) (F0 m 30 ls []) := by
  refine lv_iconst (v := 0) C.1.1 C.1.2.1 dX2_hasColumn_30 (by decide) ?_
  cases h
  exact r_iret C hw (Or.inr ⟨rfl, Or.inl rfl⟩) dX2_hasColumn_31
set_option maxHeartbeats 4000000 in
set_option maxRecDepth 100000 in
theorem w_X2_hasColumn_s_0 (C : CX p s m args meth c RX2 yX2_hasColumn cX2_hasColumn 3 (some .boolean) D cA) (hx : HX hr ad) {H : Heap} {locs : List Loc} {g : GM} (hw : WS D cA ev hr ad A (KX ++ tl) s H locs g) {a1 : Int32} {a2 : Int32} {ls : Array Slot} (hl : lv_has ls 3 [(0, .ref (ad 6)), (1, .int a1), (2, .int a2)]) {r : Int32} (h : F_X2_hasColumn_s a1 a2 g = some r) : W p l e (RM 1 0 0) s m args below meth c H locs 0 0 (MQ below (QI D cA ev hr ad A (KX ++ tl) r g) args s 0 0 A) (F0 m 0 ls []) := by
  refine lv_iload_n C.1.1 C.1.2.1 dX2_hasColumn_0 rfl (lv_at hl 1 rfl) ?_
  refine lv_if_lt (tgt := 30) C.1.1 C.1.2.1 dX2_hasColumn_1 (by decide) (fun hc => ?_) (fun hc => ?_)
  · replace h := ite_pos' h hc
    exact w_X2_hasColumn_s_30 C hx hw (lv_sub hl [] rfl) h
  · replace h := ite_neg' h hc
    refine lv_iload_n C.1.1 C.1.2.1 dX2_hasColumn_4 rfl (lv_at hl 1 rfl) ?_
    refine lv_aload_n C.1.1 C.1.2.1 dX2_hasColumn_5 rfl (lv_at hl 0 rfl) ?_
    refine r_getI C hw (kx6 _) fX2_43 rfl dX2_hasColumn_6 ?_
    refine lv_icmp_ge (tgt := 30) C.1.1 C.1.2.1 dX2_hasColumn_9 (by decide) (fun hc => ?_) (fun hc => ?_)
    · replace h := ite_pos' h hc
      exact w_X2_hasColumn_s_30 C hx hw (lv_sub hl [] rfl) h
    · replace h := ite_neg' h hc
      refine lv_iload_n C.1.1 C.1.2.1 dX2_hasColumn_12 rfl (lv_at hl 2 rfl) ?_
      refine lv_if_lt (tgt := 30) C.1.1 C.1.2.1 dX2_hasColumn_13 (by decide) (fun hc => ?_) (fun hc => ?_)
      · replace h := ite_pos' h hc
        exact w_X2_hasColumn_s_30 C hx hw (lv_sub hl [] rfl) h
      · replace h := ite_neg' h hc
        refine lv_iload_n C.1.1 C.1.2.1 dX2_hasColumn_16 rfl (lv_at hl 2 rfl) ?_
        refine lv_aload_n C.1.1 C.1.2.1 dX2_hasColumn_17 rfl (lv_at hl 0 rfl) ?_
        refine r_getR (v := .ref (ad 8)) C hw (kx6 _) fX2_15 rfl (hx6_2 hx) dX2_hasColumn_18 ?_
        refine lv_iload_n C.1.1 C.1.2.1 dX2_hasColumn_21 rfl (lv_at hl 1 rfl) ?_
        obtain ⟨hz, h⟩ := ck_some h
        refine r_iald C hw (kx8 _) (inB_in hz) dX2_hasColumn_22 ?_
        refine lv_icmp_ge (tgt := 30) C.1.1 C.1.2.1 dX2_hasColumn_23 (by decide) (fun hc => ?_) (fun hc => ?_)
        · replace h := ite_pos' h hc
          exact w_X2_hasColumn_s_30 C hx hw (lv_sub hl [] rfl) h
        · replace h := ite_neg' h hc
          refine lv_iconst (v := 1) C.1.1 C.1.2.1 dX2_hasColumn_26 (by decide) ?_
          refine lv_goto (tgt := 31) C.1.1 C.1.2.1 dX2_hasColumn_27 (by decide) ?_
          cases h
          exact r_iret C hw (Or.inr ⟨rfl, Or.inr rfl⟩) dX2_hasColumn_31
set_option maxHeartbeats 4000000 in
set_option maxRecDepth 100000 in
theorem c_X2_hasColumn_s (hx : HX hr ad) {a1 : Int32} {a2 : Int32} {g : GM} {r : Int32} (h : F_X2_hasColumn_s a1 a2 g = some r) (sz : Nat) : Met l yX2_hasColumn (WSX yX2_hasColumn cX2_hasColumn 3 (some .boolean)) (RM 1 0 0) (va_Pc [.ref (ad 6), .int a1, .int a2] (PX D cA ev hr ad (KX ++ tl) g sz)) (QI D cA ev hr ad (AX ad (KX ++ tl).length sz) (KX ++ tl) r g) 0 0 (AX ad (KX ++ tl).length sz) :=
  met_of (own := RX2) pnX2 rfl (Nat.le_of_ble_eq_true rfl) (fun p e s m below meth c ls C hw hsz hl => w_X2_hasColumn_s_0 C hx hw hl h)
set_option maxHeartbeats 4000000 in
set_option maxRecDepth 100000 in
theorem w_X6_slot_0 (C : CX p s m args meth c RX6 yX6_slot cX6_slot 2 (some .int) D cA) (hx : HX hr ad) {H : Heap} {locs : List Loc} {g : GM} (hw : WS D cA ev hr ad A (KX ++ tl) s H locs g) {a0 : Int32} {a1 : Int32} {ls : Array Slot} (hl : lv_has ls 2 [(0, .int a0), (1, .int a1)]) {r : Int32} (h : F_X6_slot a0 a1 = some r) : W p l e (RM 1 0 0) s m args below meth c H locs 0 0 (MQ below (QI D cA ev hr ad A (KX ++ tl) r g) args s 0 0 A) (F0 m 0 ls []) := by
  refine lv_iload_n C.1.1 C.1.2.1 dX6_slot_0 rfl (lv_at hl 0 rfl) ?_
  refine lv_iconst (v := 5) C.1.1 C.1.2.1 dX6_slot_1 (by decide) ?_
  refine lv_imul C.1.1 C.1.2.1 dX6_slot_2 ?_
  refine lv_iload_n C.1.1 C.1.2.1 dX6_slot_3 rfl (lv_at hl 1 rfl) ?_
  refine lv_iadd C.1.1 C.1.2.1 dX6_slot_4 ?_
  cases h
  exact r_iret C hw (Or.inl rfl) dX6_slot_5
set_option maxHeartbeats 4000000 in
set_option maxRecDepth 100000 in
theorem c_X6_slot (hx : HX hr ad) {a0 : Int32} {a1 : Int32} {g : GM} {r : Int32} (h : F_X6_slot a0 a1 = some r) (sz : Nat) : Met l yX6_slot (WSX yX6_slot cX6_slot 2 (some .int)) (RM 1 0 0) (va_Pc [.int a0, .int a1] (PX D cA ev hr ad (KX ++ tl) g sz)) (QI D cA ev hr ad (AX ad (KX ++ tl).length sz) (KX ++ tl) r g) 0 0 (AX ad (KX ++ tl).length sz) :=
  met_of (own := RX6) pnX6 rfl (Nat.le_of_ble_eq_true rfl) (fun p e s m below meth c ls C hw hsz hl => w_X6_slot_0 C hx hw hl h)
set_option maxHeartbeats 4000000 in
set_option maxRecDepth 100000 in
theorem w_X2_isPlainColumn_s_27 {g : GM} {r : Int32} (C : CX p s m args meth c RX2 yX2_isPlainColumn cX2_isPlainColumn 3 (some .boolean) D cA) (hx : HX hr ad) {H : Heap} {locs : List Loc} (hw : WS D cA ev hr ad A (KX ++ tl) s H locs g) {ls : Array Slot} (hl : lv_has ls 3 []) (h : F_X2_isPlainColumn_s_27 g = some r) : W p l e (RM 2 0 0) s m args below meth c H locs 0 0 (MQ below (QI D cA ev hr ad A (KX ++ tl) r g) args s 0 0 A) (F0 m 27 ls []) := by
  refine lv_iconst (v := 0) C.1.1 C.1.2.1 dX2_isPlainColumn_27 (by decide) ?_
  cases h
  exact r_iret C hw (Or.inr ⟨rfl, Or.inl rfl⟩) dX2_isPlainColumn_28
set_option maxHeartbeats 4000000 in
set_option maxRecDepth 100000 in
theorem w_X2_isPlainColumn_s_0 (C : CX p s m args meth c RX2 yX2_isPlainColumn cX2_isPlainColumn 3 (some .boolean) D cA) (hx : HX hr ad) {H : Heap} {locs : List Loc} {g : GM} (hw : WS D cA ev hr ad A (KX ++ tl) s H locs g) {a1 : Int32} {a2 : Int32} {ls : Array Slot} (hl : lv_has ls 3 [(0, .ref (ad 6)), (1, .int a1), (2, .int a2)]) {r : Int32} (h : F_X2_isPlainColumn_s a1 a2 g = some r) : W p l e (RM 2 0 0) s m args below meth c H locs 0 0 (MQ below (QI D cA ev hr ad A (KX ++ tl) r g) args s 0 0 A) (F0 m 0 ls []) := by
  refine lv_aload_n C.1.1 C.1.2.1 dX2_isPlainColumn_0 rfl (lv_at hl 0 rfl) ?_
  refine lv_iload_n C.1.1 C.1.2.1 dX2_isPlainColumn_1 rfl (lv_at hl 1 rfl) ?_
  refine lv_iload_n C.1.1 C.1.2.1 dX2_isPlainColumn_2 rfl (lv_at hl 2 rfl) ?_
  obtain ⟨r_1, hc, h⟩ := bnd_some h
  refine r_vI (dc := 1) (As := [.int a1, .int a2]) (rest := []) C hw vX2_56 (kx6 _) (by decide) rfl (fun sz => c_X2_hasColumn_s hx hc sz) (by decide) rfl rfl hl.1 (Nat.le_of_ble_eq_true rfl) dX2_isPlainColumn_3 ⟨Nat.le_refl _, Nat.le_refl _⟩ (fun H locs hw => ?_)
  refine lv_if_eq (tgt := 27) C.1.1 C.1.2.1 dX2_isPlainColumn_6 (by decide) (fun hc => ?_) (fun hc => ?_)
  · replace h := ite_pos' h hc
    exact w_X2_isPlainColumn_s_27 C hx hw (lv_sub hl [] rfl) h
  · replace h := ite_neg' h hc
    refine lv_aload_n C.1.1 C.1.2.1 dX2_isPlainColumn_9 rfl (lv_at hl 0 rfl) ?_
    refine r_getR (v := .ref (ad 11)) C hw (kx6 _) fX2_25 rfl (hx6_5 hx) dX2_isPlainColumn_10 ?_
    refine lv_iload_n C.1.1 C.1.2.1 dX2_isPlainColumn_13 rfl (lv_at hl 1 rfl) ?_
    refine lv_iload_n C.1.1 C.1.2.1 dX2_isPlainColumn_14 rfl (lv_at hl 2 rfl) ?_
    obtain ⟨r_2, hc, h⟩ := bnd_some h
    refine r_nI (dc := 1) (As := [.int a1, .int a2]) (rest := [.ref (ad 11)]) C hw nX2_60 (fun sz => c_X6_slot hx hc sz) (by decide) rfl rfl hl.1 (Nat.le_of_ble_eq_true rfl) dX2_isPlainColumn_15 ⟨Nat.le_refl _, Nat.le_refl _⟩ (fun H locs hw => ?_)
    obtain ⟨hz, h⟩ := ck_some h
    refine r_iald C hw (kx11 _) (inB_in hz) dX2_isPlainColumn_18 ?_
    refine lv_iconst (v := (-1)) C.1.1 C.1.2.1 dX2_isPlainColumn_19 (by decide) ?_
    refine lv_icmp_ne (tgt := 27) C.1.1 C.1.2.1 dX2_isPlainColumn_20 (by decide) (fun hc => ?_) (fun hc => ?_)
    · replace h := ite_neg' h hc
      exact w_X2_isPlainColumn_s_27 C hx hw (lv_sub hl [] rfl) h
    · replace h := ite_pos' h hc
      refine lv_iconst (v := 1) C.1.1 C.1.2.1 dX2_isPlainColumn_23 (by decide) ?_
      refine lv_goto (tgt := 28) C.1.1 C.1.2.1 dX2_isPlainColumn_24 (by decide) ?_
      cases h
      exact r_iret C hw (Or.inr ⟨rfl, Or.inr rfl⟩) dX2_isPlainColumn_28
set_option maxHeartbeats 4000000 in
set_option maxRecDepth 100000 in
theorem c_X2_isPlainColumn_s (hx : HX hr ad) {a1 : Int32} {a2 : Int32} {g : GM} {r : Int32} (h : F_X2_isPlainColumn_s a1 a2 g = some r) (sz : Nat) : Met l yX2_isPlainColumn (WSX yX2_isPlainColumn cX2_isPlainColumn 3 (some .boolean)) (RM 2 0 0) (va_Pc [.ref (ad 6), .int a1, .int a2] (PX D cA ev hr ad (KX ++ tl) g sz)) (QI D cA ev hr ad (AX ad (KX ++ tl).length sz) (KX ++ tl) r g) 0 0 (AX ad (KX ++ tl).length sz) :=
  met_of (own := RX2) pnX2 rfl (Nat.le_of_ble_eq_true rfl) (fun p e s m below meth c ls C hw hsz hl => w_X2_isPlainColumn_s_0 C hx hw hl h)
set_option maxHeartbeats 4000000 in
set_option maxRecDepth 100000 in
theorem w_X6_hide_0 (C : CX p s m args meth c RX6 yX6_hide cX6_hide 4 (some .boolean) D cA) (hx : HX hr ad) {H : Heap} {locs : List Loc} {g : GM} (hw : WS D cA ev hr ad A (KX ++ tl) s H locs g) {a1 : Int32} {a2 : Int32} {a3 : Int32} {ls : Array Slot} (hl : lv_has ls 4 [(0, .ref (ad 0)), (1, .int a1), (2, .int a2), (3, .int a3)]) {r : Int32} {gz : GM} (h : F_X6_hide a1 a2 a3 g = some (r, gz)) : W p l e (RM 3 0 0) s m args below meth c H locs 0 0 (MQ below (QI D cA ev hr ad A (KX ++ tl) r gz) args s 0 0 A) (F0 m 0 ls []) := by
  refine lv_aload_n C.1.1 C.1.2.1 dX6_hide_0 rfl (lv_at hl 0 rfl) ?_
  refine r_getR (v := .ref (ad 6)) C hw (kx0 _) fX6_26 rfl (hx0_3 hx) dX6_hide_1 ?_
  refine lv_iload_n C.1.1 C.1.2.1 dX6_hide_4 rfl (lv_at hl 1 rfl) ?_
  refine lv_iload_n C.1.1 C.1.2.1 dX6_hide_5 rfl (lv_at hl 2 rfl) ?_
  obtain ⟨r_1, hc, h⟩ := bnd_some h
  refine r_vI (dc := 2) (As := [.int a1, .int a2]) (rest := []) C hw vX6_176 (kx6 _) (by decide) rfl (fun sz => c_X2_isPlainColumn_s hx hc sz) (by decide) rfl rfl hl.1 (Nat.le_of_ble_eq_true rfl) dX6_hide_6 ⟨Nat.le_refl _, Nat.le_refl _⟩ (fun H locs hw => ?_)
  refine lv_if_eq (tgt := 24) C.1.1 C.1.2.1 dX6_hide_9 (by decide) (fun hc => ?_) (fun hc => ?_)
  · replace h := ite_pos' h hc
    refine lv_iconst (v := 0) C.1.1 C.1.2.1 dX6_hide_24 (by decide) ?_
    cases h
    exact r_iret C hw (Or.inr ⟨rfl, Or.inl rfl⟩) dX6_hide_25
  · replace h := ite_neg' h hc
    refine lv_iload_n C.1.1 C.1.2.1 dX6_hide_12 rfl (lv_at hl 3 rfl) ?_
    refine lv_iconst (v := (-1)) C.1.1 C.1.2.1 dX6_hide_13 (by decide) ?_
    refine lv_icmp_lt (tgt := 24) C.1.1 C.1.2.1 dX6_hide_14 (by decide) (fun hc => ?_) (fun hc => ?_)
    · replace h := ite_pos' h hc
      refine lv_iconst (v := 0) C.1.1 C.1.2.1 dX6_hide_24 (by decide) ?_
      cases h
      exact r_iret C hw (Or.inr ⟨rfl, Or.inl rfl⟩) dX6_hide_25
    · replace h := ite_neg' h hc
      refine lv_iload_n C.1.1 C.1.2.1 dX6_hide_17 rfl (lv_at hl 3 rfl) ?_
      refine lv_sipush (v := 9999) C.1.1 C.1.2.1 dX6_hide_18 (by decide) ?_
      refine lv_icmp_le (tgt := 26) C.1.1 C.1.2.1 dX6_hide_21 (by decide) (fun hc => ?_) (fun hc => ?_)
      · replace h := ite_pos' h hc
        refine lv_aload_n C.1.1 C.1.2.1 dX6_hide_26 rfl (lv_at hl 0 rfl) ?_
        refine r_getR (v := .ref (ad 4)) C hw (kx0 _) fX6_16 rfl (hx0_1 hx) dX6_hide_27 ?_
        refine lv_iload_n C.1.1 C.1.2.1 dX6_hide_30 rfl (lv_at hl 1 rfl) ?_
        refine lv_iload_n C.1.1 C.1.2.1 dX6_hide_31 rfl (lv_at hl 2 rfl) ?_
        obtain ⟨r_2, hc, h⟩ := bnd_some h
        refine r_sI (dc := 1) (As := [.int a1, .int a2]) (rest := [.ref (ad 4)]) C hw sX6_179 (fun sz => c_X6_slot hx hc sz) (by decide) rfl rfl hl.1 (Nat.le_of_ble_eq_true rfl) dX6_hide_32 ⟨Nat.le_refl _, Nat.le_refl _⟩ (fun H locs hw => ?_)
        refine lv_iload_n C.1.1 C.1.2.1 dX6_hide_35 rfl (lv_at hl 3 rfl) ?_
        obtain ⟨hz, h⟩ := ck_some h
        refine r_iast C hw (kx4 _) (inB_in hz) dX6_hide_36 (fun H locs hw => ?_)
        refine lt_gen (P := fun g => WS D cA ev hr ad A (KX ++ tl) s H locs g) h hw (fun g_3 h hw => ?_)
        refine lv_iconst (v := 1) C.1.1 C.1.2.1 dX6_hide_37 (by decide) ?_
        cases h
        exact r_iret C hw (Or.inr ⟨rfl, Or.inr rfl⟩) dX6_hide_38
      · replace h := ite_neg' h hc
        refine lv_iconst (v := 0) C.1.1 C.1.2.1 dX6_hide_24 (by decide) ?_
        cases h
        exact r_iret C hw (Or.inr ⟨rfl, Or.inl rfl⟩) dX6_hide_25
set_option maxHeartbeats 4000000 in
set_option maxRecDepth 100000 in
theorem c_X6_hide (hx : HX hr ad) {a1 : Int32} {a2 : Int32} {a3 : Int32} {g : GM} {r : Int32} {gz : GM} (h : F_X6_hide a1 a2 a3 g = some (r, gz)) (sz : Nat) : Met l yX6_hide (WSX yX6_hide cX6_hide 4 (some .boolean)) (RM 3 0 0) (va_Pc [.ref (ad 0), .int a1, .int a2, .int a3] (PX D cA ev hr ad (KX ++ tl) g sz)) (QI D cA ev hr ad (AX ad (KX ++ tl).length sz) (KX ++ tl) r gz) 0 0 (AX ad (KX ++ tl).length sz) :=
  met_of (own := RX6) pnX6 rfl (Nat.le_of_ble_eq_true rfl) (fun p e s m below meth c ls C hw hsz hl => w_X6_hide_0 C hx hw hl h)
set_option maxHeartbeats 4000000 in
set_option maxRecDepth 100000 in
theorem w_X6_turned_0 (C : CX p s m args meth c RX6 yX6_turned cX6_turned 2 (some .int) D cA) (hx : HX hr ad) {H : Heap} {locs : List Loc} {g : GM} (hw : WS D cA ev hr ad A (KX ++ tl) s H locs g) {a0 : Int32} {a1 : Int32} {ls : Array Slot} (hl : lv_has ls 2 [(0, .int a0), (1, .int a1)]) {r : Int32} (h : F_X6_turned a0 a1 = some r) : W p l e (RM 1 0 0) s m args below meth c H locs 0 0 (MQ below (QI D cA ev hr ad A (KX ++ tl) r g) args s 0 0 A) (F0 m 0 ls []) := by
  refine lv_iload_n C.1.1 C.1.2.1 dX6_turned_0 rfl (lv_at hl 0 rfl) ?_
  refine lv_i2l (v := a0.toInt64) C.1.1 C.1.2.1 dX6_turned_1 rfl ?_
  refine lv_iconst (v := 2) C.1.1 C.1.2.1 dX6_turned_2 (by decide) ?_
  refine lv_iload_n C.1.1 C.1.2.1 dX6_turned_3 rfl (lv_at hl 1 rfl) ?_
  refine lv_imul C.1.1 C.1.2.1 dX6_turned_4 ?_
  refine lv_iconst (v := 1) C.1.1 C.1.2.1 dX6_turned_5 (by decide) ?_
  refine lv_iadd C.1.1 C.1.2.1 dX6_turned_6 ?_
  refine lv_i2l (v := ((2 * a1) + 1).toInt64) C.1.1 C.1.2.1 dX6_turned_7 rfl ?_
  refine lv_lmul C.1.1 C.1.2.1 dX6_turned_8 ?_
  refine lv_iload_n C.1.1 C.1.2.1 dX6_turned_9 rfl (lv_at hl 1 rfl) ?_
  refine lv_i2l (v := a1.toInt64) C.1.1 C.1.2.1 dX6_turned_10 rfl ?_
  refine lv_ladd C.1.1 C.1.2.1 dX6_turned_11 ?_
  refine lv_ldc2 (v := 1048576) C.1.1 C.1.2.1 C.1.2.2.2.1 (C.w kc765) dX6_turned_12 ?_
  refine lv_lrem C.1.1 C.1.2.1 dX6_turned_15 (by decide) ?_
  refine lv_l2i (v := (((a0.toInt64 * (((2 * a1) + 1).toInt64)) + a1.toInt64) - ((a0.toInt64 * (((2 * a1) + 1).toInt64)) + a1.toInt64) / 1048576 * 1048576).toInt32) C.1.1 C.1.2.1 dX6_turned_16 rfl ?_
  cases h
  exact r_iret C hw (Or.inl rfl) dX6_turned_17
set_option maxHeartbeats 4000000 in
set_option maxRecDepth 100000 in
theorem c_X6_turned (hx : HX hr ad) {a0 : Int32} {a1 : Int32} {g : GM} {r : Int32} (h : F_X6_turned a0 a1 = some r) (sz : Nat) : Met l yX6_turned (WSX yX6_turned cX6_turned 2 (some .int)) (RM 1 0 0) (va_Pc [.int a0, .int a1] (PX D cA ev hr ad (KX ++ tl) g sz)) (QI D cA ev hr ad (AX ad (KX ++ tl).length sz) (KX ++ tl) r g) 0 0 (AX ad (KX ++ tl).length sz) :=
  met_of (own := RX6) pnX6 rfl (Nat.le_of_ble_eq_true rfl) (fun p e s m below meth c ls C hw hsz hl => w_X6_turned_0 C hx hw hl h)
set_option maxHeartbeats 4000000 in
set_option maxRecDepth 100000 in
theorem w_X6_shown_0 (C : CX p s m args meth c RX6 yX6_shown cX6_shown 5 (some .int) D cA) (hx : HX hr ad) {H : Heap} {locs : List Loc} {g : GM} (hw : WS D cA ev hr ad A (KX ++ tl) s H locs g) {a1 : Int32} {a2 : Int32} {ls : Array Slot} (hl : lv_has ls 5 [(0, .ref (ad 0)), (1, .int a1), (2, .int a2)]) {r : Int32} (h : F_X6_shown a1 a2 g = some r) : W p l e (RM 2 0 0) s m args below meth c H locs 0 0 (MQ below (QI D cA ev hr ad A (KX ++ tl) r g) args s 0 0 A) (F0 m 0 ls []) := by
  refine lv_aload_n C.1.1 C.1.2.1 dX6_shown_0 rfl (lv_at hl 0 rfl) ?_
  refine r_getR (v := .ref (ad 6)) C hw (kx0 _) fX6_26 rfl (hx0_3 hx) dX6_shown_1 ?_
  refine lv_iload_n C.1.1 C.1.2.1 dX6_shown_4 rfl (lv_at hl 1 rfl) ?_
  refine lv_iload_n C.1.1 C.1.2.1 dX6_shown_5 rfl (lv_at hl 2 rfl) ?_
  obtain ⟨r_1, hc, h⟩ := bnd_some h
  refine r_vI (dc := 1) (As := [.int a1, .int a2]) (rest := []) C hw vX6_113 (kx6 _) (by decide) rfl (fun sz => c_X2_cell_s hx hc sz) (by decide) rfl rfl hl.1 (Nat.le_of_ble_eq_true rfl) dX6_shown_6 ⟨Nat.le_refl _, Nat.le_refl _⟩ (fun H locs hw => ?_)
  refine lv_istore_n (lv' := [(3, .int r_1), (0, .ref (ad 0)), (1, .int a1), (2, .int a2)]) C.1.1 C.1.2.1 dX6_shown_9 rfl hl (by decide) rfl (fun ls hl => ?_)
  refine lt_gen (P := fun x => lv_has ls 5 [(3, .int x), (0, .ref (ad 0)), (1, .int a1), (2, .int a2)]) h hl (fun x3_2 h hl => ?_)
  refine lv_iload_n C.1.1 C.1.2.1 dX6_shown_10 rfl (lv_at hl 0 rfl) ?_
  refine lv_iconst (v := (-1)) C.1.1 C.1.2.1 dX6_shown_11 (by decide) ?_
  refine lv_icmp_eq (tgt := 26) C.1.1 C.1.2.1 dX6_shown_12 (by decide) (fun hc => ?_) (fun hc => ?_)
  · replace h := ite_pos' h hc
    refine lv_iconst (v := (-1)) C.1.1 C.1.2.1 dX6_shown_26 (by decide) ?_
    cases h
    exact r_iret C hw (Or.inl rfl) dX6_shown_27
  · replace h := ite_neg' h hc
    refine lv_aload_n C.1.1 C.1.2.1 dX6_shown_15 rfl (lv_at hl 1 rfl) ?_
    refine r_getR (v := .ref (ad 6)) C hw (kx0 _) fX6_26 rfl (hx0_3 hx) dX6_shown_16 ?_
    refine lv_iload_n C.1.1 C.1.2.1 dX6_shown_19 rfl (lv_at hl 2 rfl) ?_
    obtain ⟨r_3, hc, h⟩ := bnd_some h
    refine r_vI (dc := 1) (As := [.int a1]) (rest := []) C hw vX6_99 (kx6 _) (by decide) rfl (fun sz => c_X2_hasRow_s hx hc sz) (by decide) rfl rfl hl.1 (Nat.le_of_ble_eq_true rfl) dX6_shown_20 ⟨Nat.le_refl _, Nat.le_refl _⟩ (fun H locs hw => ?_)
    refine lv_if_ne (tgt := 28) C.1.1 C.1.2.1 dX6_shown_23 (by decide) (fun hc => ?_) (fun hc => ?_)
    · replace h := ite_neg' h hc
      refine lv_aload_n C.1.1 C.1.2.1 dX6_shown_28 rfl (lv_at hl 1 rfl) ?_
      refine r_getR (v := .ref (ad 4)) C hw (kx0 _) fX6_16 rfl (hx0_1 hx) dX6_shown_29 ?_
      refine lv_aload_n C.1.1 C.1.2.1 dX6_shown_32 rfl (lv_at hl 1 rfl) ?_
      refine r_getR (v := .ref (ad 6)) C hw (kx0 _) fX6_26 rfl (hx0_3 hx) dX6_shown_33 ?_
      refine r_getR (v := .ref (ad 12)) C hw (kx6 _) fX6_103 rfl (hx6_7 hx) dX6_shown_36 ?_
      refine lv_iload_n C.1.1 C.1.2.1 dX6_shown_39 rfl (lv_at hl 2 rfl) ?_
      obtain ⟨hz, h⟩ := ck_some h
      refine r_iald C hw (kx12 _) (inB_in hz) dX6_shown_40 ?_
      refine lv_iload_n C.1.1 C.1.2.1 dX6_shown_41 rfl (lv_at hl 3 rfl) ?_
      obtain ⟨r_4, hc, h⟩ := bnd_some h
      refine r_sI (dc := 1) (As := [.int (gi g 12 a1.toNatClampNeg), .int a2]) (rest := [.ref (ad 4)]) C hw sX6_179 (fun sz => c_X6_slot hx hc sz) (by decide) rfl rfl hl.1 (Nat.le_of_ble_eq_true rfl) dX6_shown_42 ⟨Nat.le_refl _, Nat.le_refl _⟩ (fun H locs hw => ?_)
      obtain ⟨hz, h⟩ := ck_some h
      refine r_iald C hw (kx4 _) (inB_in hz) dX6_shown_45 ?_
      refine lv_istore (lv' := [(4, .int (gi g 4 r_4.toNatClampNeg)), (3, .int x3_2), (0, .ref (ad 0)), (1, .int a1), (2, .int a2)]) C.1.1 C.1.2.1 dX6_shown_46 hl (by decide) rfl (fun ls hl => ?_)
      refine lt_gen (P := fun x => lv_has ls 5 [(4, .int x), (3, .int x3_2), (0, .ref (ad 0)), (1, .int a1), (2, .int a2)]) h hl (fun x4_5 h hl => ?_)
      refine lv_iload C.1.1 C.1.2.1 dX6_shown_48 (lv_at hl 0 rfl) ?_
      refine lv_iconst (v := (-1)) C.1.1 C.1.2.1 dX6_shown_50 (by decide) ?_
      refine lv_icmp_ne (tgt := 58) C.1.1 C.1.2.1 dX6_shown_51 (by decide) (fun hc => ?_) (fun hc => ?_)
      · replace h := ite_neg' h hc
        refine lv_iload_n C.1.1 C.1.2.1 dX6_shown_58 rfl (lv_at hl 1 rfl) ?_
        refine lv_iload C.1.1 C.1.2.1 dX6_shown_59 (lv_at hl 0 rfl) ?_
        obtain ⟨r_6, hc, h⟩ := bnd_some h
        refine r_sI (dc := 1) (As := [.int x3_2, .int x4_5]) (rest := []) C hw sX6_182 (fun sz => c_X6_turned hx hc sz) (by decide) rfl rfl hl.1 (Nat.le_of_ble_eq_true rfl) dX6_shown_61 ⟨Nat.le_refl _, Nat.le_refl _⟩ (fun H locs hw => ?_)
        cases h
        exact r_iret C hw (Or.inl rfl) dX6_shown_64
      · replace h := ite_pos' h hc
        refine lv_iload_n C.1.1 C.1.2.1 dX6_shown_54 rfl (lv_at hl 1 rfl) ?_
        refine lv_goto (tgt := 64) C.1.1 C.1.2.1 dX6_shown_55 (by decide) ?_
        cases h
        exact r_iret C hw (Or.inl rfl) dX6_shown_64
    · replace h := ite_pos' h hc
      refine lv_iconst (v := (-1)) C.1.1 C.1.2.1 dX6_shown_26 (by decide) ?_
      cases h
      exact r_iret C hw (Or.inl rfl) dX6_shown_27
set_option maxHeartbeats 4000000 in
set_option maxRecDepth 100000 in
theorem c_X6_shown (hx : HX hr ad) {a1 : Int32} {a2 : Int32} {g : GM} {r : Int32} (h : F_X6_shown a1 a2 g = some r) (sz : Nat) : Met l yX6_shown (WSX yX6_shown cX6_shown 5 (some .int)) (RM 2 0 0) (va_Pc [.ref (ad 0), .int a1, .int a2] (PX D cA ev hr ad (KX ++ tl) g sz)) (QI D cA ev hr ad (AX ad (KX ++ tl).length sz) (KX ++ tl) r g) 0 0 (AX ad (KX ++ tl).length sz) :=
  met_of (own := RX6) pnX6 rfl (Nat.le_of_ble_eq_true rfl) (fun p e s m below meth c ls C hw hsz hl => w_X6_shown_0 C hx hw hl h)
set_option maxHeartbeats 4000000 in
set_option maxRecDepth 100000 in
theorem w_X2_hasTable_s_16 {g : GM} {r : Int32} (C : CX p s m args meth c RX2 yX2_hasTable cX2_hasTable 2 (some .boolean) D cA) (hx : HX hr ad) {H : Heap} {locs : List Loc} (hw : WS D cA ev hr ad A (KX ++ tl) s H locs g) {ls : Array Slot} (hl : lv_has ls 2 []) (h : F_X2_hasTable_s_16 g = some r) : W p l e (RM 1 0 0) s m args below meth c H locs 0 0 (MQ below (QI D cA ev hr ad A (KX ++ tl) r g) args s 0 0 A) (F0 m 16 ls []) := by
  refine lv_iconst (v := 0) C.1.1 C.1.2.1 dX2_hasTable_16 (by decide) ?_
  cases h
  exact r_iret C hw (Or.inr ⟨rfl, Or.inl rfl⟩) dX2_hasTable_17
set_option maxHeartbeats 4000000 in
set_option maxRecDepth 100000 in
theorem w_X2_hasTable_s_0 (C : CX p s m args meth c RX2 yX2_hasTable cX2_hasTable 2 (some .boolean) D cA) (hx : HX hr ad) {H : Heap} {locs : List Loc} {g : GM} (hw : WS D cA ev hr ad A (KX ++ tl) s H locs g) {a1 : Int32} {ls : Array Slot} (hl : lv_has ls 2 [(0, .ref (ad 6)), (1, .int a1)]) {r : Int32} (h : F_X2_hasTable_s a1 g = some r) : W p l e (RM 1 0 0) s m args below meth c H locs 0 0 (MQ below (QI D cA ev hr ad A (KX ++ tl) r g) args s 0 0 A) (F0 m 0 ls []) := by
  refine lv_iload_n C.1.1 C.1.2.1 dX2_hasTable_0 rfl (lv_at hl 1 rfl) ?_
  refine lv_if_lt (tgt := 16) C.1.1 C.1.2.1 dX2_hasTable_1 (by decide) (fun hc => ?_) (fun hc => ?_)
  · replace h := ite_pos' h hc
    exact w_X2_hasTable_s_16 C hx hw (lv_sub hl [] rfl) h
  · replace h := ite_neg' h hc
    refine lv_iload_n C.1.1 C.1.2.1 dX2_hasTable_4 rfl (lv_at hl 1 rfl) ?_
    refine lv_aload_n C.1.1 C.1.2.1 dX2_hasTable_5 rfl (lv_at hl 0 rfl) ?_
    refine r_getI C hw (kx6 _) fX2_43 rfl dX2_hasTable_6 ?_
    refine lv_icmp_ge (tgt := 16) C.1.1 C.1.2.1 dX2_hasTable_9 (by decide) (fun hc => ?_) (fun hc => ?_)
    · replace h := ite_pos' h hc
      exact w_X2_hasTable_s_16 C hx hw (lv_sub hl [] rfl) h
    · replace h := ite_neg' h hc
      refine lv_iconst (v := 1) C.1.1 C.1.2.1 dX2_hasTable_12 (by decide) ?_
      refine lv_goto (tgt := 17) C.1.1 C.1.2.1 dX2_hasTable_13 (by decide) ?_
      cases h
      exact r_iret C hw (Or.inr ⟨rfl, Or.inr rfl⟩) dX2_hasTable_17
set_option maxHeartbeats 4000000 in
set_option maxRecDepth 100000 in
theorem c_X2_hasTable_s (hx : HX hr ad) {a1 : Int32} {g : GM} {r : Int32} (h : F_X2_hasTable_s a1 g = some r) (sz : Nat) : Met l yX2_hasTable (WSX yX2_hasTable cX2_hasTable 2 (some .boolean)) (RM 1 0 0) (va_Pc [.ref (ad 6), .int a1] (PX D cA ev hr ad (KX ++ tl) g sz)) (QI D cA ev hr ad (AX ad (KX ++ tl).length sz) (KX ++ tl) r g) 0 0 (AX ad (KX ++ tl).length sz) :=
  met_of (own := RX2) pnX2 rfl (Nat.le_of_ble_eq_true rfl) (fun p e s m below meth c ls C hw hsz hl => w_X2_hasTable_s_0 C hx hw hl h)
set_option maxHeartbeats 4000000 in
set_option maxRecDepth 100000 in
theorem w_X6_aboutTable_33 {x1 : Int32} {g : GM} {r : Int32} (C : CX p s m args meth c RX6 yX6_aboutTable cX6_aboutTable 2 (some .int) D cA) (hx : HX hr ad) {H : Heap} {locs : List Loc} (hw : WS D cA ev hr ad A (KX ++ tl) s H locs g) {ls : Array Slot} (hl : lv_has ls 2 [(0, .ref (ad 0)), (1, .int x1)]) (h : F_X6_aboutTable_33 x1 g = some r) : W p l e (RM 2 0 0) s m args below meth c H locs 0 0 (MQ below (QI D cA ev hr ad A (KX ++ tl) r g) args s 0 0 A) (F0 m 33 ls []) := by
  refine lv_iload_n C.1.1 C.1.2.1 dX6_aboutTable_33 rfl (lv_at hl 1 rfl) ?_
  refine lv_bipush (v := 20) C.1.1 C.1.2.1 dX6_aboutTable_34 (by decide) ?_
  refine lv_icmp_lt (tgt := 66) C.1.1 C.1.2.1 dX6_aboutTable_36 (by decide) (fun hc => ?_) (fun hc => ?_)
  · replace h := ite_pos' h hc
    refine lv_iconst (v := (-1)) C.1.1 C.1.2.1 dX6_aboutTable_66 (by decide) ?_
    cases h
    exact r_iret C hw (Or.inl rfl) dX6_aboutTable_67
  · replace h := ite_neg' h hc
    refine lv_aload_n C.1.1 C.1.2.1 dX6_aboutTable_39 rfl (lv_at hl 0 rfl) ?_
    refine r_getR (v := .ref (ad 6)) C hw (kx0 _) fX6_26 rfl (hx0_3 hx) dX6_aboutTable_40 ?_
    refine lv_iload_n C.1.1 C.1.2.1 dX6_aboutTable_43 rfl (lv_at hl 1 rfl) ?_
    refine lv_bipush (v := 20) C.1.1 C.1.2.1 dX6_aboutTable_44 (by decide) ?_
    refine lv_isub C.1.1 C.1.2.1 dX6_aboutTable_46 ?_
    obtain ⟨r_1, hc, h⟩ := bnd_some h
    refine r_vI (dc := 1) (As := [.int (x1 - 20)]) (rest := []) C hw vX6_197 (kx6 _) (by decide) rfl (fun sz => c_X2_hasTable_s hx hc sz) (by decide) rfl rfl hl.1 (Nat.le_of_ble_eq_true rfl) dX6_aboutTable_47 ⟨Nat.le_refl _, Nat.le_refl _⟩ (fun H locs hw => ?_)
    refine lv_if_eq (tgt := 66) C.1.1 C.1.2.1 dX6_aboutTable_50 (by decide) (fun hc => ?_) (fun hc => ?_)
    · replace h := ite_pos' h hc
      refine lv_iconst (v := (-1)) C.1.1 C.1.2.1 dX6_aboutTable_66 (by decide) ?_
      cases h
      exact r_iret C hw (Or.inl rfl) dX6_aboutTable_67
    · replace h := ite_neg' h hc
      refine lv_aload_n C.1.1 C.1.2.1 dX6_aboutTable_53 rfl (lv_at hl 0 rfl) ?_
      refine r_getR (v := .ref (ad 6)) C hw (kx0 _) fX6_26 rfl (hx0_3 hx) dX6_aboutTable_54 ?_
      refine r_getR (v := .ref (ad 9)) C hw (kx6 _) fX6_203 rfl (hx6_3 hx) dX6_aboutTable_57 ?_
      refine lv_iload_n C.1.1 C.1.2.1 dX6_aboutTable_60 rfl (lv_at hl 1 rfl) ?_
      refine lv_bipush (v := 20) C.1.1 C.1.2.1 dX6_aboutTable_61 (by decide) ?_
      refine lv_isub C.1.1 C.1.2.1 dX6_aboutTable_63 ?_
      obtain ⟨hz, h⟩ := ck_some h
      refine r_iald C hw (kx9 _) (inB_in hz) dX6_aboutTable_64 ?_
      cases h
      exact r_iret C hw (Or.inl rfl) dX6_aboutTable_65
set_option maxHeartbeats 4000000 in
set_option maxRecDepth 100000 in
theorem w_X6_aboutTable_0 (C : CX p s m args meth c RX6 yX6_aboutTable cX6_aboutTable 2 (some .int) D cA) (hx : HX hr ad) {H : Heap} {locs : List Loc} {g : GM} (hw : WS D cA ev hr ad A (KX ++ tl) s H locs g) {a1 : Int32} {ls : Array Slot} (hl : lv_has ls 2 [(0, .ref (ad 0)), (1, .int a1)]) {r : Int32} (h : F_X6_aboutTable a1 g = some r) : W p l e (RM 2 0 0) s m args below meth c H locs 0 0 (MQ below (QI D cA ev hr ad A (KX ++ tl) r g) args s 0 0 A) (F0 m 0 ls []) := by
  refine lv_iload_n C.1.1 C.1.2.1 dX6_aboutTable_0 rfl (lv_at hl 1 rfl) ?_
  refine lv_bipush (v := 10) C.1.1 C.1.2.1 dX6_aboutTable_1 (by decide) ?_
  refine lv_icmp_lt (tgt := 33) C.1.1 C.1.2.1 dX6_aboutTable_3 (by decide) (fun hc => ?_) (fun hc => ?_)
  · replace h := ite_pos' h hc
    exact w_X6_aboutTable_33 C hx hw hl h
  · replace h := ite_neg' h hc
    refine lv_aload_n C.1.1 C.1.2.1 dX6_aboutTable_6 rfl (lv_at hl 0 rfl) ?_
    refine r_getR (v := .ref (ad 6)) C hw (kx0 _) fX6_26 rfl (hx0_3 hx) dX6_aboutTable_7 ?_
    refine lv_iload_n C.1.1 C.1.2.1 dX6_aboutTable_10 rfl (lv_at hl 1 rfl) ?_
    refine lv_bipush (v := 10) C.1.1 C.1.2.1 dX6_aboutTable_11 (by decide) ?_
    refine lv_isub C.1.1 C.1.2.1 dX6_aboutTable_13 ?_
    obtain ⟨r_2, hc, h⟩ := bnd_some h
    refine r_vI (dc := 1) (As := [.int (a1 - 10)]) (rest := []) C hw vX6_197 (kx6 _) (by decide) rfl (fun sz => c_X2_hasTable_s hx hc sz) (by decide) rfl rfl hl.1 (Nat.le_of_ble_eq_true rfl) dX6_aboutTable_14 ⟨Nat.le_refl _, Nat.le_refl _⟩ (fun H locs hw => ?_)
    refine lv_if_eq (tgt := 33) C.1.1 C.1.2.1 dX6_aboutTable_17 (by decide) (fun hc => ?_) (fun hc => ?_)
    · replace h := ite_pos' h hc
      exact w_X6_aboutTable_33 C hx hw hl h
    · replace h := ite_neg' h hc
      refine lv_aload_n C.1.1 C.1.2.1 dX6_aboutTable_20 rfl (lv_at hl 0 rfl) ?_
      refine r_getR (v := .ref (ad 6)) C hw (kx0 _) fX6_26 rfl (hx0_3 hx) dX6_aboutTable_21 ?_
      refine r_getR (v := .ref (ad 8)) C hw (kx6 _) fX6_200 rfl (hx6_2 hx) dX6_aboutTable_24 ?_
      refine lv_iload_n C.1.1 C.1.2.1 dX6_aboutTable_27 rfl (lv_at hl 1 rfl) ?_
      refine lv_bipush (v := 10) C.1.1 C.1.2.1 dX6_aboutTable_28 (by decide) ?_
      refine lv_isub C.1.1 C.1.2.1 dX6_aboutTable_30 ?_
      obtain ⟨hz, h⟩ := ck_some h
      refine r_iald C hw (kx8 _) (inB_in hz) dX6_aboutTable_31 ?_
      cases h
      exact r_iret C hw (Or.inl rfl) dX6_aboutTable_32
set_option maxHeartbeats 4000000 in
set_option maxRecDepth 100000 in
theorem c_X6_aboutTable (hx : HX hr ad) {a1 : Int32} {g : GM} {r : Int32} (h : F_X6_aboutTable a1 g = some r) (sz : Nat) : Met l yX6_aboutTable (WSX yX6_aboutTable cX6_aboutTable 2 (some .int)) (RM 2 0 0) (va_Pc [.ref (ad 0), .int a1] (PX D cA ev hr ad (KX ++ tl) g sz)) (QI D cA ev hr ad (AX ad (KX ++ tl).length sz) (KX ++ tl) r g) 0 0 (AX ad (KX ++ tl).length sz) :=
  met_of (own := RX6) pnX6 rfl (Nat.le_of_ble_eq_true rfl) (fun p e s m below meth c ls C hw hsz hl => w_X6_aboutTable_0 C hx hw hl h)
set_option maxHeartbeats 4000000 in
set_option maxRecDepth 100000 in
theorem w_X6_about_0 (C : CX p s m args meth c RX6 yX6_about cX6_about 2 (some .int) D cA) (hx : HX hr ad) {H : Heap} {locs : List Loc} {g : GM} (hw : WS D cA ev hr ad A (KX ++ tl) s H locs g) {a1 : Int32} {ls : Array Slot} (hl : lv_has ls 2 [(0, .ref (ad 0)), (1, .int a1)]) {r : Int32} (h : F_X6_about a1 g = some r) : W p l e (RM 3 0 0) s m args below meth c H locs 0 0 (MQ below (QI D cA ev hr ad A (KX ++ tl) r g) args s 0 0 A) (F0 m 0 ls []) := by
  refine lv_iload_n C.1.1 C.1.2.1 dX6_about_0 rfl (lv_at hl 1 rfl) ?_
  by_cases hc0 : a1 = 0
  · replace h := ite_pos' h hc0
    refine lv_tableIn (off := 39) (tgt := 40) C.1.1 C.1.2.1 dX6_about_1 (by rw [hc0]; decide) (by rw [hc0]; decide) (by rw [hc0]; rfl) (by decide) ?_
    refine lv_aload_n C.1.1 C.1.2.1 dX6_about_40 rfl (lv_at hl 0 rfl) ?_
    refine r_getR (v := .ref (ad 6)) C hw (kx0 _) fX6_26 rfl (hx0_3 hx) dX6_about_41 ?_
    refine r_getI C hw (kx6 _) fX6_192 rfl dX6_about_44 ?_
    cases h
    exact r_iret C hw (Or.inl rfl) dX6_about_47
  · replace h := ite_neg' h hc0
    by_cases hc1 : a1 = 1
    · replace h := ite_pos' h hc1
      refine lv_tableIn (off := 47) (tgt := 48) C.1.1 C.1.2.1 dX6_about_1 (by rw [hc1]; decide) (by rw [hc1]; decide) (by rw [hc1]; rfl) (by decide) ?_
      refine lv_aload_n C.1.1 C.1.2.1 dX6_about_48 rfl (lv_at hl 0 rfl) ?_
      refine r_getR (v := .ref (ad 6)) C hw (kx0 _) fX6_26 rfl (hx0_3 hx) dX6_about_49 ?_
      refine r_getI C hw (kx6 _) fX6_78 rfl dX6_about_52 ?_
      cases h
      exact r_iret C hw (Or.inl rfl) dX6_about_55
    · replace h := ite_neg' h hc1
      by_cases hc2 : a1 = 2
      · replace h := ite_pos' h hc2
        refine lv_tableIn (off := 55) (tgt := 56) C.1.1 C.1.2.1 dX6_about_1 (by rw [hc2]; decide) (by rw [hc2]; decide) (by rw [hc2]; rfl) (by decide) ?_
        refine lv_aload_n C.1.1 C.1.2.1 dX6_about_56 rfl (lv_at hl 0 rfl) ?_
        refine r_getR (v := .ref (ad 28)) C hw (kx0 _) fX6_36 rfl (hx0_5 hx) dX6_about_57 ?_
        refine r_getI C hw (kx28 _) fX6_90 rfl dX6_about_60 ?_
        cases h
        exact r_iret C hw (Or.inl rfl) dX6_about_63
      · replace h := ite_neg' h hc2
        by_cases hc3 : a1 = 3
        · replace h := ite_pos' h hc3
          refine lv_tableIn (off := 63) (tgt := 64) C.1.1 C.1.2.1 dX6_about_1 (by rw [hc3]; decide) (by rw [hc3]; decide) (by rw [hc3]; rfl) (by decide) ?_
          refine lv_aload_n C.1.1 C.1.2.1 dX6_about_64 rfl (lv_at hl 0 rfl) ?_
          refine r_getI C hw (kx0 _) fX6_69 rfl dX6_about_65 ?_
          obtain ⟨r_2, hc, h⟩ := bnd_some h
          refine r_sI (dc := 1) (As := [.int (gi g 0 7)]) (rest := []) C hw sX6_170 (fun sz => c_J6_bitCount_0f7a4 trivial hc sz) (by decide) rfl rfl hl.1 (Nat.le_of_ble_eq_true rfl) dX6_about_68 ⟨Nat.le_refl _, Nat.le_refl _⟩ (fun H locs hw => ?_)
          cases h
          exact r_iret C hw (Or.inl rfl) dX6_about_71
        · replace h := ite_neg' h hc3
          by_cases hc4 : a1 = 4
          · replace h := ite_pos' h hc4
            refine lv_tableIn (off := 71) (tgt := 72) C.1.1 C.1.2.1 dX6_about_1 (by rw [hc4]; decide) (by rw [hc4]; decide) (by rw [hc4]; rfl) (by decide) ?_
            refine lv_aload_n C.1.1 C.1.2.1 dX6_about_72 rfl (lv_at hl 0 rfl) ?_
            refine r_getI C hw (kx0 _) fX6_72 rfl dX6_about_73 ?_
            cases h
            exact r_iret C hw (Or.inl rfl) dX6_about_76
          · replace h := ite_neg' h hc4
            by_cases hc5 : a1 = 5
            · replace h := ite_pos' h hc5
              refine lv_tableIn (off := 76) (tgt := 77) C.1.1 C.1.2.1 dX6_about_1 (by rw [hc5]; decide) (by rw [hc5]; decide) (by rw [hc5]; rfl) (by decide) ?_
              refine lv_aload_n C.1.1 C.1.2.1 dX6_about_77 rfl (lv_at hl 0 rfl) ?_
              refine r_getR (v := .ref (ad 1)) C hw (kx0 _) fX6_10 rfl (hx0_0 hx) dX6_about_78 ?_
              refine r_getI C hw (kx1 _) fX6_49 rfl dX6_about_81 ?_
              cases h
              exact r_iret C hw (Or.inl rfl) dX6_about_84
            · replace h := ite_neg' h hc5
              refine lv_tableOut (tgt := 85) C.1.1 C.1.2.1 dX6_about_1 (by have q0 := lv_neT (k := 0) (a := 0) hc0 (by decide); have q1 := lv_neT (k := 1) (a := 1) hc1 (by decide); have q2 := lv_neT (k := 2) (a := 2) hc2 (by decide); have q3 := lv_neT (k := 3) (a := 3) hc3 (by decide); have q4 := lv_neT (k := 4) (a := 4) hc4 (by decide); have q5 := lv_neT (k := 5) (a := 5) hc5 (by decide); omega) (by decide) ?_
              refine lv_aload_n C.1.1 C.1.2.1 dX6_about_85 rfl (lv_at hl 0 rfl) ?_
              refine lv_iload_n C.1.1 C.1.2.1 dX6_about_86 rfl (lv_at hl 1 rfl) ?_
              obtain ⟨r_1, hc, h⟩ := bnd_some h
              refine r_vI (dc := 2) (As := [.int a1]) (rest := []) C hw vX6_194 (kx0 _) (by decide) rfl (fun sz => c_X6_aboutTable hx hc sz) (by decide) rfl rfl hl.1 (Nat.le_of_ble_eq_true rfl) dX6_about_87 ⟨Nat.le_refl _, Nat.le_refl _⟩ (fun H locs hw => ?_)
              cases h
              exact r_iret C hw (Or.inl rfl) dX6_about_90
set_option maxHeartbeats 4000000 in
set_option maxRecDepth 100000 in
theorem c_X6_about (hx : HX hr ad) {a1 : Int32} {g : GM} {r : Int32} (h : F_X6_about a1 g = some r) (sz : Nat) : Met l yX6_about (WSX yX6_about cX6_about 2 (some .int)) (RM 3 0 0) (va_Pc [.ref (ad 0), .int a1] (PX D cA ev hr ad (KX ++ tl) g sz)) (QI D cA ev hr ad (AX ad (KX ++ tl).length sz) (KX ++ tl) r g) 0 0 (AX ad (KX ++ tl).length sz) :=
  met_of (own := RX6) pnX6 rfl (Nat.le_of_ble_eq_true rfl) (fun p e s m below meth c ls C hw hsz hl => w_X6_about_0 C hx hw hl h)
set_option maxHeartbeats 4000000 in
set_option maxRecDepth 100000 in
theorem w_X6_commonDivisor_7 {g : GM} {r : Int32} (kb7 : Int32 × Int32 × Int32 → Option (Int32)) (hk7 : ∀ (x2 : Int32) (x3 : Int32) (x4 : Int32) (H : Heap) (locs : List Loc) (ls : Array Slot), WS D cA ev hr ad A (KX ++ tl) s H locs g → lv_has ls 6 [(2, .int x2), (3, .int x3), (4, .int x4)] → kb7 (x2, x3, x4) = some r → W p l e (RM 1 0 0) s m args below meth c H locs 0 0 (MQ below (QI D cA ev hr ad A (KX ++ tl) r g) args s 0 0 A) (F0 m 7 ls [])) (C : CX p s m args meth c RX6 yX6_commonDivisor cX6_commonDivisor 6 (some .int) D cA) (hx : HX hr ad) {H : Heap} {locs : List Loc} {x2 : Int32} {x3 : Int32} {x4 : Int32} (hw : WS D cA ev hr ad A (KX ++ tl) s H locs g) {ls : Array Slot} (hl : lv_has ls 6 [(2, .int x2), (3, .int x3), (4, .int x4)]) (h : F_X6_commonDivisor_7B kb7 (x2, x3, x4) = some r) : W p l e (RM 1 0 0) s m args below meth c H locs 0 0 (MQ below (QI D cA ev hr ad A (KX ++ tl) r g) args s 0 0 A) (F0 m 7 ls []) := by
  refine lv_iload C.1.1 C.1.2.1 dX6_commonDivisor_7 (lv_at hl 2 rfl) ?_
  refine lv_bipush (v := 64) C.1.1 C.1.2.1 dX6_commonDivisor_9 (by decide) ?_
  refine lv_icmp_ge (tgt := 34) C.1.1 C.1.2.1 dX6_commonDivisor_11 (by decide) (fun hc => ?_) (fun hc => ?_)
  · replace h := ite_pos' h hc
    refine lv_iload_n C.1.1 C.1.2.1 dX6_commonDivisor_34 rfl (lv_at hl 0 rfl) ?_
    cases h
    exact r_iret C hw (Or.inl rfl) dX6_commonDivisor_35
  · replace h := ite_neg' h hc
    refine lv_iload_n C.1.1 C.1.2.1 dX6_commonDivisor_14 rfl (lv_at hl 1 rfl) ?_
    refine lv_if_eq (tgt := 34) C.1.1 C.1.2.1 dX6_commonDivisor_15 (by decide) (fun hc => ?_) (fun hc => ?_)
    · replace h := ite_pos' h hc
      refine lv_iload_n C.1.1 C.1.2.1 dX6_commonDivisor_34 rfl (lv_at hl 0 rfl) ?_
      cases h
      exact r_iret C hw (Or.inl rfl) dX6_commonDivisor_35
    · replace h := ite_neg' h hc
      refine lv_iload_n C.1.1 C.1.2.1 dX6_commonDivisor_18 rfl (lv_at hl 0 rfl) ?_
      refine lv_iload_n C.1.1 C.1.2.1 dX6_commonDivisor_19 rfl (lv_at hl 1 rfl) ?_
      obtain ⟨hz, h⟩ := ck_some h
      refine lv_irem C.1.1 C.1.2.1 dX6_commonDivisor_20 (nz_of hz) ?_
      refine lv_istore (lv' := [(5, .int (x2 - x2 / x3 * x3)), (2, .int x2), (3, .int x3), (4, .int x4)]) C.1.1 C.1.2.1 dX6_commonDivisor_21 hl (by decide) rfl (fun ls hl => ?_)
      refine lt_gen (P := fun x => lv_has ls 6 [(5, .int x), (2, .int x2), (3, .int x3), (4, .int x4)]) h hl (fun x5_1 h hl => ?_)
      refine lv_iload_n C.1.1 C.1.2.1 dX6_commonDivisor_23 rfl (lv_at hl 2 rfl) ?_
      refine lv_istore_n (lv' := [(2, .int x3), (5, .int x5_1), (3, .int x3), (4, .int x4)]) C.1.1 C.1.2.1 dX6_commonDivisor_24 rfl hl (by decide) rfl (fun ls hl => ?_)
      refine lv_iload C.1.1 C.1.2.1 dX6_commonDivisor_25 (lv_at hl 1 rfl) ?_
      refine lv_istore_n (lv' := [(3, .int x5_1), (2, .int x3), (5, .int x5_1), (4, .int x4)]) C.1.1 C.1.2.1 dX6_commonDivisor_27 rfl hl (by decide) rfl (fun ls hl => ?_)
      refine lv_iinc (v := x4 + 1) (lv' := [(4, .int (x4 + 1)), (3, .int x5_1), (2, .int x3), (5, .int x5_1)]) C.1.1 C.1.2.1 dX6_commonDivisor_28 hl (k := 3) rfl rfl (by decide) rfl (fun ls hl => ?_)
      refine lt_gen (P := fun x => lv_has ls 6 [(4, .int x), (3, .int x5_1), (2, .int x3), (5, .int x5_1)]) h hl (fun x4_2 h hl => ?_)
      refine lv_goto (tgt := 7) C.1.1 C.1.2.1 dX6_commonDivisor_31 (by decide) ?_
      exact hk7 _ _ _ _ _ _ hw (lv_sub hl [2, 1, 0] rfl) h
set_option maxHeartbeats 4000000 in
set_option maxRecDepth 100000 in
theorem w_X6_commonDivisor_7L {g : GM} {r : Int32} (C : CX p s m args meth c RX6 yX6_commonDivisor cX6_commonDivisor 6 (some .int) D cA) (hx : HX hr ad) : ∀ (n : Nat) (x2 : Int32) (x3 : Int32) (x4 : Int32) (H : Heap) (locs : List Loc) (ls : Array Slot), WS D cA ev hr ad A (KX ++ tl) s H locs g → lv_has ls 6 [(2, .int x2), (3, .int x3), (4, .int x4)] → fixN (F_X6_commonDivisor_7B) n (x2, x3, x4) = some r → W p l e (RM 1 0 0) s m args below meth c H locs 0 0 (MQ below (QI D cA ev hr ad A (KX ++ tl) r g) args s 0 0 A) (F0 m 7 ls []) := by
  intro n
  induction n with
  | zero => intro x2 x3 x4 H locs ls hw hl h; exact (fix_zero h).elim
  | succ n ih => intro x2 x3 x4 H locs ls hw hl h; exact w_X6_commonDivisor_7 (fixN (F_X6_commonDivisor_7B) n) ih C hx hw hl h
set_option maxHeartbeats 4000000 in
set_option maxRecDepth 100000 in
theorem w_X6_commonDivisor_0 (C : CX p s m args meth c RX6 yX6_commonDivisor cX6_commonDivisor 6 (some .int) D cA) (hx : HX hr ad) {H : Heap} {locs : List Loc} {g : GM} (hw : WS D cA ev hr ad A (KX ++ tl) s H locs g) {a0 : Int32} {a1 : Int32} {ls : Array Slot} (hl : lv_has ls 6 [(0, .int a0), (1, .int a1)]) {r : Int32} (h : F_X6_commonDivisor a0 a1 = some r) : W p l e (RM 1 0 0) s m args below meth c H locs 0 0 (MQ below (QI D cA ev hr ad A (KX ++ tl) r g) args s 0 0 A) (F0 m 0 ls []) := by
  refine lv_iload_n C.1.1 C.1.2.1 dX6_commonDivisor_0 rfl (lv_at hl 0 rfl) ?_
  refine lv_istore_n (lv' := [(2, .int a0), (0, .int a0), (1, .int a1)]) C.1.1 C.1.2.1 dX6_commonDivisor_1 rfl hl (by decide) rfl (fun ls hl => ?_)
  refine lv_iload_n C.1.1 C.1.2.1 dX6_commonDivisor_2 rfl (lv_at hl 2 rfl) ?_
  refine lv_istore_n (lv' := [(3, .int a1), (2, .int a0), (0, .int a0), (1, .int a1)]) C.1.1 C.1.2.1 dX6_commonDivisor_3 rfl hl (by decide) rfl (fun ls hl => ?_)
  refine lv_iconst (v := 0) C.1.1 C.1.2.1 dX6_commonDivisor_4 (by decide) ?_
  refine lv_istore (lv' := [(4, .int 0), (3, .int a1), (2, .int a0), (0, .int a0), (1, .int a1)]) C.1.1 C.1.2.1 dX6_commonDivisor_5 hl (by decide) rfl (fun ls hl => ?_)
  exact w_X6_commonDivisor_7L C hx FU _ _ _ _ _ _ hw (lv_sub hl [2, 1, 0] rfl) h
set_option maxHeartbeats 4000000 in
set_option maxRecDepth 100000 in
theorem c_X6_commonDivisor (hx : HX hr ad) {a0 : Int32} {a1 : Int32} {g : GM} {r : Int32} (h : F_X6_commonDivisor a0 a1 = some r) (sz : Nat) : Met l yX6_commonDivisor (WSX yX6_commonDivisor cX6_commonDivisor 6 (some .int)) (RM 1 0 0) (va_Pc [.int a0, .int a1] (PX D cA ev hr ad (KX ++ tl) g sz)) (QI D cA ev hr ad (AX ad (KX ++ tl).length sz) (KX ++ tl) r g) 0 0 (AX ad (KX ++ tl).length sz) :=
  met_of (own := RX6) pnX6 rfl (Nat.le_of_ble_eq_true rfl) (fun p e s m below meth c ls C hw hsz hl => w_X6_commonDivisor_0 C hx hw hl h)
set_option maxHeartbeats 4000000 in
set_option maxRecDepth 100000 in
theorem w_J7_fill_53178_25_5 {x1 : Int32} {x3 : Int32} {gz : GM} (kb5 : Int32 × GM → Option (GM)) (hk5 : ∀ (x2 : Int32) (g : GM) (H : Heap) (locs : List Loc) (ls : Array Slot), WS D cA ev hr ad A (KX ++ tl) s H locs g → lv_has ls 4 [(0, .ref (ad 25)), (1, .int x1), (2, .int x2), (3, .int x3)] → kb5 (x2, g) = some gz → W p l e (RM 1 0 0) s m args below meth c H locs 0 0 (MQ below (QV D cA ev hr ad A (KX ++ tl) gz) args s 0 0 A) (F0 m 5 ls [])) (C : CX p s m args meth c RJ7 yJ7_fill_53178 cJ7_fill_53178 4 none D cA) (hx : HX hr ad) {H : Heap} {locs : List Loc} {x2 : Int32} {g : GM} (hw : WS D cA ev hr ad A (KX ++ tl) s H locs g) {ls : Array Slot} (hl : lv_has ls 4 [(0, .ref (ad 25)), (1, .int x1), (2, .int x2), (3, .int x3)]) (h : F_J7_fill_53178_25_5B x1 x3 kb5 (x2, g) = some gz) : W p l e (RM 1 0 0) s m args below meth c H locs 0 0 (MQ below (QV D cA ev hr ad A (KX ++ tl) gz) args s 0 0 A) (F0 m 5 ls []) := by
  refine lv_iload_n C.1.1 C.1.2.1 dJ7_fill_53178_5 rfl (lv_at hl 2 rfl) ?_
  refine lv_iload_n C.1.1 C.1.2.1 dJ7_fill_53178_6 rfl (lv_at hl 3 rfl) ?_
  refine lv_icmp_ge (tgt := 20) C.1.1 C.1.2.1 dJ7_fill_53178_7 (by decide) (fun hc => ?_) (fun hc => ?_)
  · replace h := ite_pos' h hc
    cases h
    exact r_vret C hw rfl dJ7_fill_53178_20
  · replace h := ite_neg' h hc
    refine lv_aload_n C.1.1 C.1.2.1 dJ7_fill_53178_10 rfl (lv_at hl 0 rfl) ?_
    refine lv_iload_n C.1.1 C.1.2.1 dJ7_fill_53178_11 rfl (lv_at hl 2 rfl) ?_
    refine lv_iload_n C.1.1 C.1.2.1 dJ7_fill_53178_12 rfl (lv_at hl 1 rfl) ?_
    obtain ⟨hz, h⟩ := ck_some h
    refine r_iast C hw (kx25 _) (inB_in hz) dJ7_fill_53178_13 (fun H locs hw => ?_)
    refine lt_gen (P := fun g => WS D cA ev hr ad A (KX ++ tl) s H locs g) h hw (fun g_1 h hw => ?_)
    refine lv_iinc (v := x2 + 1) (lv' := [(2, .int (x2 + 1)), (0, .ref (ad 25)), (1, .int x1), (3, .int x3)]) C.1.1 C.1.2.1 dJ7_fill_53178_14 hl (k := 2) rfl rfl (by decide) rfl (fun ls hl => ?_)
    refine lt_gen (P := fun x => lv_has ls 4 [(2, .int x), (0, .ref (ad 25)), (1, .int x1), (3, .int x3)]) h hl (fun x2_2 h hl => ?_)
    refine lv_goto (tgt := 5) C.1.1 C.1.2.1 dJ7_fill_53178_17 (by decide) ?_
    exact hk5 _ _ _ _ _ hw (lv_sub hl [1, 2, 0, 3] rfl) h
set_option maxHeartbeats 4000000 in
set_option maxRecDepth 100000 in
theorem w_J7_fill_53178_25_5L {x1 : Int32} {x3 : Int32} {gz : GM} (C : CX p s m args meth c RJ7 yJ7_fill_53178 cJ7_fill_53178 4 none D cA) (hx : HX hr ad) : ∀ (n : Nat) (x2 : Int32) (g : GM) (H : Heap) (locs : List Loc) (ls : Array Slot), WS D cA ev hr ad A (KX ++ tl) s H locs g → lv_has ls 4 [(0, .ref (ad 25)), (1, .int x1), (2, .int x2), (3, .int x3)] → fixN (F_J7_fill_53178_25_5B x1 x3) n (x2, g) = some gz → W p l e (RM 1 0 0) s m args below meth c H locs 0 0 (MQ below (QV D cA ev hr ad A (KX ++ tl) gz) args s 0 0 A) (F0 m 5 ls []) := by
  intro n
  induction n with
  | zero => intro x2 g H locs ls hw hl h; exact (fix_zero h).elim
  | succ n ih => intro x2 g H locs ls hw hl h; exact w_J7_fill_53178_25_5 (fixN (F_J7_fill_53178_25_5B x1 x3) n) ih C hx hw hl h
set_option maxHeartbeats 4000000 in
set_option maxRecDepth 100000 in
theorem w_J7_fill_53178_25_0 (C : CX p s m args meth c RJ7 yJ7_fill_53178 cJ7_fill_53178 4 none D cA) (hx : HX hr ad) {H : Heap} {locs : List Loc} {g : GM} (hw : WS D cA ev hr ad A (KX ++ tl) s H locs g) {a1 : Int32} {ls : Array Slot} (hl : lv_has ls 4 [(0, .ref (ad 25)), (1, .int a1)]) {gz : GM} (h : F_J7_fill_53178_25 a1 g = some gz) : W p l e (RM 1 0 0) s m args below meth c H locs 0 0 (MQ below (QV D cA ev hr ad A (KX ++ tl) gz) args s 0 0 A) (F0 m 0 ls []) := by
  refine lv_iconst (v := 0) C.1.1 C.1.2.1 dJ7_fill_53178_0 (by decide) ?_
  refine lv_istore_n (lv' := [(2, .int 0), (0, .ref (ad 25)), (1, .int a1)]) C.1.1 C.1.2.1 dJ7_fill_53178_1 rfl hl (by decide) rfl (fun ls hl => ?_)
  refine lv_aload_n C.1.1 C.1.2.1 dJ7_fill_53178_2 rfl (lv_at hl 1 rfl) ?_
  refine r_alen (ty := .int) (v := 80) C hw (kx25 _) (by decide) (by decide) dJ7_fill_53178_3 ?_
  refine lv_istore_n (lv' := [(3, .int 80), (2, .int 0), (0, .ref (ad 25)), (1, .int a1)]) C.1.1 C.1.2.1 dJ7_fill_53178_4 rfl hl (by decide) rfl (fun ls hl => ?_)
  exact w_J7_fill_53178_25_5L C hx FU _ _ _ _ _ hw (lv_sub hl [2, 3, 1, 0] rfl) h
set_option maxHeartbeats 4000000 in
set_option maxRecDepth 100000 in
theorem c_J7_fill_53178_25 (hx : HX hr ad) {a1 : Int32} {g : GM} {gz : GM} (h : F_J7_fill_53178_25 a1 g = some gz) (sz : Nat) : Met l yJ7_fill_53178 (WSX yJ7_fill_53178 cJ7_fill_53178 4 none) (RM 1 0 0) (va_Pc [.ref (ad 25), .int a1] (PX D cA ev hr ad (KX ++ tl) g sz)) (QV D cA ev hr ad (AX ad (KX ++ tl).length sz) (KX ++ tl) gz) 0 0 (AX ad (KX ++ tl).length sz) :=
  met_ofF (own := RJ7) (by decide +kernel) rfl (Nat.le_of_ble_eq_true rfl) (fun p e s m below meth c ls C hw hsz hl => w_J7_fill_53178_25_0 C hx hw hl h)
set_option maxHeartbeats 4000000 in
set_option maxRecDepth 100000 in
theorem w_X2_clear_p_0 (C : CX p s m args meth c RX2 yX2_clear cX2_clear 1 none D cA) (hx : HX hr ad) {H : Heap} {locs : List Loc} {g : GM} (hw : WS D cA ev hr ad A (KX ++ tl) s H locs g) {ls : Array Slot} (hl : lv_has ls 1 [(0, .ref (ad 17))]) {gz : GM} (h : F_X2_clear_p g = some gz) : W p l e (RM 2 0 0) s m args below meth c H locs 0 0 (MQ below (QV D cA ev hr ad A (KX ++ tl) gz) args s 0 0 A) (F0 m 0 ls []) := by
  refine lv_aload_n C.1.1 C.1.2.1 dX2_clear_0 rfl (lv_at hl 0 rfl) ?_
  refine lv_iconst (v := 0) C.1.1 C.1.2.1 dX2_clear_1 (by decide) ?_
  refine r_putI C hw (kx17 _) fX2_43 rfl rfl (Or.inl rfl) dX2_clear_2 (fun H locs hw => ?_)
  refine lt_gen (P := fun g => WS D cA ev hr ad A (KX ++ tl) s H locs g) h hw (fun g_1 h hw => ?_)
  refine lv_aload_n C.1.1 C.1.2.1 dX2_clear_5 rfl (lv_at hl 0 rfl) ?_
  refine lv_iconst (v := 0) C.1.1 C.1.2.1 dX2_clear_6 (by decide) ?_
  refine r_putI C hw (kx17 _) fX2_47 rfl rfl (Or.inl rfl) dX2_clear_7 (fun H locs hw => ?_)
  refine lt_gen (P := fun g => WS D cA ev hr ad A (KX ++ tl) s H locs g) h hw (fun g_2 h hw => ?_)
  refine lv_aload_n C.1.1 C.1.2.1 dX2_clear_10 rfl (lv_at hl 0 rfl) ?_
  refine r_getR (v := .ref (ad 25)) C hw (kx17 _) fX2_34 rfl (hx17_9 hx) dX2_clear_11 ?_
  refine lv_iconst (v := (-1)) C.1.1 C.1.2.1 dX2_clear_14 (by decide) ?_
  obtain ⟨g_3, hc, h⟩ := bnd_some h
  refine r_sV (dc := 1) (As := [.ref (ad 25), .int ((-1))]) (rest := []) C hw sX2_50 (fun sz => c_J7_fill_53178_25 hx hc sz) (by decide) rfl rfl hl.1 (Nat.le_of_ble_eq_true rfl) dX2_clear_15 ⟨Nat.le_refl _, Nat.le_refl _⟩ (fun H locs hw => ?_)
  cases h
  exact r_vret C hw rfl dX2_clear_18
set_option maxHeartbeats 4000000 in
set_option maxRecDepth 100000 in
theorem c_X2_clear_p (hx : HX hr ad) {g : GM} {gz : GM} (h : F_X2_clear_p g = some gz) (sz : Nat) : Met l yX2_clear (WSX yX2_clear cX2_clear 1 none) (RM 2 0 0) (va_Pc [.ref (ad 17)] (PX D cA ev hr ad (KX ++ tl) g sz)) (QV D cA ev hr ad (AX ad (KX ++ tl).length sz) (KX ++ tl) gz) 0 0 (AX ad (KX ++ tl).length sz) :=
  met_of (own := RX2) pnX2 rfl (Nat.le_of_ble_eq_true rfl) (fun p e s m below meth c ls C hw hsz hl => w_X2_clear_p_0 C hx hw hl h)
set_option maxHeartbeats 4000000 in
set_option maxRecDepth 100000 in
theorem w_X4_readWord_148 {x1 : Int32} {g : GM} {gz : GM} (kb110 : Int32 × GM → Option (GM)) (hk110 : ∀ (x1 : Int32) (g : GM) (H : Heap) (locs : List Loc) (ls : Array Slot), WS D cA ev hr ad A (KX ++ tl) s H locs g → lv_has ls 2 [(0, .ref (ad 1)), (1, .int x1)] → kb110 (x1, g) = some gz → W p l e (RM 1 0 0) s m args below meth c H locs 0 0 (MQ below (QV D cA ev hr ad A (KX ++ tl) gz) args s 0 0 A) (F0 m 110 ls [])) (C : CX p s m args meth c RX4 yX4_readWord cX4_readWord 2 none D cA) (hx : HX hr ad) {H : Heap} {locs : List Loc} (hw : WS D cA ev hr ad A (KX ++ tl) s H locs g) {ls : Array Slot} (hl : lv_has ls 2 [(0, .ref (ad 1)), (1, .int x1)]) (h : F_X4_readWord_148 kb110 x1 g = some gz) : W p l e (RM 1 0 0) s m args below meth c H locs 0 0 (MQ below (QV D cA ev hr ad A (KX ++ tl) gz) args s 0 0 A) (F0 m 148 ls []) := by
  refine lv_iinc (v := x1 + 1) (lv' := [(1, .int (x1 + 1)), (0, .ref (ad 1))]) C.1.1 C.1.2.1 dX4_readWord_148 hl (k := 1) rfl rfl (by decide) rfl (fun ls hl => ?_)
  refine lt_gen (P := fun x => lv_has ls 2 [(1, .int x), (0, .ref (ad 1))]) h hl (fun x1_1 h hl => ?_)
  refine lv_goto (tgt := 110) C.1.1 C.1.2.1 dX4_readWord_151 (by decide) ?_
  exact hk110 _ _ _ _ _ hw (lv_sub hl [1, 0] rfl) h
set_option maxHeartbeats 4000000 in
set_option maxRecDepth 100000 in
theorem w_X4_readWord_110 {gz : GM} (kb110 : Int32 × GM → Option (GM)) (hk110 : ∀ (x1 : Int32) (g : GM) (H : Heap) (locs : List Loc) (ls : Array Slot), WS D cA ev hr ad A (KX ++ tl) s H locs g → lv_has ls 2 [(0, .ref (ad 1)), (1, .int x1)] → kb110 (x1, g) = some gz → W p l e (RM 1 0 0) s m args below meth c H locs 0 0 (MQ below (QV D cA ev hr ad A (KX ++ tl) gz) args s 0 0 A) (F0 m 110 ls [])) (C : CX p s m args meth c RX4 yX4_readWord cX4_readWord 2 none D cA) (hx : HX hr ad) {H : Heap} {locs : List Loc} {x1 : Int32} {g : GM} (hw : WS D cA ev hr ad A (KX ++ tl) s H locs g) {ls : Array Slot} (hl : lv_has ls 2 [(0, .ref (ad 1)), (1, .int x1)]) (h : F_X4_readWord_110B kb110 (x1, g) = some gz) : W p l e (RM 1 0 0) s m args below meth c H locs 0 0 (MQ below (QV D cA ev hr ad A (KX ++ tl) gz) args s 0 0 A) (F0 m 110 ls []) := by
  refine lv_iload_n C.1.1 C.1.2.1 dX4_readWord_110 rfl (lv_at hl 1 rfl) ?_
  refine lv_aload_n C.1.1 C.1.2.1 dX4_readWord_111 rfl (lv_at hl 0 rfl) ?_
  refine r_getR (v := .ref (ad 3)) C hw (kx1 _) fX4_15 rfl (hx1_1 hx) dX4_readWord_112 ?_
  refine r_alen (ty := .int) (v := 11) C hw (kx3 _) (by decide) (by decide) dX4_readWord_115 ?_
  refine lv_icmp_ge (tgt := 154) C.1.1 C.1.2.1 dX4_readWord_116 (by decide) (fun hc => ?_) (fun hc => ?_)
  · replace h := ite_pos' h hc
    cases h
    exact r_vret C hw rfl dX4_readWord_154
  · replace h := ite_neg' h hc
    refine lv_aload_n C.1.1 C.1.2.1 dX4_readWord_119 rfl (lv_at hl 0 rfl) ?_
    refine r_getI C hw (kx1 _) fX4_59 rfl dX4_readWord_120 ?_
    refine lv_iconst (v := 2) C.1.1 C.1.2.1 dX4_readWord_123 (by decide) ?_
    refine lv_icmp_ne (tgt := 148) C.1.1 C.1.2.1 dX4_readWord_124 (by decide) (fun hc => ?_) (fun hc => ?_)
    · replace h := ite_neg' h hc
      exact w_X4_readWord_148 kb110 hk110 C hx hw hl h
    · replace h := ite_pos' h hc
      refine lv_aload_n C.1.1 C.1.2.1 dX4_readWord_127 rfl (lv_at hl 0 rfl) ?_
      refine r_getR (v := .ref (ad 3)) C hw (kx1 _) fX4_15 rfl (hx1_1 hx) dX4_readWord_128 ?_
      refine lv_iload_n C.1.1 C.1.2.1 dX4_readWord_131 rfl (lv_at hl 1 rfl) ?_
      obtain ⟨hz, h⟩ := ck_some h
      refine r_lald C hw (kx3 _) (inB_in hz) dX4_readWord_132 ?_
      refine lv_aload_n C.1.1 C.1.2.1 dX4_readWord_133 rfl (lv_at hl 0 rfl) ?_
      refine r_getL C hw (kx1 _) fX4_79 rfl dX4_readWord_134 ?_
      refine W.lcmp C.1.1 C.1.2.1 dX4_readWord_137 ?_
      refine lv_if_ne (tgt := 148) C.1.1 C.1.2.1 dX4_readWord_138 (by decide) (fun hc => ?_) (fun hc => ?_)
      · replace h := ite_neg' h hc
        exact w_X4_readWord_148 kb110 hk110 C hx hw hl h
      · replace h := ite_pos' h hc
        refine lv_aload_n C.1.1 C.1.2.1 dX4_readWord_141 rfl (lv_at hl 0 rfl) ?_
        refine lv_iconst (v := 4) C.1.1 C.1.2.1 dX4_readWord_142 (by decide) ?_
        refine lv_iload_n C.1.1 C.1.2.1 dX4_readWord_143 rfl (lv_at hl 1 rfl) ?_
        refine lv_iadd C.1.1 C.1.2.1 dX4_readWord_144 ?_
        refine r_putI C hw (kx1 _) fX4_59 rfl rfl (Or.inl rfl) dX4_readWord_145 (fun H locs hw => ?_)
        refine lt_gen (P := fun g => WS D cA ev hr ad A (KX ++ tl) s H locs g) h hw (fun g_2 h hw => ?_)
        exact w_X4_readWord_148 kb110 hk110 C hx hw hl h
set_option maxHeartbeats 4000000 in
set_option maxRecDepth 100000 in
theorem w_X4_readWord_110L {gz : GM} (C : CX p s m args meth c RX4 yX4_readWord cX4_readWord 2 none D cA) (hx : HX hr ad) : ∀ (n : Nat) (x1 : Int32) (g : GM) (H : Heap) (locs : List Loc) (ls : Array Slot), WS D cA ev hr ad A (KX ++ tl) s H locs g → lv_has ls 2 [(0, .ref (ad 1)), (1, .int x1)] → fixN (F_X4_readWord_110B) n (x1, g) = some gz → W p l e (RM 1 0 0) s m args below meth c H locs 0 0 (MQ below (QV D cA ev hr ad A (KX ++ tl) gz) args s 0 0 A) (F0 m 110 ls []) := by
  intro n
  induction n with
  | zero => intro x1 g H locs ls hw hl h; exact (fix_zero h).elim
  | succ n ih => intro x1 g H locs ls hw hl h; exact w_X4_readWord_110 (fixN (F_X4_readWord_110B) n) ih C hx hw hl h
set_option maxHeartbeats 4000000 in
set_option maxRecDepth 100000 in
theorem w_X4_readWord_105 {s0 : Int32} {g : GM} {gz : GM} (C : CX p s m args meth c RX4 yX4_readWord cX4_readWord 2 none D cA) (hx : HX hr ad) {H : Heap} {locs : List Loc} (hw : WS D cA ev hr ad A (KX ++ tl) s H locs g) {ls : Array Slot} (hl : lv_has ls 2 [(0, .ref (ad 1))]) (h : F_X4_readWord_105 s0 g = some gz) : W p l e (RM 1 0 0) s m args below meth c H locs 0 0 (MQ below (QV D cA ev hr ad A (KX ++ tl) gz) args s 0 0 A) (F0 m 105 ls [.int s0, .ref (ad 1)]) := by
  refine r_putI C hw (kx1 _) fX4_59 rfl rfl (Or.inl rfl) dX4_readWord_105 (fun H locs hw => ?_)
  refine lt_gen (P := fun g => WS D cA ev hr ad A (KX ++ tl) s H locs g) h hw (fun g_3 h hw => ?_)
  refine lv_iconst (v := 0) C.1.1 C.1.2.1 dX4_readWord_108 (by decide) ?_
  refine lv_istore_n (lv' := [(1, .int 0), (0, .ref (ad 1))]) C.1.1 C.1.2.1 dX4_readWord_109 rfl hl (by decide) rfl (fun ls hl => ?_)
  exact w_X4_readWord_110L C hx FU _ _ _ _ _ hw (lv_sub hl [1, 0] rfl) h
set_option maxHeartbeats 4000000 in
set_option maxRecDepth 100000 in
theorem w_X4_readWord_85 {g : GM} {gz : GM} (C : CX p s m args meth c RX4 yX4_readWord cX4_readWord 2 none D cA) (hx : HX hr ad) {H : Heap} {locs : List Loc} (hw : WS D cA ev hr ad A (KX ++ tl) s H locs g) {ls : Array Slot} (hl : lv_has ls 2 [(0, .ref (ad 1))]) (h : F_X4_readWord_85 g = some gz) : W p l e (RM 1 0 0) s m args below meth c H locs 0 0 (MQ below (QV D cA ev hr ad A (KX ++ tl) gz) args s 0 0 A) (F0 m 85 ls []) := by
  refine lv_aload_n C.1.1 C.1.2.1 dX4_readWord_85 rfl (lv_at hl 0 rfl) ?_
  refine lv_aload_n C.1.1 C.1.2.1 dX4_readWord_86 rfl (lv_at hl 0 rfl) ?_
  refine r_getI C hw (kx1 _) fX4_50 rfl dX4_readWord_87 ?_
  refine lv_aload_n C.1.1 C.1.2.1 dX4_readWord_90 rfl (lv_at hl 0 rfl) ?_
  refine r_getI C hw (kx1 _) fX4_56 rfl dX4_readWord_91 ?_
  refine lv_isub C.1.1 C.1.2.1 dX4_readWord_94 ?_
  refine lv_bipush (v := 8) C.1.1 C.1.2.1 dX4_readWord_95 (by decide) ?_
  refine lv_icmp_le (tgt := 104) C.1.1 C.1.2.1 dX4_readWord_97 (by decide) (fun hc => ?_) (fun hc => ?_)
  · replace h := ite_pos' h hc
    refine lv_iconst (v := 2) C.1.1 C.1.2.1 dX4_readWord_104 (by decide) ?_
    exact w_X4_readWord_105 C hx hw hl h
  · replace h := ite_neg' h hc
    refine lv_iconst (v := 1) C.1.1 C.1.2.1 dX4_readWord_100 (by decide) ?_
    refine lv_goto (tgt := 105) C.1.1 C.1.2.1 dX4_readWord_101 (by decide) ?_
    exact w_X4_readWord_105 C hx hw hl h
set_option maxHeartbeats 4000000 in
set_option maxRecDepth 100000 in
theorem w_X4_readWord_5 {gz : GM} (kb5 : GM → Option (GM)) (hk5 : ∀ (g : GM) (H : Heap) (locs : List Loc) (ls : Array Slot), WS D cA ev hr ad A (KX ++ tl) s H locs g → lv_has ls 2 [(0, .ref (ad 1))] → kb5 g = some gz → W p l e (RM 1 0 0) s m args below meth c H locs 0 0 (MQ below (QV D cA ev hr ad A (KX ++ tl) gz) args s 0 0 A) (F0 m 5 ls [])) (C : CX p s m args meth c RX4 yX4_readWord cX4_readWord 2 none D cA) (hx : HX hr ad) {H : Heap} {locs : List Loc} {g : GM} (hw : WS D cA ev hr ad A (KX ++ tl) s H locs g) {ls : Array Slot} (hl : lv_has ls 2 [(0, .ref (ad 1))]) (h : F_X4_readWord_5B kb5 g = some gz) : W p l e (RM 1 0 0) s m args below meth c H locs 0 0 (MQ below (QV D cA ev hr ad A (KX ++ tl) gz) args s 0 0 A) (F0 m 5 ls []) := by
  refine lv_aload_n C.1.1 C.1.2.1 dX4_readWord_5 rfl (lv_at hl 0 rfl) ?_
  refine r_getI C hw (kx1 _) fX4_50 rfl dX4_readWord_6 ?_
  refine lv_aload_n C.1.1 C.1.2.1 dX4_readWord_9 rfl (lv_at hl 0 rfl) ?_
  refine r_getI C hw (kx1 _) fX4_43 rfl dX4_readWord_10 ?_
  refine lv_icmp_ge (tgt := 85) C.1.1 C.1.2.1 dX4_readWord_13 (by decide) (fun hc => ?_) (fun hc => ?_)
  · replace h := ite_pos' h hc
    exact w_X4_readWord_85 C hx hw hl h
  · replace h := ite_neg' h hc
    refine lv_aload_n C.1.1 C.1.2.1 dX4_readWord_16 rfl (lv_at hl 0 rfl) ?_
    refine r_getR (v := .ref (ad 2)) C hw (kx1 _) fX4_9 rfl (hx1_0 hx) dX4_readWord_17 ?_
    refine lv_aload_n C.1.1 C.1.2.1 dX4_readWord_20 rfl (lv_at hl 0 rfl) ?_
    refine r_getI C hw (kx1 _) fX4_50 rfl dX4_readWord_21 ?_
    obtain ⟨hz, h⟩ := ck_some h
    refine r_bald C hw (kx2 _) (inB_in hz) dX4_readWord_24 ?_
    refine lv_bipush (v := 97) C.1.1 C.1.2.1 dX4_readWord_25 (by decide) ?_
    refine lv_icmp_lt (tgt := 85) C.1.1 C.1.2.1 dX4_readWord_27 (by decide) (fun hc => ?_) (fun hc => ?_)
    · replace h := ite_pos' h hc
      exact w_X4_readWord_85 C hx hw hl h
    · replace h := ite_neg' h hc
      refine lv_aload_n C.1.1 C.1.2.1 dX4_readWord_30 rfl (lv_at hl 0 rfl) ?_
      refine r_getR (v := .ref (ad 2)) C hw (kx1 _) fX4_9 rfl (hx1_0 hx) dX4_readWord_31 ?_
      refine lv_aload_n C.1.1 C.1.2.1 dX4_readWord_34 rfl (lv_at hl 0 rfl) ?_
      refine r_getI C hw (kx1 _) fX4_50 rfl dX4_readWord_35 ?_
      obtain ⟨hz, h⟩ := ck_some h
      refine r_bald C hw (kx2 _) (inB_in hz) dX4_readWord_38 ?_
      refine lv_bipush (v := 122) C.1.1 C.1.2.1 dX4_readWord_39 (by decide) ?_
      refine lv_icmp_gt (tgt := 85) C.1.1 C.1.2.1 dX4_readWord_41 (by decide) (fun hc => ?_) (fun hc => ?_)
      · replace h := ite_pos' h hc
        exact w_X4_readWord_85 C hx hw hl h
      · replace h := ite_neg' h hc
        refine lv_aload_n C.1.1 C.1.2.1 dX4_readWord_44 rfl (lv_at hl 0 rfl) ?_
        refine lv_aload_n C.1.1 C.1.2.1 dX4_readWord_45 rfl (lv_at hl 0 rfl) ?_
        refine r_getL C hw (kx1 _) fX4_79 rfl dX4_readWord_46 ?_
        refine lv_ldc2 (v := 32) C.1.1 C.1.2.1 C.1.2.2.2.1 (C.w kc81) dX4_readWord_49 ?_
        refine lv_lmul C.1.1 C.1.2.1 dX4_readWord_52 ?_
        refine lv_aload_n C.1.1 C.1.2.1 dX4_readWord_53 rfl (lv_at hl 0 rfl) ?_
        refine r_getR (v := .ref (ad 2)) C hw (kx1 _) fX4_9 rfl (hx1_0 hx) dX4_readWord_54 ?_
        refine lv_aload_n C.1.1 C.1.2.1 dX4_readWord_57 rfl (lv_at hl 0 rfl) ?_
        refine r_getI C hw (kx1 _) fX4_50 rfl dX4_readWord_58 ?_
        obtain ⟨hz, h⟩ := ck_some h
        refine r_bald C hw (kx2 _) (inB_in hz) dX4_readWord_61 ?_
        refine lv_bipush (v := 97) C.1.1 C.1.2.1 dX4_readWord_62 (by decide) ?_
        refine lv_isub C.1.1 C.1.2.1 dX4_readWord_64 ?_
        refine lv_iconst (v := 1) C.1.1 C.1.2.1 dX4_readWord_65 (by decide) ?_
        refine lv_iadd C.1.1 C.1.2.1 dX4_readWord_66 ?_
        refine lv_i2l (v := (((gi g 2 (gi g 1 4).toNatClampNeg) - 97) + 1).toInt64) C.1.1 C.1.2.1 dX4_readWord_67 rfl ?_
        refine lv_ladd C.1.1 C.1.2.1 dX4_readWord_68 ?_
        refine r_putL C hw (kx1 _) fX4_79 rfl rfl (Or.inl rfl) dX4_readWord_69 (fun H locs hw => ?_)
        refine lt_gen (P := fun g => WS D cA ev hr ad A (KX ++ tl) s H locs g) h hw (fun g_4 h hw => ?_)
        refine lv_aload_n C.1.1 C.1.2.1 dX4_readWord_72 rfl (lv_at hl 0 rfl) ?_
        refine lv_dup C.1.1 C.1.2.1 dX4_readWord_73 rfl ?_
        refine r_getI C hw (kx1 _) fX4_50 rfl dX4_readWord_74 ?_
        refine lv_iconst (v := 1) C.1.1 C.1.2.1 dX4_readWord_77 (by decide) ?_
        refine lv_iadd C.1.1 C.1.2.1 dX4_readWord_78 ?_
        refine r_putI C hw (kx1 _) fX4_50 rfl rfl (Or.inl rfl) dX4_readWord_79 (fun H locs hw => ?_)
        refine lt_gen (P := fun g => WS D cA ev hr ad A (KX ++ tl) s H locs g) h hw (fun g_5 h hw => ?_)
        refine lv_goto (tgt := 5) C.1.1 C.1.2.1 dX4_readWord_82 (by decide) ?_
        exact hk5 _ _ _ _ hw hl h
set_option maxHeartbeats 4000000 in
set_option maxRecDepth 100000 in
theorem w_X4_readWord_5L {gz : GM} (C : CX p s m args meth c RX4 yX4_readWord cX4_readWord 2 none D cA) (hx : HX hr ad) : ∀ (n : Nat) (g : GM) (H : Heap) (locs : List Loc) (ls : Array Slot), WS D cA ev hr ad A (KX ++ tl) s H locs g → lv_has ls 2 [(0, .ref (ad 1))] → fixN (F_X4_readWord_5B) n g = some gz → W p l e (RM 1 0 0) s m args below meth c H locs 0 0 (MQ below (QV D cA ev hr ad A (KX ++ tl) gz) args s 0 0 A) (F0 m 5 ls []) := by
  intro n
  induction n with
  | zero => intro g H locs ls hw hl h; exact (fix_zero h).elim
  | succ n ih => intro g H locs ls hw hl h; exact w_X4_readWord_5 (fixN (F_X4_readWord_5B) n) ih C hx hw hl h
set_option maxHeartbeats 4000000 in
set_option maxRecDepth 100000 in
theorem w_X4_readWord_0 (C : CX p s m args meth c RX4 yX4_readWord cX4_readWord 2 none D cA) (hx : HX hr ad) {H : Heap} {locs : List Loc} {g : GM} (hw : WS D cA ev hr ad A (KX ++ tl) s H locs g) {ls : Array Slot} (hl : lv_has ls 2 [(0, .ref (ad 1))]) {gz : GM} (h : F_X4_readWord g = some gz) : W p l e (RM 1 0 0) s m args below meth c H locs 0 0 (MQ below (QV D cA ev hr ad A (KX ++ tl) gz) args s 0 0 A) (F0 m 0 ls []) := by
  refine lv_aload_n C.1.1 C.1.2.1 dX4_readWord_0 rfl (lv_at hl 0 rfl) ?_
  refine lv_lconst (v := 0) C.1.1 C.1.2.1 dX4_readWord_1 (by decide) ?_
  refine r_putL C hw (kx1 _) fX4_79 rfl rfl (Or.inl rfl) dX4_readWord_2 (fun H locs hw => ?_)
  refine lt_gen (P := fun g => WS D cA ev hr ad A (KX ++ tl) s H locs g) h hw (fun g_6 h hw => ?_)
  exact w_X4_readWord_5L C hx FU _ _ _ _ hw hl h
set_option maxHeartbeats 4000000 in
set_option maxRecDepth 100000 in
theorem c_X4_readWord (hx : HX hr ad) {g : GM} {gz : GM} (h : F_X4_readWord g = some gz) (sz : Nat) : Met l yX4_readWord (WSX yX4_readWord cX4_readWord 2 none) (RM 1 0 0) (va_Pc [.ref (ad 1)] (PX D cA ev hr ad (KX ++ tl) g sz)) (QV D cA ev hr ad (AX ad (KX ++ tl).length sz) (KX ++ tl) gz) 0 0 (AX ad (KX ++ tl).length sz) :=
  met_of (own := RX4) pnX4 rfl (Nat.le_of_ble_eq_true rfl) (fun p e s m below meth c ls C hw hsz hl => w_X4_readWord_0 C hx hw hl h)
set_option maxHeartbeats 4000000 in
set_option maxRecDepth 100000 in
theorem w_X4_readNumber_150 {s0 : Int32} {g : GM} {gz : GM} (C : CX p s m args meth c RX4 yX4_readNumber cX4_readNumber 2 none D cA) (hx : HX hr ad) {H : Heap} {locs : List Loc} (hw : WS D cA ev hr ad A (KX ++ tl) s H locs g) {ls : Array Slot} (hl : lv_has ls 2 []) (h : F_X4_readNumber_150 s0 g = some gz) : W p l e (RM 1 0 0) s m args below meth c H locs 0 0 (MQ below (QV D cA ev hr ad A (KX ++ tl) gz) args s 0 0 A) (F0 m 150 ls [.int s0, .ref (ad 1)]) := by
  refine r_putI C hw (kx1 _) fX4_59 rfl rfl (Or.inl rfl) dX4_readNumber_150 (fun H locs hw => ?_)
  refine lt_gen (P := fun g => WS D cA ev hr ad A (KX ++ tl) s H locs g) h hw (fun g_1 h hw => ?_)
  cases h
  exact r_vret C hw rfl dX4_readNumber_153
set_option maxHeartbeats 4000000 in
set_option maxRecDepth 100000 in
theorem w_X4_readNumber_145 {g : GM} {gz : GM} (C : CX p s m args meth c RX4 yX4_readNumber cX4_readNumber 2 none D cA) (hx : HX hr ad) {H : Heap} {locs : List Loc} (hw : WS D cA ev hr ad A (KX ++ tl) s H locs g) {ls : Array Slot} (hl : lv_has ls 2 []) (h : F_X4_readNumber_145 g = some gz) : W p l e (RM 1 0 0) s m args below meth c H locs 0 0 (MQ below (QV D cA ev hr ad A (KX ++ tl) gz) args s 0 0 A) (F0 m 145 ls [.ref (ad 1)]) := by
  refine lv_iconst (v := 1) C.1.1 C.1.2.1 dX4_readNumber_145 (by decide) ?_
  refine lv_goto (tgt := 150) C.1.1 C.1.2.1 dX4_readNumber_146 (by decide) ?_
  exact w_X4_readNumber_150 C hx hw hl h
set_option maxHeartbeats 4000000 in
set_option maxRecDepth 100000 in
theorem w_X4_readNumber_125 {s0 : Int32} {g : GM} {gz : GM} (C : CX p s m args meth c RX4 yX4_readNumber cX4_readNumber 2 none D cA) (hx : HX hr ad) {H : Heap} {locs : List Loc} (hw : WS D cA ev hr ad A (KX ++ tl) s H locs g) {ls : Array Slot} (hl : lv_has ls 2 [(0, .ref (ad 1))]) (h : F_X4_readNumber_125 s0 g = some gz) : W p l e (RM 1 0 0) s m args below meth c H locs 0 0 (MQ below (QV D cA ev hr ad A (KX ++ tl) gz) args s 0 0 A) (F0 m 125 ls [.int s0]) := by
  refine lv_istore_n (lv' := [(1, .int s0), (0, .ref (ad 1))]) C.1.1 C.1.2.1 dX4_readNumber_125 rfl hl (by decide) rfl (fun ls hl => ?_)
  refine lv_aload_n C.1.1 C.1.2.1 dX4_readNumber_126 rfl (lv_at hl 1 rfl) ?_
  refine lv_aload_n C.1.1 C.1.2.1 dX4_readNumber_127 rfl (lv_at hl 1 rfl) ?_
  refine r_getI C hw (kx1 _) fX4_50 rfl dX4_readNumber_128 ?_
  refine lv_aload_n C.1.1 C.1.2.1 dX4_readNumber_131 rfl (lv_at hl 1 rfl) ?_
  refine r_getI C hw (kx1 _) fX4_56 rfl dX4_readNumber_132 ?_
  refine lv_isub C.1.1 C.1.2.1 dX4_readNumber_135 ?_
  refine lv_bipush (v := 6) C.1.1 C.1.2.1 dX4_readNumber_136 (by decide) ?_
  refine lv_icmp_gt (tgt := 145) C.1.1 C.1.2.1 dX4_readNumber_138 (by decide) (fun hc => ?_) (fun hc => ?_)
  · replace h := ite_pos' h hc
    exact w_X4_readNumber_145 C hx hw (lv_sub hl [] rfl) h
  · replace h := ite_neg' h hc
    refine lv_iload_n C.1.1 C.1.2.1 dX4_readNumber_141 rfl (lv_at hl 0 rfl) ?_
    refine lv_if_eq (tgt := 149) C.1.1 C.1.2.1 dX4_readNumber_142 (by decide) (fun hc => ?_) (fun hc => ?_)
    · replace h := ite_pos' h hc
      refine lv_iconst (v := 3) C.1.1 C.1.2.1 dX4_readNumber_149 (by decide) ?_
      exact w_X4_readNumber_150 C hx hw (lv_sub hl [] rfl) h
    · replace h := ite_neg' h hc
      exact w_X4_readNumber_145 C hx hw (lv_sub hl [] rfl) h
set_option maxHeartbeats 4000000 in
set_option maxRecDepth 100000 in
theorem w_X4_readNumber_124 {g : GM} {gz : GM} (C : CX p s m args meth c RX4 yX4_readNumber cX4_readNumber 2 none D cA) (hx : HX hr ad) {H : Heap} {locs : List Loc} (hw : WS D cA ev hr ad A (KX ++ tl) s H locs g) {ls : Array Slot} (hl : lv_has ls 2 [(0, .ref (ad 1))]) (h : F_X4_readNumber_124 g = some gz) : W p l e (RM 1 0 0) s m args below meth c H locs 0 0 (MQ below (QV D cA ev hr ad A (KX ++ tl) gz) args s 0 0 A) (F0 m 124 ls []) := by
  refine lv_iconst (v := 0) C.1.1 C.1.2.1 dX4_readNumber_124 (by decide) ?_
  exact w_X4_readNumber_125 C hx hw hl h
set_option maxHeartbeats 4000000 in
set_option maxRecDepth 100000 in
theorem w_X4_readNumber_81 {g : GM} {gz : GM} (C : CX p s m args meth c RX4 yX4_readNumber cX4_readNumber 2 none D cA) (hx : HX hr ad) {H : Heap} {locs : List Loc} (hw : WS D cA ev hr ad A (KX ++ tl) s H locs g) {ls : Array Slot} (hl : lv_has ls 2 [(0, .ref (ad 1))]) (h : F_X4_readNumber_81 g = some gz) : W p l e (RM 1 0 0) s m args below meth c H locs 0 0 (MQ below (QV D cA ev hr ad A (KX ++ tl) gz) args s 0 0 A) (F0 m 81 ls []) := by
  refine lv_aload_n C.1.1 C.1.2.1 dX4_readNumber_81 rfl (lv_at hl 0 rfl) ?_
  refine r_getI C hw (kx1 _) fX4_50 rfl dX4_readNumber_82 ?_
  refine lv_aload_n C.1.1 C.1.2.1 dX4_readNumber_85 rfl (lv_at hl 0 rfl) ?_
  refine r_getI C hw (kx1 _) fX4_43 rfl dX4_readNumber_86 ?_
  refine lv_icmp_ge (tgt := 124) C.1.1 C.1.2.1 dX4_readNumber_89 (by decide) (fun hc => ?_) (fun hc => ?_)
  · replace h := ite_pos' h hc
    exact w_X4_readNumber_124 C hx hw hl h
  · replace h := ite_neg' h hc
    refine lv_aload_n C.1.1 C.1.2.1 dX4_readNumber_92 rfl (lv_at hl 0 rfl) ?_
    refine r_getR (v := .ref (ad 2)) C hw (kx1 _) fX4_9 rfl (hx1_0 hx) dX4_readNumber_93 ?_
    refine lv_aload_n C.1.1 C.1.2.1 dX4_readNumber_96 rfl (lv_at hl 0 rfl) ?_
    refine r_getI C hw (kx1 _) fX4_50 rfl dX4_readNumber_97 ?_
    obtain ⟨hz, h⟩ := ck_some h
    refine r_bald C hw (kx2 _) (inB_in hz) dX4_readNumber_100 ?_
    refine lv_bipush (v := 97) C.1.1 C.1.2.1 dX4_readNumber_101 (by decide) ?_
    refine lv_icmp_lt (tgt := 124) C.1.1 C.1.2.1 dX4_readNumber_103 (by decide) (fun hc => ?_) (fun hc => ?_)
    · replace h := ite_pos' h hc
      exact w_X4_readNumber_124 C hx hw hl h
    · replace h := ite_neg' h hc
      refine lv_aload_n C.1.1 C.1.2.1 dX4_readNumber_106 rfl (lv_at hl 0 rfl) ?_
      refine r_getR (v := .ref (ad 2)) C hw (kx1 _) fX4_9 rfl (hx1_0 hx) dX4_readNumber_107 ?_
      refine lv_aload_n C.1.1 C.1.2.1 dX4_readNumber_110 rfl (lv_at hl 0 rfl) ?_
      refine r_getI C hw (kx1 _) fX4_50 rfl dX4_readNumber_111 ?_
      obtain ⟨hz, h⟩ := ck_some h
      refine r_bald C hw (kx2 _) (inB_in hz) dX4_readNumber_114 ?_
      refine lv_bipush (v := 122) C.1.1 C.1.2.1 dX4_readNumber_115 (by decide) ?_
      refine lv_icmp_gt (tgt := 124) C.1.1 C.1.2.1 dX4_readNumber_117 (by decide) (fun hc => ?_) (fun hc => ?_)
      · replace h := ite_pos' h hc
        exact w_X4_readNumber_124 C hx hw hl h
      · replace h := ite_neg' h hc
        refine lv_iconst (v := 1) C.1.1 C.1.2.1 dX4_readNumber_120 (by decide) ?_
        refine lv_goto (tgt := 125) C.1.1 C.1.2.1 dX4_readNumber_121 (by decide) ?_
        exact w_X4_readNumber_125 C hx hw hl h
set_option maxHeartbeats 4000000 in
set_option maxRecDepth 100000 in
theorem w_X4_readNumber_5 {gz : GM} (kb5 : GM → Option (GM)) (hk5 : ∀ (g : GM) (H : Heap) (locs : List Loc) (ls : Array Slot), WS D cA ev hr ad A (KX ++ tl) s H locs g → lv_has ls 2 [(0, .ref (ad 1))] → kb5 g = some gz → W p l e (RM 1 0 0) s m args below meth c H locs 0 0 (MQ below (QV D cA ev hr ad A (KX ++ tl) gz) args s 0 0 A) (F0 m 5 ls [])) (C : CX p s m args meth c RX4 yX4_readNumber cX4_readNumber 2 none D cA) (hx : HX hr ad) {H : Heap} {locs : List Loc} {g : GM} (hw : WS D cA ev hr ad A (KX ++ tl) s H locs g) {ls : Array Slot} (hl : lv_has ls 2 [(0, .ref (ad 1))]) (h : F_X4_readNumber_5B kb5 g = some gz) : W p l e (RM 1 0 0) s m args below meth c H locs 0 0 (MQ below (QV D cA ev hr ad A (KX ++ tl) gz) args s 0 0 A) (F0 m 5 ls []) := by
  refine lv_aload_n C.1.1 C.1.2.1 dX4_readNumber_5 rfl (lv_at hl 0 rfl) ?_
  refine r_getI C hw (kx1 _) fX4_50 rfl dX4_readNumber_6 ?_
  refine lv_aload_n C.1.1 C.1.2.1 dX4_readNumber_9 rfl (lv_at hl 0 rfl) ?_
  refine r_getI C hw (kx1 _) fX4_43 rfl dX4_readNumber_10 ?_
  refine lv_icmp_ge (tgt := 81) C.1.1 C.1.2.1 dX4_readNumber_13 (by decide) (fun hc => ?_) (fun hc => ?_)
  · replace h := ite_pos' h hc
    exact w_X4_readNumber_81 C hx hw hl h
  · replace h := ite_neg' h hc
    refine lv_aload_n C.1.1 C.1.2.1 dX4_readNumber_16 rfl (lv_at hl 0 rfl) ?_
    refine r_getR (v := .ref (ad 2)) C hw (kx1 _) fX4_9 rfl (hx1_0 hx) dX4_readNumber_17 ?_
    refine lv_aload_n C.1.1 C.1.2.1 dX4_readNumber_20 rfl (lv_at hl 0 rfl) ?_
    refine r_getI C hw (kx1 _) fX4_50 rfl dX4_readNumber_21 ?_
    obtain ⟨hz, h⟩ := ck_some h
    refine r_bald C hw (kx2 _) (inB_in hz) dX4_readNumber_24 ?_
    refine lv_bipush (v := 48) C.1.1 C.1.2.1 dX4_readNumber_25 (by decide) ?_
    refine lv_icmp_lt (tgt := 81) C.1.1 C.1.2.1 dX4_readNumber_27 (by decide) (fun hc => ?_) (fun hc => ?_)
    · replace h := ite_pos' h hc
      exact w_X4_readNumber_81 C hx hw hl h
    · replace h := ite_neg' h hc
      refine lv_aload_n C.1.1 C.1.2.1 dX4_readNumber_30 rfl (lv_at hl 0 rfl) ?_
      refine r_getR (v := .ref (ad 2)) C hw (kx1 _) fX4_9 rfl (hx1_0 hx) dX4_readNumber_31 ?_
      refine lv_aload_n C.1.1 C.1.2.1 dX4_readNumber_34 rfl (lv_at hl 0 rfl) ?_
      refine r_getI C hw (kx1 _) fX4_50 rfl dX4_readNumber_35 ?_
      obtain ⟨hz, h⟩ := ck_some h
      refine r_bald C hw (kx2 _) (inB_in hz) dX4_readNumber_38 ?_
      refine lv_bipush (v := 57) C.1.1 C.1.2.1 dX4_readNumber_39 (by decide) ?_
      refine lv_icmp_gt (tgt := 81) C.1.1 C.1.2.1 dX4_readNumber_41 (by decide) (fun hc => ?_) (fun hc => ?_)
      · replace h := ite_pos' h hc
        exact w_X4_readNumber_81 C hx hw hl h
      · replace h := ite_neg' h hc
        refine lv_aload_n C.1.1 C.1.2.1 dX4_readNumber_44 rfl (lv_at hl 0 rfl) ?_
        refine lv_aload_n C.1.1 C.1.2.1 dX4_readNumber_45 rfl (lv_at hl 0 rfl) ?_
        refine r_getI C hw (kx1 _) fX4_89 rfl dX4_readNumber_46 ?_
        refine lv_bipush (v := 10) C.1.1 C.1.2.1 dX4_readNumber_49 (by decide) ?_
        refine lv_imul C.1.1 C.1.2.1 dX4_readNumber_51 ?_
        refine lv_aload_n C.1.1 C.1.2.1 dX4_readNumber_52 rfl (lv_at hl 0 rfl) ?_
        refine r_getR (v := .ref (ad 2)) C hw (kx1 _) fX4_9 rfl (hx1_0 hx) dX4_readNumber_53 ?_
        refine lv_aload_n C.1.1 C.1.2.1 dX4_readNumber_56 rfl (lv_at hl 0 rfl) ?_
        refine r_getI C hw (kx1 _) fX4_50 rfl dX4_readNumber_57 ?_
        obtain ⟨hz, h⟩ := ck_some h
        refine r_bald C hw (kx2 _) (inB_in hz) dX4_readNumber_60 ?_
        refine lv_bipush (v := 48) C.1.1 C.1.2.1 dX4_readNumber_61 (by decide) ?_
        refine lv_isub C.1.1 C.1.2.1 dX4_readNumber_63 ?_
        refine lv_iadd C.1.1 C.1.2.1 dX4_readNumber_64 ?_
        refine r_putI C hw (kx1 _) fX4_89 rfl rfl (Or.inl rfl) dX4_readNumber_65 (fun H locs hw => ?_)
        refine lt_gen (P := fun g => WS D cA ev hr ad A (KX ++ tl) s H locs g) h hw (fun g_2 h hw => ?_)
        refine lv_aload_n C.1.1 C.1.2.1 dX4_readNumber_68 rfl (lv_at hl 0 rfl) ?_
        refine lv_dup C.1.1 C.1.2.1 dX4_readNumber_69 rfl ?_
        refine r_getI C hw (kx1 _) fX4_50 rfl dX4_readNumber_70 ?_
        refine lv_iconst (v := 1) C.1.1 C.1.2.1 dX4_readNumber_73 (by decide) ?_
        refine lv_iadd C.1.1 C.1.2.1 dX4_readNumber_74 ?_
        refine r_putI C hw (kx1 _) fX4_50 rfl rfl (Or.inl rfl) dX4_readNumber_75 (fun H locs hw => ?_)
        refine lt_gen (P := fun g => WS D cA ev hr ad A (KX ++ tl) s H locs g) h hw (fun g_3 h hw => ?_)
        refine lv_goto (tgt := 5) C.1.1 C.1.2.1 dX4_readNumber_78 (by decide) ?_
        exact hk5 _ _ _ _ hw hl h
set_option maxHeartbeats 4000000 in
set_option maxRecDepth 100000 in
theorem w_X4_readNumber_5L {gz : GM} (C : CX p s m args meth c RX4 yX4_readNumber cX4_readNumber 2 none D cA) (hx : HX hr ad) : ∀ (n : Nat) (g : GM) (H : Heap) (locs : List Loc) (ls : Array Slot), WS D cA ev hr ad A (KX ++ tl) s H locs g → lv_has ls 2 [(0, .ref (ad 1))] → fixN (F_X4_readNumber_5B) n g = some gz → W p l e (RM 1 0 0) s m args below meth c H locs 0 0 (MQ below (QV D cA ev hr ad A (KX ++ tl) gz) args s 0 0 A) (F0 m 5 ls []) := by
  intro n
  induction n with
  | zero => intro g H locs ls hw hl h; exact (fix_zero h).elim
  | succ n ih => intro g H locs ls hw hl h; exact w_X4_readNumber_5 (fixN (F_X4_readNumber_5B) n) ih C hx hw hl h
set_option maxHeartbeats 4000000 in
set_option maxRecDepth 100000 in
theorem w_X4_readNumber_0 (C : CX p s m args meth c RX4 yX4_readNumber cX4_readNumber 2 none D cA) (hx : HX hr ad) {H : Heap} {locs : List Loc} {g : GM} (hw : WS D cA ev hr ad A (KX ++ tl) s H locs g) {ls : Array Slot} (hl : lv_has ls 2 [(0, .ref (ad 1))]) {gz : GM} (h : F_X4_readNumber g = some gz) : W p l e (RM 1 0 0) s m args below meth c H locs 0 0 (MQ below (QV D cA ev hr ad A (KX ++ tl) gz) args s 0 0 A) (F0 m 0 ls []) := by
  refine lv_aload_n C.1.1 C.1.2.1 dX4_readNumber_0 rfl (lv_at hl 0 rfl) ?_
  refine lv_iconst (v := 0) C.1.1 C.1.2.1 dX4_readNumber_1 (by decide) ?_
  refine r_putI C hw (kx1 _) fX4_89 rfl rfl (Or.inl rfl) dX4_readNumber_2 (fun H locs hw => ?_)
  refine lt_gen (P := fun g => WS D cA ev hr ad A (KX ++ tl) s H locs g) h hw (fun g_4 h hw => ?_)
  exact w_X4_readNumber_5L C hx FU _ _ _ _ hw hl h
set_option maxHeartbeats 4000000 in
set_option maxRecDepth 100000 in
theorem c_X4_readNumber (hx : HX hr ad) {g : GM} {gz : GM} (h : F_X4_readNumber g = some gz) (sz : Nat) : Met l yX4_readNumber (WSX yX4_readNumber cX4_readNumber 2 none) (RM 1 0 0) (va_Pc [.ref (ad 1)] (PX D cA ev hr ad (KX ++ tl) g sz)) (QV D cA ev hr ad (AX ad (KX ++ tl).length sz) (KX ++ tl) gz) 0 0 (AX ad (KX ++ tl).length sz) :=
  met_of (own := RX4) pnX4 rfl (Nat.le_of_ble_eq_true rfl) (fun p e s m below meth c ls C hw hsz hl => w_X4_readNumber_0 C hx hw hl h)
set_option maxHeartbeats 4000000 in
set_option maxRecDepth 100000 in
theorem w_X4_advance_158 {s0 : Int32} {g : GM} {gz : GM} (C : CX p s m args meth c RX4 yX4_advance cX4_advance 2 none D cA) (hx : HX hr ad) {H : Heap} {locs : List Loc} (hw : WS D cA ev hr ad A (KX ++ tl) s H locs g) {ls : Array Slot} (hl : lv_has ls 2 [(0, .ref (ad 1))]) (h : F_X4_advance_158 s0 g = some gz) : W p l e (RM 8 0 0) s m args below meth c H locs 0 0 (MQ below (QV D cA ev hr ad A (KX ++ tl) gz) args s 0 0 A) (F0 m 158 ls [.int s0, .ref (ad 1)]) := by
  refine r_putI C hw (kx1 _) fX4_59 rfl rfl (Or.inl rfl) dX4_advance_158 (fun H locs hw => ?_)
  refine lt_gen (P := fun g => WS D cA ev hr ad A (KX ++ tl) s H locs g) h hw (fun g_1 h hw => ?_)
  refine lv_aload_n C.1.1 C.1.2.1 dX4_advance_161 rfl (lv_at hl 0 rfl) ?_
  refine lv_dup C.1.1 C.1.2.1 dX4_advance_162 rfl ?_
  refine r_getI C hw (kx1 _) fX4_50 rfl dX4_advance_163 ?_
  refine lv_iconst (v := 1) C.1.1 C.1.2.1 dX4_advance_166 (by decide) ?_
  refine lv_iadd C.1.1 C.1.2.1 dX4_advance_167 ?_
  refine r_putI C hw (kx1 _) fX4_50 rfl rfl (Or.inl rfl) dX4_advance_168 (fun H locs hw => ?_)
  refine lt_gen (P := fun g => WS D cA ev hr ad A (KX ++ tl) s H locs g) h hw (fun g_2 h hw => ?_)
  cases h
  exact r_vret C hw rfl dX4_advance_171
set_option maxHeartbeats 4000000 in
set_option maxRecDepth 100000 in
theorem w_X4_advance_140 {x1 : Int32} {g : GM} {gz : GM} (C : CX p s m args meth c RX4 yX4_advance cX4_advance 2 none D cA) (hx : HX hr ad) {H : Heap} {locs : List Loc} (hw : WS D cA ev hr ad A (KX ++ tl) s H locs g) {ls : Array Slot} (hl : lv_has ls 2 [(0, .ref (ad 1)), (1, .int x1)]) (h : F_X4_advance_140 x1 g = some gz) : W p l e (RM 8 0 0) s m args below meth c H locs 0 0 (MQ below (QV D cA ev hr ad A (KX ++ tl) gz) args s 0 0 A) (F0 m 140 ls []) := by
  refine lv_aload_n C.1.1 C.1.2.1 dX4_advance_140 rfl (lv_at hl 0 rfl) ?_
  refine lv_aload_n C.1.1 C.1.2.1 dX4_advance_141 rfl (lv_at hl 0 rfl) ?_
  refine r_getS C hw (kx1 _) fX4_21 rfl dX4_advance_142 ?_
  refine lv_iload_n C.1.1 C.1.2.1 dX4_advance_145 rfl (lv_at hl 1 rfl) ?_
  refine lv_i2c (v := (x1.toUInt32 % 65536).toInt32) C.1.1 C.1.2.1 dX4_advance_146 rfl ?_
  obtain ⟨r_3, hc, h⟩ := bnd_some h
  refine r_ixS (rest := [.ref (ad 1)]) C hw vX4_68 hc (by decide) hl.1 (Nat.le_of_ble_eq_true rfl) dX4_advance_147 ⟨Nat.le_refl _, Nat.le_refl _⟩ (fun H locs hw => ?_)
  refine lv_if_lt (tgt := 157) C.1.1 C.1.2.1 dX4_advance_150 (by decide) (fun hc => ?_) (fun hc => ?_)
  · replace h := ite_pos' h hc
    refine lv_iconst (v := 1) C.1.1 C.1.2.1 dX4_advance_157 (by decide) ?_
    exact w_X4_advance_158 C hx hw (lv_sub hl [0] rfl) h
  · replace h := ite_neg' h hc
    refine lv_iload_n C.1.1 C.1.2.1 dX4_advance_153 rfl (lv_at hl 1 rfl) ?_
    refine lv_goto (tgt := 158) C.1.1 C.1.2.1 dX4_advance_154 (by decide) ?_
    exact w_X4_advance_158 C hx hw (lv_sub hl [0] rfl) h
set_option maxHeartbeats 4000000 in
set_option maxRecDepth 100000 in
theorem w_X4_advance_121 {x1 : Int32} {g : GM} {gz : GM} (C : CX p s m args meth c RX4 yX4_advance cX4_advance 2 none D cA) (hx : HX hr ad) {H : Heap} {locs : List Loc} (hw : WS D cA ev hr ad A (KX ++ tl) s H locs g) {ls : Array Slot} (hl : lv_has ls 2 [(0, .ref (ad 1)), (1, .int x1)]) (h : F_X4_advance_121 x1 g = some gz) : W p l e (RM 8 0 0) s m args below meth c H locs 0 0 (MQ below (QV D cA ev hr ad A (KX ++ tl) gz) args s 0 0 A) (F0 m 121 ls []) := by
  refine lv_iload_n C.1.1 C.1.2.1 dX4_advance_121 rfl (lv_at hl 1 rfl) ?_
  refine lv_bipush (v := 48) C.1.1 C.1.2.1 dX4_advance_122 (by decide) ?_
  refine lv_icmp_lt (tgt := 140) C.1.1 C.1.2.1 dX4_advance_124 (by decide) (fun hc => ?_) (fun hc => ?_)
  · replace h := ite_pos' h hc
    exact w_X4_advance_140 C hx hw hl h
  · replace h := ite_neg' h hc
    refine lv_iload_n C.1.1 C.1.2.1 dX4_advance_127 rfl (lv_at hl 1 rfl) ?_
    refine lv_bipush (v := 57) C.1.1 C.1.2.1 dX4_advance_128 (by decide) ?_
    refine lv_icmp_gt (tgt := 140) C.1.1 C.1.2.1 dX4_advance_130 (by decide) (fun hc => ?_) (fun hc => ?_)
    · replace h := ite_pos' h hc
      exact w_X4_advance_140 C hx hw hl h
    · replace h := ite_neg' h hc
      refine lv_aload_n C.1.1 C.1.2.1 dX4_advance_133 rfl (lv_at hl 0 rfl) ?_
      obtain ⟨g_4, hc, h⟩ := bnd_some h
      refine r_vV (dc := 1) (As := []) (rest := []) C hw vX4_65 (kx1 _) (by decide) rfl (fun sz => c_X4_readNumber hx hc sz) (by decide) rfl rfl hl.1 (Nat.le_of_ble_eq_true rfl) dX4_advance_134 ⟨Nat.le_refl _, Nat.le_refl _⟩ (fun H locs hw => ?_)
      refine lv_goto (tgt := 171) C.1.1 C.1.2.1 dX4_advance_137 (by decide) ?_
      cases h
      exact r_vret C hw rfl dX4_advance_171
set_option maxHeartbeats 4000000 in
set_option maxRecDepth 100000 in
theorem w_X4_advance_88 {s0 : Int32} {g : GM} {gz : GM} (C : CX p s m args meth c RX4 yX4_advance cX4_advance 2 none D cA) (hx : HX hr ad) {H : Heap} {locs : List Loc} (hw : WS D cA ev hr ad A (KX ++ tl) s H locs g) {ls : Array Slot} (hl : lv_has ls 2 [(0, .ref (ad 1))]) (h : F_X4_advance_88 s0 g = some gz) : W p l e (RM 8 0 0) s m args below meth c H locs 0 0 (MQ below (QV D cA ev hr ad A (KX ++ tl) gz) args s 0 0 A) (F0 m 88 ls [.int s0]) := by
  refine lv_istore_n (lv' := [(1, .int s0), (0, .ref (ad 1))]) C.1.1 C.1.2.1 dX4_advance_88 rfl hl (by decide) rfl (fun ls hl => ?_)
  refine lv_iload_n C.1.1 C.1.2.1 dX4_advance_89 rfl (lv_at hl 0 rfl) ?_
  refine lv_iconst (v := (-1)) C.1.1 C.1.2.1 dX4_advance_90 (by decide) ?_
  refine lv_icmp_ne (tgt := 102) C.1.1 C.1.2.1 dX4_advance_91 (by decide) (fun hc => ?_) (fun hc => ?_)
  · replace h := ite_neg' h hc
    refine lv_iload_n C.1.1 C.1.2.1 dX4_advance_102 rfl (lv_at hl 0 rfl) ?_
    refine lv_bipush (v := 97) C.1.1 C.1.2.1 dX4_advance_103 (by decide) ?_
    refine lv_icmp_lt (tgt := 121) C.1.1 C.1.2.1 dX4_advance_105 (by decide) (fun hc => ?_) (fun hc => ?_)
    · replace h := ite_pos' h hc
      exact w_X4_advance_121 C hx hw (lv_sub hl [1, 0] rfl) h
    · replace h := ite_neg' h hc
      refine lv_iload_n C.1.1 C.1.2.1 dX4_advance_108 rfl (lv_at hl 0 rfl) ?_
      refine lv_bipush (v := 122) C.1.1 C.1.2.1 dX4_advance_109 (by decide) ?_
      refine lv_icmp_gt (tgt := 121) C.1.1 C.1.2.1 dX4_advance_111 (by decide) (fun hc => ?_) (fun hc => ?_)
      · replace h := ite_pos' h hc
        exact w_X4_advance_121 C hx hw (lv_sub hl [1, 0] rfl) h
      · replace h := ite_neg' h hc
        refine lv_aload_n C.1.1 C.1.2.1 dX4_advance_114 rfl (lv_at hl 1 rfl) ?_
        obtain ⟨g_5, hc, h⟩ := bnd_some h
        refine r_vV (dc := 1) (As := []) (rest := []) C hw vX4_62 (kx1 _) (by decide) rfl (fun sz => c_X4_readWord hx hc sz) (by decide) rfl rfl hl.1 (Nat.le_of_ble_eq_true rfl) dX4_advance_115 ⟨Nat.le_refl _, Nat.le_refl _⟩ (fun H locs hw => ?_)
        refine lv_goto (tgt := 171) C.1.1 C.1.2.1 dX4_advance_118 (by decide) ?_
        cases h
        exact r_vret C hw rfl dX4_advance_171
  · replace h := ite_pos' h hc
    refine lv_aload_n C.1.1 C.1.2.1 dX4_advance_94 rfl (lv_at hl 1 rfl) ?_
    refine lv_iconst (v := 0) C.1.1 C.1.2.1 dX4_advance_95 (by decide) ?_
    refine r_putI C hw (kx1 _) fX4_59 rfl rfl (Or.inl rfl) dX4_advance_96 (fun H locs hw => ?_)
    refine lt_gen (P := fun g => WS D cA ev hr ad A (KX ++ tl) s H locs g) h hw (fun g_6 h hw => ?_)
    refine lv_goto (tgt := 171) C.1.1 C.1.2.1 dX4_advance_99 (by decide) ?_
    cases h
    exact r_vret C hw rfl dX4_advance_171
set_option maxHeartbeats 4000000 in
set_option maxRecDepth 100000 in
theorem w_X4_advance_52 {g : GM} {gz : GM} (C : CX p s m args meth c RX4 yX4_advance cX4_advance 2 none D cA) (hx : HX hr ad) {H : Heap} {locs : List Loc} (hw : WS D cA ev hr ad A (KX ++ tl) s H locs g) {ls : Array Slot} (hl : lv_has ls 2 [(0, .ref (ad 1))]) (h : F_X4_advance_52 g = some gz) : W p l e (RM 8 0 0) s m args below meth c H locs 0 0 (MQ below (QV D cA ev hr ad A (KX ++ tl) gz) args s 0 0 A) (F0 m 52 ls []) := by
  refine lv_aload_n C.1.1 C.1.2.1 dX4_advance_52 rfl (lv_at hl 0 rfl) ?_
  refine lv_aload_n C.1.1 C.1.2.1 dX4_advance_53 rfl (lv_at hl 0 rfl) ?_
  refine r_getI C hw (kx1 _) fX4_50 rfl dX4_advance_54 ?_
  refine r_putI C hw (kx1 _) fX4_56 rfl rfl (Or.inl rfl) dX4_advance_57 (fun H locs hw => ?_)
  refine lt_gen (P := fun g => WS D cA ev hr ad A (KX ++ tl) s H locs g) h hw (fun g_7 h hw => ?_)
  refine lv_aload_n C.1.1 C.1.2.1 dX4_advance_60 rfl (lv_at hl 0 rfl) ?_
  refine r_getI C hw (kx1 _) fX4_50 rfl dX4_advance_61 ?_
  refine lv_aload_n C.1.1 C.1.2.1 dX4_advance_64 rfl (lv_at hl 0 rfl) ?_
  refine r_getI C hw (kx1 _) fX4_43 rfl dX4_advance_65 ?_
  refine lv_icmp_ge (tgt := 87) C.1.1 C.1.2.1 dX4_advance_68 (by decide) (fun hc => ?_) (fun hc => ?_)
  · replace h := ite_pos' h hc
    refine lv_iconst (v := (-1)) C.1.1 C.1.2.1 dX4_advance_87 (by decide) ?_
    exact w_X4_advance_88 C hx hw hl h
  · replace h := ite_neg' h hc
    refine lv_aload_n C.1.1 C.1.2.1 dX4_advance_71 rfl (lv_at hl 0 rfl) ?_
    refine r_getR (v := .ref (ad 2)) C hw (kx1 _) fX4_9 rfl (hx1_0 hx) dX4_advance_72 ?_
    refine lv_aload_n C.1.1 C.1.2.1 dX4_advance_75 rfl (lv_at hl 0 rfl) ?_
    refine r_getI C hw (kx1 _) fX4_50 rfl dX4_advance_76 ?_
    obtain ⟨hz, h⟩ := ck_some h
    refine r_bald C hw (kx2 _) (inB_in hz) dX4_advance_79 ?_
    refine lv_sipush (v := 255) C.1.1 C.1.2.1 dX4_advance_80 (by decide) ?_
    refine lv_iand C.1.1 C.1.2.1 dX4_advance_83 ?_
    refine lv_goto (tgt := 88) C.1.1 C.1.2.1 dX4_advance_84 (by decide) ?_
    exact w_X4_advance_88 C hx hw hl h
set_option maxHeartbeats 4000000 in
set_option maxRecDepth 100000 in
theorem w_X4_advance_39 {g : GM} {gz : GM} (kb0 : GM → Option (GM)) (hk0 : ∀ (g : GM) (H : Heap) (locs : List Loc) (ls : Array Slot), WS D cA ev hr ad A (KX ++ tl) s H locs g → lv_has ls 2 [(0, .ref (ad 1))] → kb0 g = some gz → W p l e (RM 8 0 0) s m args below meth c H locs 0 0 (MQ below (QV D cA ev hr ad A (KX ++ tl) gz) args s 0 0 A) (F0 m 0 ls [])) (C : CX p s m args meth c RX4 yX4_advance cX4_advance 2 none D cA) (hx : HX hr ad) {H : Heap} {locs : List Loc} (hw : WS D cA ev hr ad A (KX ++ tl) s H locs g) {ls : Array Slot} (hl : lv_has ls 2 [(0, .ref (ad 1))]) (h : F_X4_advance_39 kb0 g = some gz) : W p l e (RM 8 0 0) s m args below meth c H locs 0 0 (MQ below (QV D cA ev hr ad A (KX ++ tl) gz) args s 0 0 A) (F0 m 39 ls []) := by
  refine lv_aload_n C.1.1 C.1.2.1 dX4_advance_39 rfl (lv_at hl 0 rfl) ?_
  refine lv_dup C.1.1 C.1.2.1 dX4_advance_40 rfl ?_
  refine r_getI C hw (kx1 _) fX4_50 rfl dX4_advance_41 ?_
  refine lv_iconst (v := 1) C.1.1 C.1.2.1 dX4_advance_44 (by decide) ?_
  refine lv_iadd C.1.1 C.1.2.1 dX4_advance_45 ?_
  refine r_putI C hw (kx1 _) fX4_50 rfl rfl (Or.inl rfl) dX4_advance_46 (fun H locs hw => ?_)
  refine lt_gen (P := fun g => WS D cA ev hr ad A (KX ++ tl) s H locs g) h hw (fun g_8 h hw => ?_)
  refine lv_goto (tgt := 0) C.1.1 C.1.2.1 dX4_advance_49 (by decide) ?_
  exact hk0 _ _ _ _ hw hl h
set_option maxHeartbeats 4000000 in
set_option maxRecDepth 100000 in
theorem w_X4_advance_0 {gz : GM} (kb0 : GM → Option (GM)) (hk0 : ∀ (g : GM) (H : Heap) (locs : List Loc) (ls : Array Slot), WS D cA ev hr ad A (KX ++ tl) s H locs g → lv_has ls 2 [(0, .ref (ad 1))] → kb0 g = some gz → W p l e (RM 8 0 0) s m args below meth c H locs 0 0 (MQ below (QV D cA ev hr ad A (KX ++ tl) gz) args s 0 0 A) (F0 m 0 ls [])) (C : CX p s m args meth c RX4 yX4_advance cX4_advance 2 none D cA) (hx : HX hr ad) {H : Heap} {locs : List Loc} {g : GM} (hw : WS D cA ev hr ad A (KX ++ tl) s H locs g) {ls : Array Slot} (hl : lv_has ls 2 [(0, .ref (ad 1))]) (h : F_X4_advance_0B kb0 g = some gz) : W p l e (RM 8 0 0) s m args below meth c H locs 0 0 (MQ below (QV D cA ev hr ad A (KX ++ tl) gz) args s 0 0 A) (F0 m 0 ls []) := by
  refine lv_aload_n C.1.1 C.1.2.1 dX4_advance_0 rfl (lv_at hl 0 rfl) ?_
  refine r_getI C hw (kx1 _) fX4_50 rfl dX4_advance_1 ?_
  refine lv_aload_n C.1.1 C.1.2.1 dX4_advance_4 rfl (lv_at hl 0 rfl) ?_
  refine r_getI C hw (kx1 _) fX4_43 rfl dX4_advance_5 ?_
  refine lv_icmp_ge (tgt := 52) C.1.1 C.1.2.1 dX4_advance_8 (by decide) (fun hc => ?_) (fun hc => ?_)
  · replace h := ite_pos' h hc
    exact w_X4_advance_52 C hx hw hl h
  · replace h := ite_neg' h hc
    refine lv_aload_n C.1.1 C.1.2.1 dX4_advance_11 rfl (lv_at hl 0 rfl) ?_
    refine r_getR (v := .ref (ad 2)) C hw (kx1 _) fX4_9 rfl (hx1_0 hx) dX4_advance_12 ?_
    refine lv_aload_n C.1.1 C.1.2.1 dX4_advance_15 rfl (lv_at hl 0 rfl) ?_
    refine r_getI C hw (kx1 _) fX4_50 rfl dX4_advance_16 ?_
    obtain ⟨hz, h⟩ := ck_some h
    refine r_bald C hw (kx2 _) (inB_in hz) dX4_advance_19 ?_
    refine lv_bipush (v := 32) C.1.1 C.1.2.1 dX4_advance_20 (by decide) ?_
    refine lv_icmp_eq (tgt := 39) C.1.1 C.1.2.1 dX4_advance_22 (by decide) (fun hc => ?_) (fun hc => ?_)
    · replace h := ite_pos' h hc
      exact w_X4_advance_39 kb0 hk0 C hx hw hl h
    · replace h := ite_neg' h hc
      refine lv_aload_n C.1.1 C.1.2.1 dX4_advance_25 rfl (lv_at hl 0 rfl) ?_
      refine r_getR (v := .ref (ad 2)) C hw (kx1 _) fX4_9 rfl (hx1_0 hx) dX4_advance_26 ?_
      refine lv_aload_n C.1.1 C.1.2.1 dX4_advance_29 rfl (lv_at hl 0 rfl) ?_
      refine r_getI C hw (kx1 _) fX4_50 rfl dX4_advance_30 ?_
      obtain ⟨hz, h⟩ := ck_some h
      refine r_bald C hw (kx2 _) (inB_in hz) dX4_advance_33 ?_
      refine lv_bipush (v := 10) C.1.1 C.1.2.1 dX4_advance_34 (by decide) ?_
      refine lv_icmp_ne (tgt := 52) C.1.1 C.1.2.1 dX4_advance_36 (by decide) (fun hc => ?_) (fun hc => ?_)
      · replace h := ite_neg' h hc
        exact w_X4_advance_52 C hx hw hl h
      · replace h := ite_pos' h hc
        exact w_X4_advance_39 kb0 hk0 C hx hw hl h
set_option maxHeartbeats 4000000 in
set_option maxRecDepth 100000 in
theorem w_X4_advance_0L {gz : GM} (C : CX p s m args meth c RX4 yX4_advance cX4_advance 2 none D cA) (hx : HX hr ad) : ∀ (n : Nat) (g : GM) (H : Heap) (locs : List Loc) (ls : Array Slot), WS D cA ev hr ad A (KX ++ tl) s H locs g → lv_has ls 2 [(0, .ref (ad 1))] → fixN (F_X4_advance_0B) n g = some gz → W p l e (RM 8 0 0) s m args below meth c H locs 0 0 (MQ below (QV D cA ev hr ad A (KX ++ tl) gz) args s 0 0 A) (F0 m 0 ls []) := by
  intro n
  induction n with
  | zero => intro g H locs ls hw hl h; exact (fix_zero h).elim
  | succ n ih => intro g H locs ls hw hl h; exact w_X4_advance_0 (fixN (F_X4_advance_0B) n) ih C hx hw hl h
set_option maxHeartbeats 4000000 in
set_option maxRecDepth 100000 in
theorem w_X4_advance_e (C : CX p s m args meth c RX4 yX4_advance cX4_advance 2 none D cA) (hx : HX hr ad) {H : Heap} {locs : List Loc} {g : GM} (hw : WS D cA ev hr ad A (KX ++ tl) s H locs g) {ls : Array Slot} (hl : lv_has ls 2 [(0, .ref (ad 1))]) {gz : GM} (h : F_X4_advance g = some gz) : W p l e (RM 8 0 0) s m args below meth c H locs 0 0 (MQ below (QV D cA ev hr ad A (KX ++ tl) gz) args s 0 0 A) (F0 m 0 ls []) := by
  exact w_X4_advance_0L C hx FU _ _ _ _ hw hl h
set_option maxHeartbeats 4000000 in
set_option maxRecDepth 100000 in
theorem c_X4_advance (hx : HX hr ad) {g : GM} {gz : GM} (h : F_X4_advance g = some gz) (sz : Nat) : Met l yX4_advance (WSX yX4_advance cX4_advance 2 none) (RM 8 0 0) (va_Pc [.ref (ad 1)] (PX D cA ev hr ad (KX ++ tl) g sz)) (QV D cA ev hr ad (AX ad (KX ++ tl).length sz) (KX ++ tl) gz) 0 0 (AX ad (KX ++ tl).length sz) :=
  met_of (own := RX4) pnX4 rfl (Nat.le_of_ble_eq_true rfl) (fun p e s m below meth c ls C hw hsz hl => w_X4_advance_e C hx hw hl h)
set_option maxHeartbeats 4000000 in
set_option maxRecDepth 100000 in
theorem w_X4_open_12 {s0 : Int32} {g : GM} {gz : GM} (C : CX p s m args meth c RX4 yX4_open cX4_open 2 none D cA) (hx : HX hr ad) {H : Heap} {locs : List Loc} (hw : WS D cA ev hr ad A (KX ++ tl) s H locs g) {ls : Array Slot} (hl : lv_has ls 2 [(0, .ref (ad 1))]) (h : F_X4_open_12 s0 g = some gz) : W p l e (RM 9 0 0) s m args below meth c H locs 0 0 (MQ below (QV D cA ev hr ad A (KX ++ tl) gz) args s 0 0 A) (F0 m 12 ls [svK ev s0, .ref (ad 1)]) := by
  obtain ⟨hz, h⟩ := ck_some h
  refine r_putSg C hw (kx1 _) fX4_21 rfl (nz_of hz) (Or.inl rfl) dX4_open_12 (fun H locs hw => ?_)
  refine lt_gen (P := fun g => WS D cA ev hr ad A (KX ++ tl) s H locs g) h hw (fun g_1 h hw => ?_)
  refine lv_aload_n C.1.1 C.1.2.1 dX4_open_15 rfl (lv_at hl 0 rfl) ?_
  refine lv_iconst (v := 0) C.1.1 C.1.2.1 dX4_open_16 (by decide) ?_
  refine r_putI C hw (kx1 _) fX4_47 rfl rfl (Or.inl rfl) dX4_open_17 (fun H locs hw => ?_)
  refine lt_gen (P := fun g => WS D cA ev hr ad A (KX ++ tl) s H locs g) h hw (fun g_2 h hw => ?_)
  refine lv_aload_n C.1.1 C.1.2.1 dX4_open_20 rfl (lv_at hl 0 rfl) ?_
  refine lv_iconst (v := (-1)) C.1.1 C.1.2.1 dX4_open_21 (by decide) ?_
  refine r_putI C hw (kx1 _) fX4_25 rfl rfl (Or.inl rfl) dX4_open_22 (fun H locs hw => ?_)
  refine lt_gen (P := fun g => WS D cA ev hr ad A (KX ++ tl) s H locs g) h hw (fun g_3 h hw => ?_)
  refine lv_aload_n C.1.1 C.1.2.1 dX4_open_25 rfl (lv_at hl 0 rfl) ?_
  refine lv_iconst (v := 0) C.1.1 C.1.2.1 dX4_open_26 (by decide) ?_
  refine r_putI C hw (kx1 _) fX4_50 rfl rfl (Or.inl rfl) dX4_open_27 (fun H locs hw => ?_)
  refine lt_gen (P := fun g => WS D cA ev hr ad A (KX ++ tl) s H locs g) h hw (fun g_4 h hw => ?_)
  refine lv_aload_n C.1.1 C.1.2.1 dX4_open_30 rfl (lv_at hl 0 rfl) ?_
  obtain ⟨g_5, hc, h⟩ := bnd_some h
  refine r_vV (dc := 8) (As := []) (rest := []) C hw vX4_53 (kx1 _) (by decide) rfl (fun sz => c_X4_advance hx hc sz) (by decide) rfl rfl hl.1 (Nat.le_of_ble_eq_true rfl) dX4_open_31 ⟨Nat.le_refl _, Nat.le_refl _⟩ (fun H locs hw => ?_)
  cases h
  exact r_vret C hw rfl dX4_open_34
set_option maxHeartbeats 4000000 in
set_option maxRecDepth 100000 in
theorem w_X4_open_0 (C : CX p s m args meth c RX4 yX4_open cX4_open 2 none D cA) (hx : HX hr ad) {H : Heap} {locs : List Loc} {g : GM} (hw : WS D cA ev hr ad A (KX ++ tl) s H locs g) {a1 : Int32} {ls : Array Slot} (hl : lv_has ls 2 [(0, .ref (ad 1)), (1, .int a1)]) {gz : GM} (h : F_X4_open a1 g = some gz) : W p l e (RM 9 0 0) s m args below meth c H locs 0 0 (MQ below (QV D cA ev hr ad A (KX ++ tl) gz) args s 0 0 A) (F0 m 0 ls []) := by
  refine lv_aload_n C.1.1 C.1.2.1 dX4_open_0 rfl (lv_at hl 0 rfl) ?_
  refine lv_iload_n C.1.1 C.1.2.1 dX4_open_1 rfl (lv_at hl 1 rfl) ?_
  refine lv_if_eq (tgt := 10) C.1.1 C.1.2.1 dX4_open_2 (by decide) (fun hc => ?_) (fun hc => ?_)
  · replace h := ite_pos' h hc
    refine r_ldS1 C hw dX4_open_10 ?_
    exact w_X4_open_12 C hx hw (lv_sub hl [0] rfl) h
  · replace h := ite_neg' h hc
    refine r_ldS2 C hw dX4_open_5 ?_
    refine lv_goto (tgt := 12) C.1.1 C.1.2.1 dX4_open_7 (by decide) ?_
    exact w_X4_open_12 C hx hw (lv_sub hl [0] rfl) h
set_option maxHeartbeats 4000000 in
set_option maxRecDepth 100000 in
theorem c_X4_open (hx : HX hr ad) {a1 : Int32} {g : GM} {gz : GM} (h : F_X4_open a1 g = some gz) (sz : Nat) : Met l yX4_open (WSX yX4_open cX4_open 2 none) (RM 9 0 0) (va_Pc [.ref (ad 1), .int a1] (PX D cA ev hr ad (KX ++ tl) g sz)) (QV D cA ev hr ad (AX ad (KX ++ tl).length sz) (KX ++ tl) gz) 0 0 (AX ad (KX ++ tl).length sz) :=
  met_of (own := RX4) pnX4 rfl (Nat.le_of_ble_eq_true rfl) (fun p e s m below meth c ls C hw hsz hl => w_X4_open_0 C hx hw hl h)
set_option maxHeartbeats 4000000 in
set_option maxRecDepth 100000 in
theorem w_X2_tableNamed_p_2 {x1 : Int64} {g : GM} {r : Int32} (kb2 : Int32 → Option (Int32)) (hk2 : ∀ (x3 : Int32) (H : Heap) (locs : List Loc) (ls : Array Slot), WS D cA ev hr ad A (KX ++ tl) s H locs g → lv_has ls 4 [(0, .ref (ad 17)), (1, .long x1), (3, .int x3)] → kb2 x3 = some r → W p l e (RM 1 0 0) s m args below meth c H locs 0 0 (MQ below (QI D cA ev hr ad A (KX ++ tl) r g) args s 0 0 A) (F0 m 2 ls [])) (C : CX p s m args meth c RX2 yX2_tableNamed cX2_tableNamed 4 (some .int) D cA) (hx : HX hr ad) {H : Heap} {locs : List Loc} {x3 : Int32} (hw : WS D cA ev hr ad A (KX ++ tl) s H locs g) {ls : Array Slot} (hl : lv_has ls 4 [(0, .ref (ad 17)), (1, .long x1), (3, .int x3)]) (h : F_X2_tableNamed_p_2B x1 g kb2 x3 = some r) : W p l e (RM 1 0 0) s m args below meth c H locs 0 0 (MQ below (QI D cA ev hr ad A (KX ++ tl) r g) args s 0 0 A) (F0 m 2 ls []) := by
  refine lv_iload_n C.1.1 C.1.2.1 dX2_tableNamed_2 rfl (lv_at hl 2 rfl) ?_
  refine lv_aload_n C.1.1 C.1.2.1 dX2_tableNamed_3 rfl (lv_at hl 0 rfl) ?_
  refine r_getI C hw (kx17 _) fX2_43 rfl dX2_tableNamed_4 ?_
  refine lv_icmp_ge (tgt := 29) C.1.1 C.1.2.1 dX2_tableNamed_7 (by decide) (fun hc => ?_) (fun hc => ?_)
  · replace h := ite_pos' h hc
    refine lv_iconst (v := (-1)) C.1.1 C.1.2.1 dX2_tableNamed_29 (by decide) ?_
    cases h
    exact r_iret C hw (Or.inl rfl) dX2_tableNamed_30
  · replace h := ite_neg' h hc
    refine lv_aload_n C.1.1 C.1.2.1 dX2_tableNamed_10 rfl (lv_at hl 0 rfl) ?_
    refine r_getR (v := .ref (ad 18)) C hw (kx17 _) fX2_9 rfl (hx17_1 hx) dX2_tableNamed_11 ?_
    refine lv_iload_n C.1.1 C.1.2.1 dX2_tableNamed_14 rfl (lv_at hl 2 rfl) ?_
    obtain ⟨hz, h⟩ := ck_some h
    refine r_lald C hw (kx18 _) (inB_in hz) dX2_tableNamed_15 ?_
    refine lv_lload_n C.1.1 C.1.2.1 dX2_tableNamed_16 rfl (lv_at hl 1 rfl) ?_
    refine W.lcmp C.1.1 C.1.2.1 dX2_tableNamed_17 ?_
    refine lv_if_ne (tgt := 23) C.1.1 C.1.2.1 dX2_tableNamed_18 (by decide) (fun hc => ?_) (fun hc => ?_)
    · replace h := ite_neg' h hc
      refine lv_iinc (v := x3 + 1) (lv' := [(3, .int (x3 + 1)), (0, .ref (ad 17)), (1, .long x1)]) C.1.1 C.1.2.1 dX2_tableNamed_23 hl (k := 2) rfl rfl (by decide) rfl (fun ls hl => ?_)
      refine lt_gen (P := fun x => lv_has ls 4 [(3, .int x), (0, .ref (ad 17)), (1, .long x1)]) h hl (fun x3_1 h hl => ?_)
      refine lv_goto (tgt := 2) C.1.1 C.1.2.1 dX2_tableNamed_26 (by decide) ?_
      exact hk2 _ _ _ _ hw (lv_sub hl [1, 2, 0] rfl) h
    · replace h := ite_pos' h hc
      refine lv_iload_n C.1.1 C.1.2.1 dX2_tableNamed_21 rfl (lv_at hl 2 rfl) ?_
      cases h
      exact r_iret C hw (Or.inl rfl) dX2_tableNamed_22
set_option maxHeartbeats 4000000 in
set_option maxRecDepth 100000 in
theorem w_X2_tableNamed_p_2L {x1 : Int64} {g : GM} {r : Int32} (C : CX p s m args meth c RX2 yX2_tableNamed cX2_tableNamed 4 (some .int) D cA) (hx : HX hr ad) : ∀ (n : Nat) (x3 : Int32) (H : Heap) (locs : List Loc) (ls : Array Slot), WS D cA ev hr ad A (KX ++ tl) s H locs g → lv_has ls 4 [(0, .ref (ad 17)), (1, .long x1), (3, .int x3)] → fixN (F_X2_tableNamed_p_2B x1 g) n x3 = some r → W p l e (RM 1 0 0) s m args below meth c H locs 0 0 (MQ below (QI D cA ev hr ad A (KX ++ tl) r g) args s 0 0 A) (F0 m 2 ls []) := by
  intro n
  induction n with
  | zero => intro x3 H locs ls hw hl h; exact (fix_zero h).elim
  | succ n ih => intro x3 H locs ls hw hl h; exact w_X2_tableNamed_p_2 (fixN (F_X2_tableNamed_p_2B x1 g) n) ih C hx hw hl h
set_option maxHeartbeats 4000000 in
set_option maxRecDepth 100000 in
theorem w_X2_tableNamed_p_0 (C : CX p s m args meth c RX2 yX2_tableNamed cX2_tableNamed 4 (some .int) D cA) (hx : HX hr ad) {H : Heap} {locs : List Loc} {g : GM} (hw : WS D cA ev hr ad A (KX ++ tl) s H locs g) {a1 : Int64} {ls : Array Slot} (hl : lv_has ls 4 [(0, .ref (ad 17)), (1, .long a1)]) {r : Int32} (h : F_X2_tableNamed_p a1 g = some r) : W p l e (RM 1 0 0) s m args below meth c H locs 0 0 (MQ below (QI D cA ev hr ad A (KX ++ tl) r g) args s 0 0 A) (F0 m 0 ls []) := by
  refine lv_iconst (v := 0) C.1.1 C.1.2.1 dX2_tableNamed_0 (by decide) ?_
  refine lv_istore_n (lv' := [(3, .int 0), (0, .ref (ad 17)), (1, .long a1)]) C.1.1 C.1.2.1 dX2_tableNamed_1 rfl hl (by decide) rfl (fun ls hl => ?_)
  exact w_X2_tableNamed_p_2L C hx FU _ _ _ _ hw (lv_sub hl [1, 2, 0] rfl) h
set_option maxHeartbeats 4000000 in
set_option maxRecDepth 100000 in
theorem c_X2_tableNamed_p (hx : HX hr ad) {a1 : Int64} {g : GM} {r : Int32} (h : F_X2_tableNamed_p a1 g = some r) (sz : Nat) : Met l yX2_tableNamed (WSX yX2_tableNamed cX2_tableNamed 4 (some .int)) (RM 1 0 0) (va_Pc [.ref (ad 17), .long a1] (PX D cA ev hr ad (KX ++ tl) g sz)) (QI D cA ev hr ad (AX ad (KX ++ tl).length sz) (KX ++ tl) r g) 0 0 (AX ad (KX ++ tl).length sz) :=
  met_of (own := RX2) pnX2 rfl (Nat.le_of_ble_eq_true rfl) (fun p e s m below meth c ls C hw hsz hl => w_X2_tableNamed_p_0 C hx hw hl h)
set_option maxHeartbeats 4000000 in
set_option maxRecDepth 100000 in
theorem w_X4_refuse_0 (C : CX p s m args meth c RX4 yX4_refuse cX4_refuse 3 none D cA) (hx : HX hr ad) {H : Heap} {locs : List Loc} {g : GM} (hw : WS D cA ev hr ad A (KX ++ tl) s H locs g) {a1 : Int32} {a2 : Int32} {ls : Array Slot} (hl : lv_has ls 3 [(0, .ref (ad 1)), (1, .int a1), (2, .int a2)]) {gz : GM} (h : F_X4_refuse a1 a2 g = some gz) : W p l e (RM 1 0 0) s m args below meth c H locs 0 0 (MQ below (QV D cA ev hr ad A (KX ++ tl) gz) args s 0 0 A) (F0 m 0 ls []) := by
  refine lv_aload_n C.1.1 C.1.2.1 dX4_refuse_0 rfl (lv_at hl 0 rfl) ?_
  refine r_getI C hw (kx1 _) fX4_47 rfl dX4_refuse_1 ?_
  refine lv_if_ne (tgt := 17) C.1.1 C.1.2.1 dX4_refuse_4 (by decide) (fun hc => ?_) (fun hc => ?_)
  · replace h := ite_neg' h hc
    cases h
    exact r_vret C hw rfl dX4_refuse_17
  · replace h := ite_pos' h hc
    refine lv_aload_n C.1.1 C.1.2.1 dX4_refuse_7 rfl (lv_at hl 0 rfl) ?_
    refine lv_iload_n C.1.1 C.1.2.1 dX4_refuse_8 rfl (lv_at hl 1 rfl) ?_
    refine r_putI C hw (kx1 _) fX4_47 rfl rfl (Or.inl rfl) dX4_refuse_9 (fun H locs hw => ?_)
    refine lt_gen (P := fun g => WS D cA ev hr ad A (KX ++ tl) s H locs g) h hw (fun g_1 h hw => ?_)
    refine lv_aload_n C.1.1 C.1.2.1 dX4_refuse_12 rfl (lv_at hl 0 rfl) ?_
    refine lv_iload_n C.1.1 C.1.2.1 dX4_refuse_13 rfl (lv_at hl 2 rfl) ?_
    refine r_putI C hw (kx1 _) fX4_25 rfl rfl (Or.inl rfl) dX4_refuse_14 (fun H locs hw => ?_)
    refine lt_gen (P := fun g => WS D cA ev hr ad A (KX ++ tl) s H locs g) h hw (fun g_2 h hw => ?_)
    cases h
    exact r_vret C hw rfl dX4_refuse_17
set_option maxHeartbeats 4000000 in
set_option maxRecDepth 100000 in
theorem c_X4_refuse (hx : HX hr ad) {a1 : Int32} {a2 : Int32} {g : GM} {gz : GM} (h : F_X4_refuse a1 a2 g = some gz) (sz : Nat) : Met l yX4_refuse (WSX yX4_refuse cX4_refuse 3 none) (RM 1 0 0) (va_Pc [.ref (ad 1), .int a1, .int a2] (PX D cA ev hr ad (KX ++ tl) g sz)) (QV D cA ev hr ad (AX ad (KX ++ tl).length sz) (KX ++ tl) gz) 0 0 (AX ad (KX ++ tl).length sz) :=
  met_of (own := RX4) pnX4 rfl (Nat.le_of_ble_eq_true rfl) (fun p e s m below meth c ls C hw hsz hl => w_X4_refuse_0 C hx hw hl h)
set_option maxHeartbeats 4000000 in
set_option maxRecDepth 100000 in
theorem w_X4_refuseToken_14 {s0 : Int32} {g : GM} {gz : GM} (C : CX p s m args meth c RX4 yX4_refuseToken cX4_refuseToken 1 none D cA) (hx : HX hr ad) {H : Heap} {locs : List Loc} (hw : WS D cA ev hr ad A (KX ++ tl) s H locs g) {ls : Array Slot} (hl : lv_has ls 1 [(0, .ref (ad 1))]) (h : F_X4_refuseToken_14 s0 g = some gz) : W p l e (RM 2 0 0) s m args below meth c H locs 0 0 (MQ below (QV D cA ev hr ad A (KX ++ tl) gz) args s 0 0 A) (F0 m 14 ls [.int s0, .ref (ad 1)]) := by
  refine lv_aload_n C.1.1 C.1.2.1 dX4_refuseToken_14 rfl (lv_at hl 0 rfl) ?_
  refine r_getI C hw (kx1 _) fX4_56 rfl dX4_refuseToken_15 ?_
  obtain ⟨g_1, hc, h⟩ := bnd_some h
  refine r_vV (dc := 1) (As := [.int s0, .int (gi g 1 6)]) (rest := []) C hw vX4_72 (kx1 _) (by decide) rfl (fun sz => c_X4_refuse hx hc sz) (by decide) rfl rfl hl.1 (Nat.le_of_ble_eq_true rfl) dX4_refuseToken_18 ⟨Nat.le_refl _, Nat.le_refl _⟩ (fun H locs hw => ?_)
  cases h
  exact r_vret C hw rfl dX4_refuseToken_21
set_option maxHeartbeats 4000000 in
set_option maxRecDepth 100000 in
theorem w_X4_refuseToken_0 (C : CX p s m args meth c RX4 yX4_refuseToken cX4_refuseToken 1 none D cA) (hx : HX hr ad) {H : Heap} {locs : List Loc} {g : GM} (hw : WS D cA ev hr ad A (KX ++ tl) s H locs g) {ls : Array Slot} (hl : lv_has ls 1 [(0, .ref (ad 1))]) {gz : GM} (h : F_X4_refuseToken g = some gz) : W p l e (RM 2 0 0) s m args below meth c H locs 0 0 (MQ below (QV D cA ev hr ad A (KX ++ tl) gz) args s 0 0 A) (F0 m 0 ls []) := by
  refine lv_aload_n C.1.1 C.1.2.1 dX4_refuseToken_0 rfl (lv_at hl 0 rfl) ?_
  refine lv_aload_n C.1.1 C.1.2.1 dX4_refuseToken_1 rfl (lv_at hl 0 rfl) ?_
  refine r_getI C hw (kx1 _) fX4_59 rfl dX4_refuseToken_2 ?_
  refine lv_iconst (v := 1) C.1.1 C.1.2.1 dX4_refuseToken_5 (by decide) ?_
  refine lv_icmp_ne (tgt := 13) C.1.1 C.1.2.1 dX4_refuseToken_6 (by decide) (fun hc => ?_) (fun hc => ?_)
  · replace h := ite_neg' h hc
    refine lv_iconst (v := 2) C.1.1 C.1.2.1 dX4_refuseToken_13 (by decide) ?_
    exact w_X4_refuseToken_14 C hx hw hl h
  · replace h := ite_pos' h hc
    refine lv_iconst (v := 1) C.1.1 C.1.2.1 dX4_refuseToken_9 (by decide) ?_
    refine lv_goto (tgt := 14) C.1.1 C.1.2.1 dX4_refuseToken_10 (by decide) ?_
    exact w_X4_refuseToken_14 C hx hw hl h
set_option maxHeartbeats 4000000 in
set_option maxRecDepth 100000 in
theorem c_X4_refuseToken (hx : HX hr ad) {g : GM} {gz : GM} (h : F_X4_refuseToken g = some gz) (sz : Nat) : Met l yX4_refuseToken (WSX yX4_refuseToken cX4_refuseToken 1 none) (RM 2 0 0) (va_Pc [.ref (ad 1)] (PX D cA ev hr ad (KX ++ tl) g sz)) (QV D cA ev hr ad (AX ad (KX ++ tl).length sz) (KX ++ tl) gz) 0 0 (AX ad (KX ++ tl).length sz) :=
  met_of (own := RX4) pnX4 rfl (Nat.le_of_ble_eq_true rfl) (fun p e s m below meth c ls C hw hsz hl => w_X4_refuseToken_0 C hx hw hl h)
set_option maxHeartbeats 4000000 in
set_option maxRecDepth 100000 in
theorem w_X4_take_0 (C : CX p s m args meth c RX4 yX4_take cX4_take 2 (some .boolean) D cA) (hx : HX hr ad) {H : Heap} {locs : List Loc} {g : GM} (hw : WS D cA ev hr ad A (KX ++ tl) s H locs g) {a1 : Int32} {ls : Array Slot} (hl : lv_has ls 2 [(0, .ref (ad 1)), (1, .int a1)]) {r : Int32} {gz : GM} (h : F_X4_take a1 g = some (r, gz)) : W p l e (RM 9 0 0) s m args below meth c H locs 0 0 (MQ below (QI D cA ev hr ad A (KX ++ tl) r gz) args s 0 0 A) (F0 m 0 ls []) := by
  refine lv_aload_n C.1.1 C.1.2.1 dX4_take_0 rfl (lv_at hl 0 rfl) ?_
  refine r_getI C hw (kx1 _) fX4_47 rfl dX4_take_1 ?_
  refine lv_if_eq (tgt := 9) C.1.1 C.1.2.1 dX4_take_4 (by decide) (fun hc => ?_) (fun hc => ?_)
  · replace h := ite_pos' h hc
    refine lv_aload_n C.1.1 C.1.2.1 dX4_take_9 rfl (lv_at hl 0 rfl) ?_
    refine r_getI C hw (kx1 _) fX4_59 rfl dX4_take_10 ?_
    refine lv_iload_n C.1.1 C.1.2.1 dX4_take_13 rfl (lv_at hl 1 rfl) ?_
    refine lv_icmp_eq (tgt := 23) C.1.1 C.1.2.1 dX4_take_14 (by decide) (fun hc => ?_) (fun hc => ?_)
    · replace h := ite_pos' h hc
      refine lv_aload_n C.1.1 C.1.2.1 dX4_take_23 rfl (lv_at hl 0 rfl) ?_
      obtain ⟨g_1, hc, h⟩ := bnd_some h
      refine r_vV (dc := 8) (As := []) (rest := []) C hw vX4_53 (kx1 _) (by decide) rfl (fun sz => c_X4_advance hx hc sz) (by decide) rfl rfl hl.1 (Nat.le_of_ble_eq_true rfl) dX4_take_24 ⟨Nat.le_refl _, Nat.le_refl _⟩ (fun H locs hw => ?_)
      refine lv_iconst (v := 1) C.1.1 C.1.2.1 dX4_take_27 (by decide) ?_
      cases h
      exact r_iret C hw (Or.inr ⟨rfl, Or.inr rfl⟩) dX4_take_28
    · replace h := ite_neg' h hc
      refine lv_aload_n C.1.1 C.1.2.1 dX4_take_17 rfl (lv_at hl 0 rfl) ?_
      obtain ⟨g_2, hc, h⟩ := bnd_some h
      refine r_vV (dc := 2) (As := []) (rest := []) C hw vX4_76 (kx1 _) (by decide) rfl (fun sz => c_X4_refuseToken hx hc sz) (by decide) rfl rfl hl.1 (Nat.le_of_ble_eq_true rfl) dX4_take_18 ⟨Nat.le_refl _, Nat.le_refl _⟩ (fun H locs hw => ?_)
      refine lv_iconst (v := 0) C.1.1 C.1.2.1 dX4_take_21 (by decide) ?_
      cases h
      exact r_iret C hw (Or.inr ⟨rfl, Or.inl rfl⟩) dX4_take_22
  · replace h := ite_neg' h hc
    refine lv_iconst (v := 0) C.1.1 C.1.2.1 dX4_take_7 (by decide) ?_
    cases h
    exact r_iret C hw (Or.inr ⟨rfl, Or.inl rfl⟩) dX4_take_8
set_option maxHeartbeats 4000000 in
set_option maxRecDepth 100000 in
theorem c_X4_take (hx : HX hr ad) {a1 : Int32} {g : GM} {r : Int32} {gz : GM} (h : F_X4_take a1 g = some (r, gz)) (sz : Nat) : Met l yX4_take (WSX yX4_take cX4_take 2 (some .boolean)) (RM 9 0 0) (va_Pc [.ref (ad 1), .int a1] (PX D cA ev hr ad (KX ++ tl) g sz)) (QI D cA ev hr ad (AX ad (KX ++ tl).length sz) (KX ++ tl) r gz) 0 0 (AX ad (KX ++ tl).length sz) :=
  met_of (own := RX4) pnX4 rfl (Nat.le_of_ble_eq_true rfl) (fun p e s m below meth c ls C hw hsz hl => w_X4_take_0 C hx hw hl h)
set_option maxHeartbeats 4000000 in
set_option maxRecDepth 100000 in
theorem w_X2_hasColumn_p_30 {g : GM} {r : Int32} (C : CX p s m args meth c RX2 yX2_hasColumn cX2_hasColumn 3 (some .boolean) D cA) (hx : HX hr ad) {H : Heap} {locs : List Loc} (hw : WS D cA ev hr ad A (KX ++ tl) s H locs g) {ls : Array Slot} (hl : lv_has ls 3 []) (h : F_X2_hasColumn_p_30 g = some r) : W p l e (RM 1 0 0) s m args below meth c H locs 0 0 (MQ below (QI D cA ev hr ad A (KX ++ tl) r g) args s 0 0 A) (F0 m 30 ls []) := by
  refine lv_iconst (v := 0) C.1.1 C.1.2.1 dX2_hasColumn_30 (by decide) ?_
  cases h
  exact r_iret C hw (Or.inr ⟨rfl, Or.inl rfl⟩) dX2_hasColumn_31
set_option maxHeartbeats 4000000 in
set_option maxRecDepth 100000 in
theorem w_X2_hasColumn_p_0 (C : CX p s m args meth c RX2 yX2_hasColumn cX2_hasColumn 3 (some .boolean) D cA) (hx : HX hr ad) {H : Heap} {locs : List Loc} {g : GM} (hw : WS D cA ev hr ad A (KX ++ tl) s H locs g) {a1 : Int32} {a2 : Int32} {ls : Array Slot} (hl : lv_has ls 3 [(0, .ref (ad 17)), (1, .int a1), (2, .int a2)]) {r : Int32} (h : F_X2_hasColumn_p a1 a2 g = some r) : W p l e (RM 1 0 0) s m args below meth c H locs 0 0 (MQ below (QI D cA ev hr ad A (KX ++ tl) r g) args s 0 0 A) (F0 m 0 ls []) := by
  refine lv_iload_n C.1.1 C.1.2.1 dX2_hasColumn_0 rfl (lv_at hl 1 rfl) ?_
  refine lv_if_lt (tgt := 30) C.1.1 C.1.2.1 dX2_hasColumn_1 (by decide) (fun hc => ?_) (fun hc => ?_)
  · replace h := ite_pos' h hc
    exact w_X2_hasColumn_p_30 C hx hw (lv_sub hl [] rfl) h
  · replace h := ite_neg' h hc
    refine lv_iload_n C.1.1 C.1.2.1 dX2_hasColumn_4 rfl (lv_at hl 1 rfl) ?_
    refine lv_aload_n C.1.1 C.1.2.1 dX2_hasColumn_5 rfl (lv_at hl 0 rfl) ?_
    refine r_getI C hw (kx17 _) fX2_43 rfl dX2_hasColumn_6 ?_
    refine lv_icmp_ge (tgt := 30) C.1.1 C.1.2.1 dX2_hasColumn_9 (by decide) (fun hc => ?_) (fun hc => ?_)
    · replace h := ite_pos' h hc
      exact w_X2_hasColumn_p_30 C hx hw (lv_sub hl [] rfl) h
    · replace h := ite_neg' h hc
      refine lv_iload_n C.1.1 C.1.2.1 dX2_hasColumn_12 rfl (lv_at hl 2 rfl) ?_
      refine lv_if_lt (tgt := 30) C.1.1 C.1.2.1 dX2_hasColumn_13 (by decide) (fun hc => ?_) (fun hc => ?_)
      · replace h := ite_pos' h hc
        exact w_X2_hasColumn_p_30 C hx hw (lv_sub hl [] rfl) h
      · replace h := ite_neg' h hc
        refine lv_iload_n C.1.1 C.1.2.1 dX2_hasColumn_16 rfl (lv_at hl 2 rfl) ?_
        refine lv_aload_n C.1.1 C.1.2.1 dX2_hasColumn_17 rfl (lv_at hl 0 rfl) ?_
        refine r_getR (v := .ref (ad 19)) C hw (kx17 _) fX2_15 rfl (hx17_2 hx) dX2_hasColumn_18 ?_
        refine lv_iload_n C.1.1 C.1.2.1 dX2_hasColumn_21 rfl (lv_at hl 1 rfl) ?_
        obtain ⟨hz, h⟩ := ck_some h
        refine r_iald C hw (kx19 _) (inB_in hz) dX2_hasColumn_22 ?_
        refine lv_icmp_ge (tgt := 30) C.1.1 C.1.2.1 dX2_hasColumn_23 (by decide) (fun hc => ?_) (fun hc => ?_)
        · replace h := ite_pos' h hc
          exact w_X2_hasColumn_p_30 C hx hw (lv_sub hl [] rfl) h
        · replace h := ite_neg' h hc
          refine lv_iconst (v := 1) C.1.1 C.1.2.1 dX2_hasColumn_26 (by decide) ?_
          refine lv_goto (tgt := 31) C.1.1 C.1.2.1 dX2_hasColumn_27 (by decide) ?_
          cases h
          exact r_iret C hw (Or.inr ⟨rfl, Or.inr rfl⟩) dX2_hasColumn_31
set_option maxHeartbeats 4000000 in
set_option maxRecDepth 100000 in
theorem c_X2_hasColumn_p (hx : HX hr ad) {a1 : Int32} {a2 : Int32} {g : GM} {r : Int32} (h : F_X2_hasColumn_p a1 a2 g = some r) (sz : Nat) : Met l yX2_hasColumn (WSX yX2_hasColumn cX2_hasColumn 3 (some .boolean)) (RM 1 0 0) (va_Pc [.ref (ad 17), .int a1, .int a2] (PX D cA ev hr ad (KX ++ tl) g sz)) (QI D cA ev hr ad (AX ad (KX ++ tl).length sz) (KX ++ tl) r g) 0 0 (AX ad (KX ++ tl).length sz) :=
  met_of (own := RX2) pnX2 rfl (Nat.le_of_ble_eq_true rfl) (fun p e s m below meth c ls C hw hsz hl => w_X2_hasColumn_p_0 C hx hw hl h)
set_option maxHeartbeats 4000000 in
set_option maxRecDepth 100000 in
theorem w_X2_columnNamed_p_3 {x1 : Int32} {x2 : Int64} {g : GM} {r : Int32} (kb3 : Int32 → Option (Int32)) (hk3 : ∀ (x4 : Int32) (H : Heap) (locs : List Loc) (ls : Array Slot), WS D cA ev hr ad A (KX ++ tl) s H locs g → lv_has ls 5 [(0, .ref (ad 17)), (1, .int x1), (2, .long x2), (4, .int x4)] → kb3 x4 = some r → W p l e (RM 2 0 0) s m args below meth c H locs 0 0 (MQ below (QI D cA ev hr ad A (KX ++ tl) r g) args s 0 0 A) (F0 m 3 ls [])) (C : CX p s m args meth c RX2 yX2_columnNamed cX2_columnNamed 5 (some .int) D cA) (hx : HX hr ad) {H : Heap} {locs : List Loc} {x4 : Int32} (hw : WS D cA ev hr ad A (KX ++ tl) s H locs g) {ls : Array Slot} (hl : lv_has ls 5 [(0, .ref (ad 17)), (1, .int x1), (2, .long x2), (4, .int x4)]) (h : F_X2_columnNamed_p_3B x1 x2 g kb3 x4 = some r) : W p l e (RM 2 0 0) s m args below meth c H locs 0 0 (MQ below (QI D cA ev hr ad A (KX ++ tl) r g) args s 0 0 A) (F0 m 3 ls []) := by
  refine lv_iload C.1.1 C.1.2.1 dX2_columnNamed_3 (lv_at hl 3 rfl) ?_
  refine lv_iconst (v := 5) C.1.1 C.1.2.1 dX2_columnNamed_5 (by decide) ?_
  refine lv_icmp_ge (tgt := 44) C.1.1 C.1.2.1 dX2_columnNamed_6 (by decide) (fun hc => ?_) (fun hc => ?_)
  · replace h := ite_pos' h hc
    refine lv_iconst (v := (-1)) C.1.1 C.1.2.1 dX2_columnNamed_44 (by decide) ?_
    cases h
    exact r_iret C hw (Or.inl rfl) dX2_columnNamed_45
  · replace h := ite_neg' h hc
    refine lv_aload_n C.1.1 C.1.2.1 dX2_columnNamed_9 rfl (lv_at hl 0 rfl) ?_
    refine lv_iload_n C.1.1 C.1.2.1 dX2_columnNamed_10 rfl (lv_at hl 1 rfl) ?_
    refine lv_iload C.1.1 C.1.2.1 dX2_columnNamed_11 (lv_at hl 3 rfl) ?_
    obtain ⟨r_1, hc, h⟩ := bnd_some h
    refine r_vI (dc := 1) (As := [.int x1, .int x4]) (rest := []) C hw vX2_56 (kx17 _) (by decide) rfl (fun sz => c_X2_hasColumn_p hx hc sz) (by decide) rfl rfl hl.1 (Nat.le_of_ble_eq_true rfl) dX2_columnNamed_13 ⟨Nat.le_refl _, Nat.le_refl _⟩ (fun H locs hw => ?_)
    refine lv_if_eq (tgt := 44) C.1.1 C.1.2.1 dX2_columnNamed_16 (by decide) (fun hc => ?_) (fun hc => ?_)
    · replace h := ite_pos' h hc
      refine lv_iconst (v := (-1)) C.1.1 C.1.2.1 dX2_columnNamed_44 (by decide) ?_
      cases h
      exact r_iret C hw (Or.inl rfl) dX2_columnNamed_45
    · replace h := ite_neg' h hc
      refine lv_aload_n C.1.1 C.1.2.1 dX2_columnNamed_19 rfl (lv_at hl 0 rfl) ?_
      refine r_getR (v := .ref (ad 21)) C hw (kx17 _) fX2_22 rfl (hx17_4 hx) dX2_columnNamed_20 ?_
      refine lv_iload_n C.1.1 C.1.2.1 dX2_columnNamed_23 rfl (lv_at hl 1 rfl) ?_
      refine lv_iload C.1.1 C.1.2.1 dX2_columnNamed_24 (lv_at hl 3 rfl) ?_
      obtain ⟨r_2, hc, h⟩ := bnd_some h
      refine r_nI (dc := 1) (As := [.int x1, .int x4]) (rest := [.ref (ad 21)]) C hw nX2_60 (fun sz => c_X6_slot hx hc sz) (by decide) rfl rfl hl.1 (Nat.le_of_ble_eq_true rfl) dX2_columnNamed_26 ⟨Nat.le_refl _, Nat.le_refl _⟩ (fun H locs hw => ?_)
      obtain ⟨hz, h⟩ := ck_some h
      refine r_lald C hw (kx21 _) (inB_in hz) dX2_columnNamed_29 ?_
      refine lv_lload_n C.1.1 C.1.2.1 dX2_columnNamed_30 rfl (lv_at hl 2 rfl) ?_
      refine W.lcmp C.1.1 C.1.2.1 dX2_columnNamed_31 ?_
      refine lv_if_ne (tgt := 38) C.1.1 C.1.2.1 dX2_columnNamed_32 (by decide) (fun hc => ?_) (fun hc => ?_)
      · replace h := ite_neg' h hc
        refine lv_iinc (v := x4 + 1) (lv' := [(4, .int (x4 + 1)), (0, .ref (ad 17)), (1, .int x1), (2, .long x2)]) C.1.1 C.1.2.1 dX2_columnNamed_38 hl (k := 3) rfl rfl (by decide) rfl (fun ls hl => ?_)
        refine lt_gen (P := fun x => lv_has ls 5 [(4, .int x), (0, .ref (ad 17)), (1, .int x1), (2, .long x2)]) h hl (fun x4_3 h hl => ?_)
        refine lv_goto (tgt := 3) C.1.1 C.1.2.1 dX2_columnNamed_41 (by decide) ?_
        exact hk3 _ _ _ _ hw (lv_sub hl [1, 2, 3, 0] rfl) h
      · replace h := ite_pos' h hc
        refine lv_iload C.1.1 C.1.2.1 dX2_columnNamed_35 (lv_at hl 3 rfl) ?_
        cases h
        exact r_iret C hw (Or.inl rfl) dX2_columnNamed_37
set_option maxHeartbeats 4000000 in
set_option maxRecDepth 100000 in
theorem w_X2_columnNamed_p_3L {x1 : Int32} {x2 : Int64} {g : GM} {r : Int32} (C : CX p s m args meth c RX2 yX2_columnNamed cX2_columnNamed 5 (some .int) D cA) (hx : HX hr ad) : ∀ (n : Nat) (x4 : Int32) (H : Heap) (locs : List Loc) (ls : Array Slot), WS D cA ev hr ad A (KX ++ tl) s H locs g → lv_has ls 5 [(0, .ref (ad 17)), (1, .int x1), (2, .long x2), (4, .int x4)] → fixN (F_X2_columnNamed_p_3B x1 x2 g) n x4 = some r → W p l e (RM 2 0 0) s m args below meth c H locs 0 0 (MQ below (QI D cA ev hr ad A (KX ++ tl) r g) args s 0 0 A) (F0 m 3 ls []) := by
  intro n
  induction n with
  | zero => intro x4 H locs ls hw hl h; exact (fix_zero h).elim
  | succ n ih => intro x4 H locs ls hw hl h; exact w_X2_columnNamed_p_3 (fixN (F_X2_columnNamed_p_3B x1 x2 g) n) ih C hx hw hl h
set_option maxHeartbeats 4000000 in
set_option maxRecDepth 100000 in
theorem w_X2_columnNamed_p_0 (C : CX p s m args meth c RX2 yX2_columnNamed cX2_columnNamed 5 (some .int) D cA) (hx : HX hr ad) {H : Heap} {locs : List Loc} {g : GM} (hw : WS D cA ev hr ad A (KX ++ tl) s H locs g) {a1 : Int32} {a2 : Int64} {ls : Array Slot} (hl : lv_has ls 5 [(0, .ref (ad 17)), (1, .int a1), (2, .long a2)]) {r : Int32} (h : F_X2_columnNamed_p a1 a2 g = some r) : W p l e (RM 2 0 0) s m args below meth c H locs 0 0 (MQ below (QI D cA ev hr ad A (KX ++ tl) r g) args s 0 0 A) (F0 m 0 ls []) := by
  refine lv_iconst (v := 0) C.1.1 C.1.2.1 dX2_columnNamed_0 (by decide) ?_
  refine lv_istore (lv' := [(4, .int 0), (0, .ref (ad 17)), (1, .int a1), (2, .long a2)]) C.1.1 C.1.2.1 dX2_columnNamed_1 hl (by decide) rfl (fun ls hl => ?_)
  exact w_X2_columnNamed_p_3L C hx FU _ _ _ _ hw (lv_sub hl [1, 2, 3, 0] rfl) h
set_option maxHeartbeats 4000000 in
set_option maxRecDepth 100000 in
theorem c_X2_columnNamed_p (hx : HX hr ad) {a1 : Int32} {a2 : Int64} {g : GM} {r : Int32} (h : F_X2_columnNamed_p a1 a2 g = some r) (sz : Nat) : Met l yX2_columnNamed (WSX yX2_columnNamed cX2_columnNamed 5 (some .int)) (RM 2 0 0) (va_Pc [.ref (ad 17), .int a1, .long a2] (PX D cA ev hr ad (KX ++ tl) g sz)) (QI D cA ev hr ad (AX ad (KX ++ tl).length sz) (KX ++ tl) r g) 0 0 (AX ad (KX ++ tl).length sz) :=
  met_of (own := RX2) pnX2 rfl (Nat.le_of_ble_eq_true rfl) (fun p e s m below meth c ls C hw hsz hl => w_X2_columnNamed_p_0 C hx hw hl h)
set_option maxHeartbeats 4000000 in
set_option maxRecDepth 100000 in
theorem w_X4_takeTable_p_35 {x2 : Int32} {g : GM} {r : Int32} {gz : GM} (C : CX p s m args meth c RX4 yX4_takeTable cX4_takeTable 3 (some .int) D cA) (hx : HX hr ad) {H : Heap} {locs : List Loc} (hw : WS D cA ev hr ad A (KX ++ tl) s H locs g) {ls : Array Slot} (hl : lv_has ls 3 [(0, .ref (ad 1)), (2, .int x2)]) (h : F_X4_takeTable_p_35 x2 g = some (r, gz)) : W p l e (RM 9 0 0) s m args below meth c H locs 0 0 (MQ below (QI D cA ev hr ad A (KX ++ tl) r gz) args s 0 0 A) (F0 m 35 ls []) := by
  refine lv_aload_n C.1.1 C.1.2.1 dX4_takeTable_35 rfl (lv_at hl 0 rfl) ?_
  refine r_getI C hw (kx1 _) fX4_47 rfl dX4_takeTable_36 ?_
  refine lv_if_eq (tgt := 44) C.1.1 C.1.2.1 dX4_takeTable_39 (by decide) (fun hc => ?_) (fun hc => ?_)
  · replace h := ite_pos' h hc
    refine lv_aload_n C.1.1 C.1.2.1 dX4_takeTable_44 rfl (lv_at hl 0 rfl) ?_
    obtain ⟨g_1, hc, h⟩ := bnd_some h
    refine r_vV (dc := 8) (As := []) (rest := []) C hw vX4_53 (kx1 _) (by decide) rfl (fun sz => c_X4_advance hx hc sz) (by decide) rfl rfl hl.1 (Nat.le_of_ble_eq_true rfl) dX4_takeTable_45 ⟨Nat.le_refl _, Nat.le_refl _⟩ (fun H locs hw => ?_)
    refine lv_iload_n C.1.1 C.1.2.1 dX4_takeTable_48 rfl (lv_at hl 1 rfl) ?_
    cases h
    exact r_iret C hw (Or.inl rfl) dX4_takeTable_49
  · replace h := ite_neg' h hc
    refine lv_iconst (v := (-1)) C.1.1 C.1.2.1 dX4_takeTable_42 (by decide) ?_
    cases h
    exact r_iret C hw (Or.inl rfl) dX4_takeTable_43
set_option maxHeartbeats 4000000 in
set_option maxRecDepth 100000 in
theorem w_X4_takeTable_p_12 {g : GM} {r : Int32} {gz : GM} (C : CX p s m args meth c RX4 yX4_takeTable cX4_takeTable 3 (some .int) D cA) (hx : HX hr ad) {H : Heap} {locs : List Loc} (hw : WS D cA ev hr ad A (KX ++ tl) s H locs g) {ls : Array Slot} (hl : lv_has ls 3 [(0, .ref (ad 1)), (1, .ref (ad 17))]) (h : F_X4_takeTable_p_12 g = some (r, gz)) : W p l e (RM 9 0 0) s m args below meth c H locs 0 0 (MQ below (QI D cA ev hr ad A (KX ++ tl) r gz) args s 0 0 A) (F0 m 12 ls []) := by
  refine lv_aload_n C.1.1 C.1.2.1 dX4_takeTable_12 rfl (lv_at hl 1 rfl) ?_
  refine lv_aload_n C.1.1 C.1.2.1 dX4_takeTable_13 rfl (lv_at hl 0 rfl) ?_
  refine r_getL C hw (kx1 _) fX4_79 rfl dX4_takeTable_14 ?_
  obtain ⟨r_2, hc, h⟩ := bnd_some h
  refine r_vI (dc := 1) (As := [.long (gl g 1 8)]) (rest := []) C hw vX4_83 (kx17 _) (by decide) rfl (fun sz => c_X2_tableNamed_p hx hc sz) (by decide) rfl rfl hl.1 (Nat.le_of_ble_eq_true rfl) dX4_takeTable_17 ⟨Nat.le_refl _, Nat.le_refl _⟩ (fun H locs hw => ?_)
  refine lv_istore_n (lv' := [(2, .int r_2), (0, .ref (ad 1)), (1, .ref (ad 17))]) C.1.1 C.1.2.1 dX4_takeTable_20 rfl hl (by decide) rfl (fun ls hl => ?_)
  refine lt_gen (P := fun x => lv_has ls 3 [(2, .int x), (0, .ref (ad 1)), (1, .ref (ad 17))]) h hl (fun x2_3 h hl => ?_)
  refine lv_iload_n C.1.1 C.1.2.1 dX4_takeTable_21 rfl (lv_at hl 0 rfl) ?_
  refine lv_iconst (v := (-1)) C.1.1 C.1.2.1 dX4_takeTable_22 (by decide) ?_
  refine lv_icmp_ne (tgt := 35) C.1.1 C.1.2.1 dX4_takeTable_23 (by decide) (fun hc => ?_) (fun hc => ?_)
  · replace h := ite_neg' h hc
    exact w_X4_takeTable_p_35 C hx hw (lv_sub hl [1, 0] rfl) h
  · replace h := ite_pos' h hc
    refine lv_aload_n C.1.1 C.1.2.1 dX4_takeTable_26 rfl (lv_at hl 1 rfl) ?_
    refine lv_iconst (v := 4) C.1.1 C.1.2.1 dX4_takeTable_27 (by decide) ?_
    refine lv_aload_n C.1.1 C.1.2.1 dX4_takeTable_28 rfl (lv_at hl 1 rfl) ?_
    refine r_getI C hw (kx1 _) fX4_56 rfl dX4_takeTable_29 ?_
    obtain ⟨g_4, hc, h⟩ := bnd_some h
    refine r_vV (dc := 1) (As := [.int 4, .int (gi g 1 6)]) (rest := []) C hw vX4_72 (kx1 _) (by decide) rfl (fun sz => c_X4_refuse hx hc sz) (by decide) rfl rfl hl.1 (Nat.le_of_ble_eq_true rfl) dX4_takeTable_32 ⟨Nat.le_refl _, Nat.le_refl _⟩ (fun H locs hw => ?_)
    exact w_X4_takeTable_p_35 C hx hw (lv_sub hl [1, 0] rfl) h
set_option maxHeartbeats 4000000 in
set_option maxRecDepth 100000 in
theorem w_X4_takeTable_p_0 (C : CX p s m args meth c RX4 yX4_takeTable cX4_takeTable 3 (some .int) D cA) (hx : HX hr ad) {H : Heap} {locs : List Loc} {g : GM} (hw : WS D cA ev hr ad A (KX ++ tl) s H locs g) {ls : Array Slot} (hl : lv_has ls 3 [(0, .ref (ad 1)), (1, .ref (ad 17))]) {r : Int32} {gz : GM} (h : F_X4_takeTable_p g = some (r, gz)) : W p l e (RM 9 0 0) s m args below meth c H locs 0 0 (MQ below (QI D cA ev hr ad A (KX ++ tl) r gz) args s 0 0 A) (F0 m 0 ls []) := by
  refine lv_aload_n C.1.1 C.1.2.1 dX4_takeTable_0 rfl (lv_at hl 0 rfl) ?_
  refine r_getI C hw (kx1 _) fX4_59 rfl dX4_takeTable_1 ?_
  refine lv_iconst (v := 2) C.1.1 C.1.2.1 dX4_takeTable_4 (by decide) ?_
  refine lv_icmp_eq (tgt := 12) C.1.1 C.1.2.1 dX4_takeTable_5 (by decide) (fun hc => ?_) (fun hc => ?_)
  · replace h := ite_pos' h hc
    exact w_X4_takeTable_p_12 C hx hw hl h
  · replace h := ite_neg' h hc
    refine lv_aload_n C.1.1 C.1.2.1 dX4_takeTable_8 rfl (lv_at hl 0 rfl) ?_
    obtain ⟨g_5, hc, h⟩ := bnd_some h
    refine r_vV (dc := 2) (As := []) (rest := []) C hw vX4_76 (kx1 _) (by decide) rfl (fun sz => c_X4_refuseToken hx hc sz) (by decide) rfl rfl hl.1 (Nat.le_of_ble_eq_true rfl) dX4_takeTable_9 ⟨Nat.le_refl _, Nat.le_refl _⟩ (fun H locs hw => ?_)
    exact w_X4_takeTable_p_12 C hx hw hl h
set_option maxHeartbeats 4000000 in
set_option maxRecDepth 100000 in
theorem c_X4_takeTable_p (hx : HX hr ad) {g : GM} {r : Int32} {gz : GM} (h : F_X4_takeTable_p g = some (r, gz)) (sz : Nat) : Met l yX4_takeTable (WSX yX4_takeTable cX4_takeTable 3 (some .int)) (RM 9 0 0) (va_Pc [.ref (ad 1), .ref (ad 17)] (PX D cA ev hr ad (KX ++ tl) g sz)) (QI D cA ev hr ad (AX ad (KX ++ tl).length sz) (KX ++ tl) r gz) 0 0 (AX ad (KX ++ tl).length sz) :=
  met_of (own := RX4) pnX4 rfl (Nat.le_of_ble_eq_true rfl) (fun p e s m below meth c ls C hw hsz hl => w_X4_takeTable_p_0 C hx hw hl h)
set_option maxHeartbeats 4000000 in
set_option maxRecDepth 100000 in
theorem w_X3_readColumn_26 {g : GM} {gz : GM} (C : CX p s m args meth c RX3 yX3_readColumn cX3_readColumn 3 none D cA) (hx : HS hr ad) {H : Heap} {locs : List Loc} (hw : WS D cA ev hr ad A (KX ++ [(3, 2)]) s H locs g) {ls : Array Slot} (hl : lv_has ls 3 [(0, .ref (ad 42))]) (h : F_X3_readColumn_26 g = some gz) : W p l e (RM 10 0 0) s m args below meth c H locs 0 0 (MQ below (QV D cA ev hr ad A (KX ++ [(3, 2)]) gz) args s 0 0 A) (F0 m 26 ls []) := by
  refine lv_aload_n C.1.1 C.1.2.1 dX3_readColumn_26 rfl (lv_at hl 0 rfl) ?_
  refine r_getR (v := .ref (ad 1)) C hw kLS42 fX3_9 rfl hx.2.1 dX3_readColumn_27 ?_
  obtain ⟨g_1, hc, h⟩ := bnd_some h
  refine r_vV (dc := 2) (As := []) (rest := []) C hw vX3_50 (kx1 _) (by decide) rfl (fun sz => c_X4_refuseToken hx.1 hc sz) (by decide) rfl rfl hl.1 (Nat.le_of_ble_eq_true rfl) dX3_readColumn_30 ⟨Nat.le_refl _, Nat.le_refl _⟩ (fun H locs hw => ?_)
  cases h
  exact r_vret C hw rfl dX3_readColumn_33
set_option maxHeartbeats 4000000 in
set_option maxRecDepth 100000 in
theorem w_X3_readColumn_0 (C : CX p s m args meth c RX3 yX3_readColumn cX3_readColumn 3 none D cA) (hx : HS hr ad) {H : Heap} {locs : List Loc} {g : GM} (hw : WS D cA ev hr ad A (KX ++ [(3, 2)]) s H locs g) {a1 : Int32} {ls : Array Slot} (hl : lv_has ls 3 [(0, .ref (ad 42)), (1, .int a1)]) {gz : GM} (h : F_X3_readColumn a1 g = some gz) : W p l e (RM 10 0 0) s m args below meth c H locs 0 0 (MQ below (QV D cA ev hr ad A (KX ++ [(3, 2)]) gz) args s 0 0 A) (F0 m 0 ls []) := by
  refine lv_aload_n C.1.1 C.1.2.1 dX3_readColumn_0 rfl (lv_at hl 0 rfl) ?_
  refine r_getR (v := .ref (ad 17)) C hw kLS42 fX3_15 rfl hx.2.2 dX3_readColumn_1 ?_
  refine r_getR (v := .ref (ad 19)) C hw (kx17 _) fX3_85 rfl (hx17_2 hx.1) dX3_readColumn_4 ?_
  refine lv_iload_n C.1.1 C.1.2.1 dX3_readColumn_7 rfl (lv_at hl 1 rfl) ?_
  obtain ⟨hz, h⟩ := ck_some h
  refine r_iald C hw (kx19 _) (inB_in hz) dX3_readColumn_8 ?_
  refine lv_istore_n (lv' := [(2, .int (gi g 19 a1.toNatClampNeg)), (0, .ref (ad 42)), (1, .int a1)]) C.1.1 C.1.2.1 dX3_readColumn_9 rfl hl (by decide) rfl (fun ls hl => ?_)
  refine lt_gen (P := fun x => lv_has ls 3 [(2, .int x), (0, .ref (ad 42)), (1, .int a1)]) h hl (fun x2_2 h hl => ?_)
  refine lv_aload_n C.1.1 C.1.2.1 dX3_readColumn_10 rfl (lv_at hl 1 rfl) ?_
  refine r_getR (v := .ref (ad 1)) C hw kLS42 fX3_9 rfl hx.2.1 dX3_readColumn_11 ?_
  refine r_getI C hw (kx1 _) fX3_34 rfl dX3_readColumn_14 ?_
  refine lv_iconst (v := 2) C.1.1 C.1.2.1 dX3_readColumn_17 (by decide) ?_
  refine lv_icmp_ne (tgt := 26) C.1.1 C.1.2.1 dX3_readColumn_18 (by decide) (fun hc => ?_) (fun hc => ?_)
  · replace h := ite_neg' h hc
    exact w_X3_readColumn_26 C hx hw (lv_sub hl [1] rfl) h
  · replace h := ite_pos' h hc
    refine lv_iload_n C.1.1 C.1.2.1 dX3_readColumn_21 rfl (lv_at hl 0 rfl) ?_
    refine lv_iconst (v := 5) C.1.1 C.1.2.1 dX3_readColumn_22 (by decide) ?_
    refine lv_icmp_lt (tgt := 34) C.1.1 C.1.2.1 dX3_readColumn_23 (by decide) (fun hc => ?_) (fun hc => ?_)
    · replace h := ite_pos' h hc
      refine lv_aload_n C.1.1 C.1.2.1 dX3_readColumn_34 rfl (lv_at hl 1 rfl) ?_
      refine r_getR (v := .ref (ad 17)) C hw kLS42 fX3_15 rfl hx.2.2 dX3_readColumn_35 ?_
      refine lv_iload_n C.1.1 C.1.2.1 dX3_readColumn_38 rfl (lv_at hl 2 rfl) ?_
      refine lv_aload_n C.1.1 C.1.2.1 dX3_readColumn_39 rfl (lv_at hl 1 rfl) ?_
      refine r_getR (v := .ref (ad 1)) C hw kLS42 fX3_9 rfl hx.2.1 dX3_readColumn_40 ?_
      refine r_getL C hw (kx1 _) fX3_62 rfl dX3_readColumn_43 ?_
      obtain ⟨r_3, hc, h⟩ := bnd_some h
      refine r_vI (dc := 2) (As := [.int a1, .long (gl g 1 8)]) (rest := []) C hw vX3_95 (kx17 _) (by decide) rfl (fun sz => c_X2_columnNamed_p hx.1 hc sz) (by decide) rfl rfl hl.1 (Nat.le_of_ble_eq_true rfl) dX3_readColumn_46 ⟨Nat.le_refl _, Nat.le_refl _⟩ (fun H locs hw => ?_)
      refine lv_iconst (v := (-1)) C.1.1 C.1.2.1 dX3_readColumn_49 (by decide) ?_
      refine lv_icmp_eq (tgt := 69) C.1.1 C.1.2.1 dX3_readColumn_50 (by decide) (fun hc => ?_) (fun hc => ?_)
      · replace h := ite_pos' h hc
        refine lv_aload_n C.1.1 C.1.2.1 dX3_readColumn_69 rfl (lv_at hl 1 rfl) ?_
        refine r_getR (v := .ref (ad 17)) C hw kLS42 fX3_15 rfl hx.2.2 dX3_readColumn_70 ?_
        refine r_getR (v := .ref (ad 21)) C hw (kx17 _) fX3_99 rfl (hx17_4 hx.1) dX3_readColumn_73 ?_
        refine lv_iload_n C.1.1 C.1.2.1 dX3_readColumn_76 rfl (lv_at hl 2 rfl) ?_
        refine lv_iload_n C.1.1 C.1.2.1 dX3_readColumn_77 rfl (lv_at hl 0 rfl) ?_
        obtain ⟨r_4, hc, h⟩ := bnd_some h
        refine r_nI (dc := 1) (As := [.int a1, .int x2_2]) (rest := [.ref (ad 21)]) C hw nX3_102 (fun sz => c_X6_slot hx.1 hc sz) (by decide) rfl rfl hl.1 (Nat.le_of_ble_eq_true rfl) dX3_readColumn_78 ⟨Nat.le_refl _, Nat.le_refl _⟩ (fun H locs hw => ?_)
        refine lv_aload_n C.1.1 C.1.2.1 dX3_readColumn_81 rfl (lv_at hl 1 rfl) ?_
        refine r_getR (v := .ref (ad 1)) C hw kLS42 fX3_9 rfl hx.2.1 dX3_readColumn_82 ?_
        refine r_getL C hw (kx1 _) fX3_62 rfl dX3_readColumn_85 ?_
        obtain ⟨hz, h⟩ := ck_some h
        refine r_last C hw (kx21 _) (inB_in hz) dX3_readColumn_88 (fun H locs hw => ?_)
        refine lt_gen (P := fun g => WS D cA ev hr ad A (KX ++ [(3, 2)]) s H locs g) h hw (fun g_5 h hw => ?_)
        refine lv_aload_n C.1.1 C.1.2.1 dX3_readColumn_89 rfl (lv_at hl 1 rfl) ?_
        refine r_getR (v := .ref (ad 17)) C hw kLS42 fX3_15 rfl hx.2.2 dX3_readColumn_90 ?_
        refine r_getR (v := .ref (ad 22)) C hw (kx17 _) fX3_106 rfl (hx17_5 hx.1) dX3_readColumn_93 ?_
        refine lv_iload_n C.1.1 C.1.2.1 dX3_readColumn_96 rfl (lv_at hl 2 rfl) ?_
        refine lv_iload_n C.1.1 C.1.2.1 dX3_readColumn_97 rfl (lv_at hl 0 rfl) ?_
        obtain ⟨r_6, hc, h⟩ := bnd_some h
        refine r_nI (dc := 1) (As := [.int a1, .int x2_2]) (rest := [.ref (ad 22)]) C hw nX3_102 (fun sz => c_X6_slot hx.1 hc sz) (by decide) rfl rfl hl.1 (Nat.le_of_ble_eq_true rfl) dX3_readColumn_98 ⟨Nat.le_refl _, Nat.le_refl _⟩ (fun H locs hw => ?_)
        refine lv_iconst (v := (-1)) C.1.1 C.1.2.1 dX3_readColumn_101 (by decide) ?_
        obtain ⟨hz, h⟩ := ck_some h
        refine r_iast C hw (kx22 _) (inB_in hz) dX3_readColumn_102 (fun H locs hw => ?_)
        refine lt_gen (P := fun g => WS D cA ev hr ad A (KX ++ [(3, 2)]) s H locs g) h hw (fun g_7 h hw => ?_)
        refine lv_aload_n C.1.1 C.1.2.1 dX3_readColumn_103 rfl (lv_at hl 1 rfl) ?_
        refine r_getR (v := .ref (ad 17)) C hw kLS42 fX3_15 rfl hx.2.2 dX3_readColumn_104 ?_
        refine r_getR (v := .ref (ad 19)) C hw (kx17 _) fX3_85 rfl (hx17_2 hx.1) dX3_readColumn_107 ?_
        refine lv_iload_n C.1.1 C.1.2.1 dX3_readColumn_110 rfl (lv_at hl 2 rfl) ?_
        refine lv_dup2_11 C.1.1 C.1.2.1 dX3_readColumn_111 rfl rfl ?_
        obtain ⟨hz, h⟩ := ck_some h
        refine r_iald C hw (kx19 _) (inB_in hz) dX3_readColumn_112 ?_
        refine lv_iconst (v := 1) C.1.1 C.1.2.1 dX3_readColumn_113 (by decide) ?_
        refine lv_iadd C.1.1 C.1.2.1 dX3_readColumn_114 ?_
        obtain ⟨hz, h⟩ := ck_some h
        refine r_iast C hw (kx19 _) (inB_in hz) dX3_readColumn_115 (fun H locs hw => ?_)
        refine lt_gen (P := fun g => WS D cA ev hr ad A (KX ++ [(3, 2)]) s H locs g) h hw (fun g_8 h hw => ?_)
        refine lv_aload_n C.1.1 C.1.2.1 dX3_readColumn_116 rfl (lv_at hl 1 rfl) ?_
        refine r_getR (v := .ref (ad 1)) C hw kLS42 fX3_9 rfl hx.2.1 dX3_readColumn_117 ?_
        obtain ⟨g_9, hc, h⟩ := bnd_some h
        refine r_vV (dc := 8) (As := []) (rest := []) C hw vX3_59 (kx1 _) (by decide) rfl (fun sz => c_X4_advance hx.1 hc sz) (by decide) rfl rfl hl.1 (Nat.le_of_ble_eq_true rfl) dX3_readColumn_120 ⟨Nat.le_refl _, Nat.le_refl _⟩ (fun H locs hw => ?_)
        refine lv_aload_n C.1.1 C.1.2.1 dX3_readColumn_123 rfl (lv_at hl 1 rfl) ?_
        refine r_getR (v := .ref (ad 1)) C hw kLS42 fX3_9 rfl hx.2.1 dX3_readColumn_124 ?_
        refine r_getI C hw (kx1 _) fX3_34 rfl dX3_readColumn_127 ?_
        refine lv_bipush (v := 6) C.1.1 C.1.2.1 dX3_readColumn_130 (by decide) ?_
        refine lv_icmp_ne (tgt := 166) C.1.1 C.1.2.1 dX3_readColumn_132 (by decide) (fun hc => ?_) (fun hc => ?_)
        · replace h := ite_neg' h hc
          cases h
          exact r_vret C hw rfl dX3_readColumn_166
        · replace h := ite_pos' h hc
          refine lv_aload_n C.1.1 C.1.2.1 dX3_readColumn_135 rfl (lv_at hl 1 rfl) ?_
          refine r_getR (v := .ref (ad 1)) C hw kLS42 fX3_9 rfl hx.2.1 dX3_readColumn_136 ?_
          obtain ⟨g_10, hc, h⟩ := bnd_some h
          refine r_vV (dc := 8) (As := []) (rest := []) C hw vX3_59 (kx1 _) (by decide) rfl (fun sz => c_X4_advance hx.1 hc sz) (by decide) rfl rfl hl.1 (Nat.le_of_ble_eq_true rfl) dX3_readColumn_139 ⟨Nat.le_refl _, Nat.le_refl _⟩ (fun H locs hw => ?_)
          refine lv_aload_n C.1.1 C.1.2.1 dX3_readColumn_142 rfl (lv_at hl 1 rfl) ?_
          refine r_getR (v := .ref (ad 17)) C hw kLS42 fX3_15 rfl hx.2.2 dX3_readColumn_143 ?_
          refine r_getR (v := .ref (ad 22)) C hw (kx17 _) fX3_106 rfl (hx17_5 hx.1) dX3_readColumn_146 ?_
          refine lv_iload_n C.1.1 C.1.2.1 dX3_readColumn_149 rfl (lv_at hl 2 rfl) ?_
          refine lv_iload_n C.1.1 C.1.2.1 dX3_readColumn_150 rfl (lv_at hl 0 rfl) ?_
          obtain ⟨r_11, hc, h⟩ := bnd_some h
          refine r_nI (dc := 1) (As := [.int a1, .int x2_2]) (rest := [.ref (ad 22)]) C hw nX3_102 (fun sz => c_X6_slot hx.1 hc sz) (by decide) rfl rfl hl.1 (Nat.le_of_ble_eq_true rfl) dX3_readColumn_151 ⟨Nat.le_refl _, Nat.le_refl _⟩ (fun H locs hw => ?_)
          refine lv_aload_n C.1.1 C.1.2.1 dX3_readColumn_154 rfl (lv_at hl 1 rfl) ?_
          refine r_getR (v := .ref (ad 1)) C hw kLS42 fX3_9 rfl hx.2.1 dX3_readColumn_155 ?_
          refine lv_aload_n C.1.1 C.1.2.1 dX3_readColumn_158 rfl (lv_at hl 1 rfl) ?_
          refine r_getR (v := .ref (ad 17)) C hw kLS42 fX3_15 rfl hx.2.2 dX3_readColumn_159 ?_
          obtain ⟨⟨r_12, g_13⟩, hc, h⟩ := bnd_some h
          refine r_vI (dc := 9) (As := [.ref (ad 17)]) (rest := [.int r_11, .ref (ad 22)]) C hw vX3_109 (kx1 _) (by decide) rfl (fun sz => c_X4_takeTable_p hx.1 hc sz) (by decide) rfl rfl hl.1 (Nat.le_of_ble_eq_true rfl) dX3_readColumn_162 ⟨Nat.le_refl _, Nat.le_refl _⟩ (fun H locs hw => ?_)
          obtain ⟨hz, h⟩ := ck_some h
          refine r_iast C hw (kx22 _) (inB_in hz) dX3_readColumn_165 (fun H locs hw => ?_)
          refine lt_gen (P := fun g => WS D cA ev hr ad A (KX ++ [(3, 2)]) s H locs g) h hw (fun g_14 h hw => ?_)
          cases h
          exact r_vret C hw rfl dX3_readColumn_166
      · replace h := ite_neg' h hc
        refine lv_aload_n C.1.1 C.1.2.1 dX3_readColumn_53 rfl (lv_at hl 1 rfl) ?_
        refine r_getR (v := .ref (ad 1)) C hw kLS42 fX3_9 rfl hx.2.1 dX3_readColumn_54 ?_
        refine lv_iconst (v := 3) C.1.1 C.1.2.1 dX3_readColumn_57 (by decide) ?_
        refine lv_aload_n C.1.1 C.1.2.1 dX3_readColumn_58 rfl (lv_at hl 1 rfl) ?_
        refine r_getR (v := .ref (ad 1)) C hw kLS42 fX3_9 rfl hx.2.1 dX3_readColumn_59 ?_
        refine r_getI C hw (kx1 _) fX3_70 rfl dX3_readColumn_62 ?_
        obtain ⟨g_15, hc, h⟩ := bnd_some h
        refine r_vV (dc := 1) (As := [.int 3, .int (gi g 1 6)]) (rest := []) C hw vX3_73 (kx1 _) (by decide) rfl (fun sz => c_X4_refuse hx.1 hc sz) (by decide) rfl rfl hl.1 (Nat.le_of_ble_eq_true rfl) dX3_readColumn_65 ⟨Nat.le_refl _, Nat.le_refl _⟩ (fun H locs hw => ?_)
        cases h
        exact r_vret C hw rfl dX3_readColumn_68
    · replace h := ite_neg' h hc
      exact w_X3_readColumn_26 C hx hw (lv_sub hl [1] rfl) h
set_option maxHeartbeats 4000000 in
set_option maxRecDepth 100000 in
theorem c_X3_readColumn (hx : HS hr ad) {a1 : Int32} {g : GM} {gz : GM} (h : F_X3_readColumn a1 g = some gz) (sz : Nat) : Met l yX3_readColumn (WSX yX3_readColumn cX3_readColumn 3 none) (RM 10 0 0) (va_Pc [.ref (ad 42), .int a1] (PX D cA ev hr ad (KX ++ [(3, 2)]) g sz)) (QV D cA ev hr ad (AX ad (KX ++ [(3, 2)]).length sz) (KX ++ [(3, 2)]) gz) 0 0 (AX ad (KX ++ [(3, 2)]).length sz) :=
  met_of (own := RX3) pnX3 rfl (Nat.le_of_ble_eq_true rfl) (fun p e s m below meth c ls C hw hsz hl => w_X3_readColumn_0 C hx hw hl h)
set_option maxHeartbeats 4000000 in
set_option maxRecDepth 100000 in
theorem w_X3_readTable_195 {g : GM} {gz : GM} (C : CX p s m args meth c RX3 yX3_readTable cX3_readTable 6 none D cA) (hx : HS hr ad) {H : Heap} {locs : List Loc} (hw : WS D cA ev hr ad A (KX ++ [(3, 2)]) s H locs g) {ls : Array Slot} (hl : lv_has ls 6 [(0, .ref (ad 42))]) (h : F_X3_readTable_195 g = some gz) : W p l e (RM 11 0 0) s m args below meth c H locs 0 0 (MQ below (QV D cA ev hr ad A (KX ++ [(3, 2)]) gz) args s 0 0 A) (F0 m 195 ls []) := by
  refine lv_aload_n C.1.1 C.1.2.1 dX3_readTable_195 rfl (lv_at hl 0 rfl) ?_
  refine r_getR (v := .ref (ad 1)) C hw kLS42 fX3_9 rfl hx.2.1 dX3_readTable_196 ?_
  refine lv_bipush (v := 59) C.1.1 C.1.2.1 dX3_readTable_199 (by decide) ?_
  obtain ⟨⟨r_1, g_2⟩, hc, h⟩ := bnd_some h
  refine r_vI (dc := 9) (As := [.int 59]) (rest := []) C hw vX3_77 (kx1 _) (by decide) rfl (fun sz => c_X4_take hx.1 hc sz) (by decide) rfl rfl hl.1 (Nat.le_of_ble_eq_true rfl) dX3_readTable_201 ⟨Nat.le_refl _, Nat.le_refl _⟩ (fun H locs hw => ?_)
  refine lv_pop C.1.1 C.1.2.1 dX3_readTable_204 rfl ?_
  cases h
  exact r_vret C hw rfl dX3_readTable_205
set_option maxHeartbeats 4000000 in
set_option maxRecDepth 100000 in
theorem w_X3_readTable_189 {x1 : Int32} {x4 : Int32} {x5 : Int32} {g : GM} {gz : GM} (kb132 : Int32 × Int32 × GM → Option (GM)) (hk132 : ∀ (x4 : Int32) (x5 : Int32) (g : GM) (H : Heap) (locs : List Loc) (ls : Array Slot), WS D cA ev hr ad A (KX ++ [(3, 2)]) s H locs g → lv_has ls 6 [(0, .ref (ad 42)), (1, .int x1), (4, .int x4), (5, .int x5)] → kb132 (x4, x5, g) = some gz → W p l e (RM 11 0 0) s m args below meth c H locs 0 0 (MQ below (QV D cA ev hr ad A (KX ++ [(3, 2)]) gz) args s 0 0 A) (F0 m 132 ls [])) (C : CX p s m args meth c RX3 yX3_readTable cX3_readTable 6 none D cA) (hx : HS hr ad) {H : Heap} {locs : List Loc} (hw : WS D cA ev hr ad A (KX ++ [(3, 2)]) s H locs g) {ls : Array Slot} (hl : lv_has ls 6 [(0, .ref (ad 42)), (1, .int x1), (4, .int x4), (5, .int x5)]) (h : F_X3_readTable_189 kb132 x1 x4 x5 g = some gz) : W p l e (RM 11 0 0) s m args below meth c H locs 0 0 (MQ below (QV D cA ev hr ad A (KX ++ [(3, 2)]) gz) args s 0 0 A) (F0 m 189 ls []) := by
  refine lv_iinc (v := x5 + 1) (lv' := [(5, .int (x5 + 1)), (0, .ref (ad 42)), (1, .int x1), (4, .int x4)]) C.1.1 C.1.2.1 dX3_readTable_189 hl (k := 3) rfl rfl (by decide) rfl (fun ls hl => ?_)
  refine lt_gen (P := fun x => lv_has ls 6 [(5, .int x), (0, .ref (ad 42)), (1, .int x1), (4, .int x4)]) h hl (fun x5_3 h hl => ?_)
  refine lv_goto (tgt := 132) C.1.1 C.1.2.1 dX3_readTable_192 (by decide) ?_
  exact hk132 _ _ _ _ _ _ hw (lv_sub hl [1, 2, 3, 0] rfl) h
set_option maxHeartbeats 4000000 in
set_option maxRecDepth 100000 in
theorem w_X3_readTable_175 {x1 : Int32} {x5 : Int32} {s0 : Int32} {g : GM} {gz : GM} (kb132 : Int32 × Int32 × GM → Option (GM)) (hk132 : ∀ (x4 : Int32) (x5 : Int32) (g : GM) (H : Heap) (locs : List Loc) (ls : Array Slot), WS D cA ev hr ad A (KX ++ [(3, 2)]) s H locs g → lv_has ls 6 [(0, .ref (ad 42)), (1, .int x1), (4, .int x4), (5, .int x5)] → kb132 (x4, x5, g) = some gz → W p l e (RM 11 0 0) s m args below meth c H locs 0 0 (MQ below (QV D cA ev hr ad A (KX ++ [(3, 2)]) gz) args s 0 0 A) (F0 m 132 ls [])) (C : CX p s m args meth c RX3 yX3_readTable cX3_readTable 6 none D cA) (hx : HS hr ad) {H : Heap} {locs : List Loc} (hw : WS D cA ev hr ad A (KX ++ [(3, 2)]) s H locs g) {ls : Array Slot} (hl : lv_has ls 6 [(0, .ref (ad 42)), (1, .int x1), (5, .int x5)]) (h : F_X3_readTable_175 kb132 x1 x5 s0 g = some gz) : W p l e (RM 11 0 0) s m args below meth c H locs 0 0 (MQ below (QV D cA ev hr ad A (KX ++ [(3, 2)]) gz) args s 0 0 A) (F0 m 175 ls [.int s0]) := by
  refine lv_istore (lv' := [(4, .int s0), (0, .ref (ad 42)), (1, .int x1), (5, .int x5)]) C.1.1 C.1.2.1 dX3_readTable_175 hl (by decide) rfl (fun ls hl => ?_)
  refine lv_iload C.1.1 C.1.2.1 dX3_readTable_177 (lv_at hl 0 rfl) ?_
  refine lv_if_eq (tgt := 189) C.1.1 C.1.2.1 dX3_readTable_179 (by decide) (fun hc => ?_) (fun hc => ?_)
  · replace h := ite_pos' h hc
    exact w_X3_readTable_189 kb132 hk132 C hx hw (lv_sub hl [1, 2, 0, 3] rfl) h
  · replace h := ite_neg' h hc
    refine lv_aload_n C.1.1 C.1.2.1 dX3_readTable_182 rfl (lv_at hl 1 rfl) ?_
    refine r_getR (v := .ref (ad 1)) C hw kLS42 fX3_9 rfl hx.2.1 dX3_readTable_183 ?_
    obtain ⟨g_4, hc, h⟩ := bnd_some h
    refine r_vV (dc := 8) (As := []) (rest := []) C hw vX3_59 (kx1 _) (by decide) rfl (fun sz => c_X4_advance hx.1 hc sz) (by decide) rfl rfl hl.1 (Nat.le_of_ble_eq_true rfl) dX3_readTable_186 ⟨Nat.le_refl _, Nat.le_refl _⟩ (fun H locs hw => ?_)
    exact w_X3_readTable_189 kb132 hk132 C hx hw (lv_sub hl [1, 2, 0, 3] rfl) h
set_option maxHeartbeats 4000000 in
set_option maxRecDepth 100000 in
theorem w_X3_readTable_174 {x1 : Int32} {x5 : Int32} {g : GM} {gz : GM} (kb132 : Int32 × Int32 × GM → Option (GM)) (hk132 : ∀ (x4 : Int32) (x5 : Int32) (g : GM) (H : Heap) (locs : List Loc) (ls : Array Slot), WS D cA ev hr ad A (KX ++ [(3, 2)]) s H locs g → lv_has ls 6 [(0, .ref (ad 42)), (1, .int x1), (4, .int x4), (5, .int x5)] → kb132 (x4, x5, g) = some gz → W p l e (RM 11 0 0) s m args below meth c H locs 0 0 (MQ below (QV D cA ev hr ad A (KX ++ [(3, 2)]) gz) args s 0 0 A) (F0 m 132 ls [])) (C : CX p s m args meth c RX3 yX3_readTable cX3_readTable 6 none D cA) (hx : HS hr ad) {H : Heap} {locs : List Loc} (hw : WS D cA ev hr ad A (KX ++ [(3, 2)]) s H locs g) {ls : Array Slot} (hl : lv_has ls 6 [(0, .ref (ad 42)), (1, .int x1), (5, .int x5)]) (h : F_X3_readTable_174 kb132 x1 x5 g = some gz) : W p l e (RM 11 0 0) s m args below meth c H locs 0 0 (MQ below (QV D cA ev hr ad A (KX ++ [(3, 2)]) gz) args s 0 0 A) (F0 m 174 ls []) := by
  refine lv_iconst (v := 0) C.1.1 C.1.2.1 dX3_readTable_174 (by decide) ?_
  exact w_X3_readTable_175 kb132 hk132 C hx hw hl h
set_option maxHeartbeats 4000000 in
set_option maxRecDepth 100000 in
theorem w_X3_readTable_132 {x1 : Int32} {gz : GM} (kb132 : Int32 × Int32 × GM → Option (GM)) (hk132 : ∀ (x4 : Int32) (x5 : Int32) (g : GM) (H : Heap) (locs : List Loc) (ls : Array Slot), WS D cA ev hr ad A (KX ++ [(3, 2)]) s H locs g → lv_has ls 6 [(0, .ref (ad 42)), (1, .int x1), (4, .int x4), (5, .int x5)] → kb132 (x4, x5, g) = some gz → W p l e (RM 11 0 0) s m args below meth c H locs 0 0 (MQ below (QV D cA ev hr ad A (KX ++ [(3, 2)]) gz) args s 0 0 A) (F0 m 132 ls [])) (C : CX p s m args meth c RX3 yX3_readTable cX3_readTable 6 none D cA) (hx : HS hr ad) {H : Heap} {locs : List Loc} {x4 : Int32} {x5 : Int32} {g : GM} (hw : WS D cA ev hr ad A (KX ++ [(3, 2)]) s H locs g) {ls : Array Slot} (hl : lv_has ls 6 [(0, .ref (ad 42)), (1, .int x1), (4, .int x4), (5, .int x5)]) (h : F_X3_readTable_132B x1 kb132 (x4, x5, g) = some gz) : W p l e (RM 11 0 0) s m args below meth c H locs 0 0 (MQ below (QV D cA ev hr ad A (KX ++ [(3, 2)]) gz) args s 0 0 A) (F0 m 132 ls []) := by
  refine lv_iload C.1.1 C.1.2.1 dX3_readTable_132 (lv_at hl 3 rfl) ?_
  refine lv_iconst (v := 5) C.1.1 C.1.2.1 dX3_readTable_134 (by decide) ?_
  refine lv_icmp_gt (tgt := 195) C.1.1 C.1.2.1 dX3_readTable_135 (by decide) (fun hc => ?_) (fun hc => ?_)
  · replace h := ite_pos' h hc
    exact w_X3_readTable_195 C hx hw (lv_sub hl [0] rfl) h
  · replace h := ite_neg' h hc
    refine lv_iload C.1.1 C.1.2.1 dX3_readTable_138 (lv_at hl 2 rfl) ?_
    refine lv_if_eq (tgt := 195) C.1.1 C.1.2.1 dX3_readTable_140 (by decide) (fun hc => ?_) (fun hc => ?_)
    · replace h := ite_pos' h hc
      exact w_X3_readTable_195 C hx hw (lv_sub hl [0] rfl) h
    · replace h := ite_neg' h hc
      refine lv_aload_n C.1.1 C.1.2.1 dX3_readTable_143 rfl (lv_at hl 0 rfl) ?_
      refine lv_iload_n C.1.1 C.1.2.1 dX3_readTable_144 rfl (lv_at hl 1 rfl) ?_
      obtain ⟨g_5, hc, h⟩ := bnd_some h
      refine r_vV (dc := 10) (As := [.int x1]) (rest := []) C hw vX3_92 kLS42 (by decide) rfl (fun sz => c_X3_readColumn hx hc sz) (by decide) rfl rfl hl.1 (Nat.le_of_ble_eq_true rfl) dX3_readTable_145 ⟨Nat.le_refl _, Nat.le_refl _⟩ (fun H locs hw => ?_)
      refine lv_aload_n C.1.1 C.1.2.1 dX3_readTable_148 rfl (lv_at hl 0 rfl) ?_
      refine r_getR (v := .ref (ad 1)) C hw kLS42 fX3_9 rfl hx.2.1 dX3_readTable_149 ?_
      refine r_getI C hw (kx1 _) fX3_30 rfl dX3_readTable_152 ?_
      refine lv_if_ne (tgt := 174) C.1.1 C.1.2.1 dX3_readTable_155 (by decide) (fun hc => ?_) (fun hc => ?_)
      · replace h := ite_neg' h hc
        exact w_X3_readTable_174 kb132 hk132 C hx hw (lv_sub hl [0, 1, 3] rfl) h
      · replace h := ite_pos' h hc
        refine lv_aload_n C.1.1 C.1.2.1 dX3_readTable_158 rfl (lv_at hl 0 rfl) ?_
        refine r_getR (v := .ref (ad 1)) C hw kLS42 fX3_9 rfl hx.2.1 dX3_readTable_159 ?_
        refine r_getI C hw (kx1 _) fX3_34 rfl dX3_readTable_162 ?_
        refine lv_bipush (v := 44) C.1.1 C.1.2.1 dX3_readTable_165 (by decide) ?_
        refine lv_icmp_ne (tgt := 174) C.1.1 C.1.2.1 dX3_readTable_167 (by decide) (fun hc => ?_) (fun hc => ?_)
        · replace h := ite_neg' h hc
          exact w_X3_readTable_174 kb132 hk132 C hx hw (lv_sub hl [0, 1, 3] rfl) h
        · replace h := ite_pos' h hc
          refine lv_iconst (v := 1) C.1.1 C.1.2.1 dX3_readTable_170 (by decide) ?_
          refine lv_goto (tgt := 175) C.1.1 C.1.2.1 dX3_readTable_171 (by decide) ?_
          exact w_X3_readTable_175 kb132 hk132 C hx hw (lv_sub hl [0, 1, 3] rfl) h
set_option maxHeartbeats 4000000 in
set_option maxRecDepth 100000 in
theorem w_X3_readTable_132L {x1 : Int32} {gz : GM} (C : CX p s m args meth c RX3 yX3_readTable cX3_readTable 6 none D cA) (hx : HS hr ad) : ∀ (n : Nat) (x4 : Int32) (x5 : Int32) (g : GM) (H : Heap) (locs : List Loc) (ls : Array Slot), WS D cA ev hr ad A (KX ++ [(3, 2)]) s H locs g → lv_has ls 6 [(0, .ref (ad 42)), (1, .int x1), (4, .int x4), (5, .int x5)] → fixN (F_X3_readTable_132B x1) n (x4, x5, g) = some gz → W p l e (RM 11 0 0) s m args below meth c H locs 0 0 (MQ below (QV D cA ev hr ad A (KX ++ [(3, 2)]) gz) args s 0 0 A) (F0 m 132 ls []) := by
  intro n
  induction n with
  | zero => intro x4 x5 g H locs ls hw hl h; exact (fix_zero h).elim
  | succ n ih => intro x4 x5 g H locs ls hw hl h; exact w_X3_readTable_132 (fixN (F_X3_readTable_132B x1) n) ih C hx hw hl h
set_option maxHeartbeats 4000000 in
set_option maxRecDepth 100000 in
theorem w_X3_readTable_51 {x1 : Int32} {g : GM} {gz : GM} (C : CX p s m args meth c RX3 yX3_readTable cX3_readTable 6 none D cA) (hx : HS hr ad) {H : Heap} {locs : List Loc} (hw : WS D cA ev hr ad A (KX ++ [(3, 2)]) s H locs g) {ls : Array Slot} (hl : lv_has ls 6 [(0, .ref (ad 42)), (1, .int x1)]) (h : F_X3_readTable_51 x1 g = some gz) : W p l e (RM 11 0 0) s m args below meth c H locs 0 0 (MQ below (QV D cA ev hr ad A (KX ++ [(3, 2)]) gz) args s 0 0 A) (F0 m 51 ls []) := by
  refine lv_aload_n C.1.1 C.1.2.1 dX3_readTable_51 rfl (lv_at hl 0 rfl) ?_
  refine r_getR (v := .ref (ad 1)) C hw kLS42 fX3_9 rfl hx.2.1 dX3_readTable_52 ?_
  refine r_getL C hw (kx1 _) fX3_62 rfl dX3_readTable_55 ?_
  refine lv_lstore_n (lv' := [(2, .long (gl g 1 8)), (0, .ref (ad 42)), (1, .int x1)]) C.1.1 C.1.2.1 dX3_readTable_58 rfl hl (by decide) rfl (fun ls hl => ?_)
  refine lt_gen (P := fun x => lv_has ls 6 [(2, .long x), (0, .ref (ad 42)), (1, .int x1)]) h hl (fun x2_6 h hl => ?_)
  refine lv_aload_n C.1.1 C.1.2.1 dX3_readTable_59 rfl (lv_at hl 1 rfl) ?_
  refine r_getR (v := .ref (ad 1)) C hw kLS42 fX3_9 rfl hx.2.1 dX3_readTable_60 ?_
  refine lv_iconst (v := 2) C.1.1 C.1.2.1 dX3_readTable_63 (by decide) ?_
  obtain ⟨⟨r_7, g_8⟩, hc, h⟩ := bnd_some h
  refine r_vI (dc := 9) (As := [.int 2]) (rest := []) C hw vX3_77 (kx1 _) (by decide) rfl (fun sz => c_X4_take hx.1 hc sz) (by decide) rfl rfl hl.1 (Nat.le_of_ble_eq_true rfl) dX3_readTable_64 ⟨Nat.le_refl _, Nat.le_refl _⟩ (fun H locs hw => ?_)
  refine lv_if_eq (tgt := 82) C.1.1 C.1.2.1 dX3_readTable_67 (by decide) (fun hc => ?_) (fun hc => ?_)
  · replace h := ite_pos' h hc
    cases h
    exact r_vret C hw rfl dX3_readTable_82
  · replace h := ite_neg' h hc
    refine lv_aload_n C.1.1 C.1.2.1 dX3_readTable_70 rfl (lv_at hl 1 rfl) ?_
    refine r_getR (v := .ref (ad 1)) C hw kLS42 fX3_9 rfl hx.2.1 dX3_readTable_71 ?_
    refine lv_bipush (v := 58) C.1.1 C.1.2.1 dX3_readTable_74 (by decide) ?_
    obtain ⟨⟨r_9, g_10⟩, hc, h⟩ := bnd_some h
    refine r_vI (dc := 9) (As := [.int 58]) (rest := []) C hw vX3_77 (kx1 _) (by decide) rfl (fun sz => c_X4_take hx.1 hc sz) (by decide) rfl rfl hl.1 (Nat.le_of_ble_eq_true rfl) dX3_readTable_76 ⟨Nat.le_refl _, Nat.le_refl _⟩ (fun H locs hw => ?_)
    refine lv_if_ne (tgt := 83) C.1.1 C.1.2.1 dX3_readTable_79 (by decide) (fun hc => ?_) (fun hc => ?_)
    · replace h := ite_neg' h hc
      refine lv_aload_n C.1.1 C.1.2.1 dX3_readTable_83 rfl (lv_at hl 1 rfl) ?_
      refine r_getR (v := .ref (ad 17)) C hw kLS42 fX3_15 rfl hx.2.2 dX3_readTable_84 ?_
      refine r_getR (v := .ref (ad 18)) C hw (kx17 _) fX3_81 rfl (hx17_1 hx.1) dX3_readTable_87 ?_
      refine lv_iload_n C.1.1 C.1.2.1 dX3_readTable_90 rfl (lv_at hl 2 rfl) ?_
      refine lv_lload_n C.1.1 C.1.2.1 dX3_readTable_91 rfl (lv_at hl 0 rfl) ?_
      obtain ⟨hz, h⟩ := ck_some h
      refine r_last C hw (kx18 _) (inB_in hz) dX3_readTable_92 (fun H locs hw => ?_)
      refine lt_gen (P := fun g => WS D cA ev hr ad A (KX ++ [(3, 2)]) s H locs g) h hw (fun g_11 h hw => ?_)
      refine lv_aload_n C.1.1 C.1.2.1 dX3_readTable_93 rfl (lv_at hl 1 rfl) ?_
      refine r_getR (v := .ref (ad 17)) C hw kLS42 fX3_15 rfl hx.2.2 dX3_readTable_94 ?_
      refine r_getR (v := .ref (ad 19)) C hw (kx17 _) fX3_85 rfl (hx17_2 hx.1) dX3_readTable_97 ?_
      refine lv_iload_n C.1.1 C.1.2.1 dX3_readTable_100 rfl (lv_at hl 2 rfl) ?_
      refine lv_iconst (v := 0) C.1.1 C.1.2.1 dX3_readTable_101 (by decide) ?_
      obtain ⟨hz, h⟩ := ck_some h
      refine r_iast C hw (kx19 _) (inB_in hz) dX3_readTable_102 (fun H locs hw => ?_)
      refine lt_gen (P := fun g => WS D cA ev hr ad A (KX ++ [(3, 2)]) s H locs g) h hw (fun g_12 h hw => ?_)
      refine lv_aload_n C.1.1 C.1.2.1 dX3_readTable_103 rfl (lv_at hl 1 rfl) ?_
      refine r_getR (v := .ref (ad 17)) C hw kLS42 fX3_15 rfl hx.2.2 dX3_readTable_104 ?_
      refine r_getR (v := .ref (ad 20)) C hw (kx17 _) fX3_89 rfl (hx17_3 hx.1) dX3_readTable_107 ?_
      refine lv_iload_n C.1.1 C.1.2.1 dX3_readTable_110 rfl (lv_at hl 2 rfl) ?_
      refine lv_iconst (v := 0) C.1.1 C.1.2.1 dX3_readTable_111 (by decide) ?_
      obtain ⟨hz, h⟩ := ck_some h
      refine r_iast C hw (kx20 _) (inB_in hz) dX3_readTable_112 (fun H locs hw => ?_)
      refine lt_gen (P := fun g => WS D cA ev hr ad A (KX ++ [(3, 2)]) s H locs g) h hw (fun g_13 h hw => ?_)
      refine lv_aload_n C.1.1 C.1.2.1 dX3_readTable_113 rfl (lv_at hl 1 rfl) ?_
      refine r_getR (v := .ref (ad 17)) C hw kLS42 fX3_15 rfl hx.2.2 dX3_readTable_114 ?_
      refine lv_dup C.1.1 C.1.2.1 dX3_readTable_117 rfl ?_
      refine r_getI C hw (kx17 _) fX3_37 rfl dX3_readTable_118 ?_
      refine lv_iconst (v := 1) C.1.1 C.1.2.1 dX3_readTable_121 (by decide) ?_
      refine lv_iadd C.1.1 C.1.2.1 dX3_readTable_122 ?_
      refine r_putI C hw (kx17 _) fX3_37 rfl rfl (Or.inl rfl) dX3_readTable_123 (fun H locs hw => ?_)
      refine lt_gen (P := fun g => WS D cA ev hr ad A (KX ++ [(3, 2)]) s H locs g) h hw (fun g_14 h hw => ?_)
      refine lv_iconst (v := 1) C.1.1 C.1.2.1 dX3_readTable_126 (by decide) ?_
      refine lv_istore (lv' := [(4, .int 1), (2, .long x2_6), (0, .ref (ad 42)), (1, .int x1)]) C.1.1 C.1.2.1 dX3_readTable_127 hl (by decide) rfl (fun ls hl => ?_)
      refine lv_iconst (v := 0) C.1.1 C.1.2.1 dX3_readTable_129 (by decide) ?_
      refine lv_istore (lv' := [(5, .int 0), (4, .int 1), (2, .long x2_6), (0, .ref (ad 42)), (1, .int x1)]) C.1.1 C.1.2.1 dX3_readTable_130 hl (by decide) rfl (fun ls hl => ?_)
      exact w_X3_readTable_132L C hx FU _ _ _ _ _ _ hw (lv_sub hl [3, 4, 1, 0] rfl) h
    · replace h := ite_pos' h hc
      cases h
      exact r_vret C hw rfl dX3_readTable_82
set_option maxHeartbeats 4000000 in
set_option maxRecDepth 100000 in
theorem w_X3_readTable_0 (C : CX p s m args meth c RX3 yX3_readTable cX3_readTable 6 none D cA) (hx : HS hr ad) {H : Heap} {locs : List Loc} {g : GM} (hw : WS D cA ev hr ad A (KX ++ [(3, 2)]) s H locs g) {a1 : Int32} {ls : Array Slot} (hl : lv_has ls 6 [(0, .ref (ad 42)), (1, .int a1)]) {gz : GM} (h : F_X3_readTable a1 g = some gz) : W p l e (RM 11 0 0) s m args below meth c H locs 0 0 (MQ below (QV D cA ev hr ad A (KX ++ [(3, 2)]) gz) args s 0 0 A) (F0 m 0 ls []) := by
  refine lv_aload_n C.1.1 C.1.2.1 dX3_readTable_0 rfl (lv_at hl 0 rfl) ?_
  refine r_getR (v := .ref (ad 1)) C hw kLS42 fX3_9 rfl hx.2.1 dX3_readTable_1 ?_
  obtain ⟨g_15, hc, h⟩ := bnd_some h
  refine r_vV (dc := 8) (As := []) (rest := []) C hw vX3_59 (kx1 _) (by decide) rfl (fun sz => c_X4_advance hx.1 hc sz) (by decide) rfl rfl hl.1 (Nat.le_of_ble_eq_true rfl) dX3_readTable_4 ⟨Nat.le_refl _, Nat.le_refl _⟩ (fun H locs hw => ?_)
  refine lv_aload_n C.1.1 C.1.2.1 dX3_readTable_7 rfl (lv_at hl 0 rfl) ?_
  refine r_getR (v := .ref (ad 1)) C hw kLS42 fX3_9 rfl hx.2.1 dX3_readTable_8 ?_
  refine r_getI C hw (kx1 _) fX3_34 rfl dX3_readTable_11 ?_
  refine lv_iconst (v := 2) C.1.1 C.1.2.1 dX3_readTable_14 (by decide) ?_
  refine lv_icmp_ne (tgt := 51) C.1.1 C.1.2.1 dX3_readTable_15 (by decide) (fun hc => ?_) (fun hc => ?_)
  · replace h := ite_neg' h hc
    exact w_X3_readTable_51 C hx hw hl h
  · replace h := ite_pos' h hc
    refine lv_aload_n C.1.1 C.1.2.1 dX3_readTable_18 rfl (lv_at hl 0 rfl) ?_
    refine r_getR (v := .ref (ad 17)) C hw kLS42 fX3_15 rfl hx.2.2 dX3_readTable_19 ?_
    refine lv_aload_n C.1.1 C.1.2.1 dX3_readTable_22 rfl (lv_at hl 0 rfl) ?_
    refine r_getR (v := .ref (ad 1)) C hw kLS42 fX3_9 rfl hx.2.1 dX3_readTable_23 ?_
    refine r_getL C hw (kx1 _) fX3_62 rfl dX3_readTable_26 ?_
    obtain ⟨r_16, hc, h⟩ := bnd_some h
    refine r_vI (dc := 1) (As := [.long (gl g_15 1 8)]) (rest := []) C hw vX3_66 (kx17 _) (by decide) rfl (fun sz => c_X2_tableNamed_p hx.1 hc sz) (by decide) rfl rfl hl.1 (Nat.le_of_ble_eq_true rfl) dX3_readTable_29 ⟨Nat.le_refl _, Nat.le_refl _⟩ (fun H locs hw => ?_)
    refine lv_iconst (v := (-1)) C.1.1 C.1.2.1 dX3_readTable_32 (by decide) ?_
    refine lv_icmp_eq (tgt := 51) C.1.1 C.1.2.1 dX3_readTable_33 (by decide) (fun hc => ?_) (fun hc => ?_)
    · replace h := ite_pos' h hc
      exact w_X3_readTable_51 C hx hw hl h
    · replace h := ite_neg' h hc
      refine lv_aload_n C.1.1 C.1.2.1 dX3_readTable_36 rfl (lv_at hl 0 rfl) ?_
      refine r_getR (v := .ref (ad 1)) C hw kLS42 fX3_9 rfl hx.2.1 dX3_readTable_37 ?_
      refine lv_iconst (v := 3) C.1.1 C.1.2.1 dX3_readTable_40 (by decide) ?_
      refine lv_aload_n C.1.1 C.1.2.1 dX3_readTable_41 rfl (lv_at hl 0 rfl) ?_
      refine r_getR (v := .ref (ad 1)) C hw kLS42 fX3_9 rfl hx.2.1 dX3_readTable_42 ?_
      refine r_getI C hw (kx1 _) fX3_70 rfl dX3_readTable_45 ?_
      obtain ⟨g_17, hc, h⟩ := bnd_some h
      refine r_vV (dc := 1) (As := [.int 3, .int (gi g_15 1 6)]) (rest := []) C hw vX3_73 (kx1 _) (by decide) rfl (fun sz => c_X4_refuse hx.1 hc sz) (by decide) rfl rfl hl.1 (Nat.le_of_ble_eq_true rfl) dX3_readTable_48 ⟨Nat.le_refl _, Nat.le_refl _⟩ (fun H locs hw => ?_)
      exact w_X3_readTable_51 C hx hw hl h
set_option maxHeartbeats 4000000 in
set_option maxRecDepth 100000 in
theorem c_X3_readTable (hx : HS hr ad) {a1 : Int32} {g : GM} {gz : GM} (h : F_X3_readTable a1 g = some gz) (sz : Nat) : Met l yX3_readTable (WSX yX3_readTable cX3_readTable 6 none) (RM 11 0 0) (va_Pc [.ref (ad 42), .int a1] (PX D cA ev hr ad (KX ++ [(3, 2)]) g sz)) (QV D cA ev hr ad (AX ad (KX ++ [(3, 2)]).length sz) (KX ++ [(3, 2)]) gz) 0 0 (AX ad (KX ++ [(3, 2)]).length sz) :=
  met_of (own := RX3) pnX3 rfl (Nat.le_of_ble_eq_true rfl) (fun p e s m below meth c ls C hw hsz hl => w_X3_readTable_0 C hx hw hl h)
set_option maxHeartbeats 4000000 in
set_option maxRecDepth 100000 in
theorem w_X2_hasTable_p_16 {g : GM} {r : Int32} (C : CX p s m args meth c RX2 yX2_hasTable cX2_hasTable 2 (some .boolean) D cA) (hx : HX hr ad) {H : Heap} {locs : List Loc} (hw : WS D cA ev hr ad A (KX ++ tl) s H locs g) {ls : Array Slot} (hl : lv_has ls 2 []) (h : F_X2_hasTable_p_16 g = some r) : W p l e (RM 1 0 0) s m args below meth c H locs 0 0 (MQ below (QI D cA ev hr ad A (KX ++ tl) r g) args s 0 0 A) (F0 m 16 ls []) := by
  refine lv_iconst (v := 0) C.1.1 C.1.2.1 dX2_hasTable_16 (by decide) ?_
  cases h
  exact r_iret C hw (Or.inr ⟨rfl, Or.inl rfl⟩) dX2_hasTable_17
set_option maxHeartbeats 4000000 in
set_option maxRecDepth 100000 in
theorem w_X2_hasTable_p_0 (C : CX p s m args meth c RX2 yX2_hasTable cX2_hasTable 2 (some .boolean) D cA) (hx : HX hr ad) {H : Heap} {locs : List Loc} {g : GM} (hw : WS D cA ev hr ad A (KX ++ tl) s H locs g) {a1 : Int32} {ls : Array Slot} (hl : lv_has ls 2 [(0, .ref (ad 17)), (1, .int a1)]) {r : Int32} (h : F_X2_hasTable_p a1 g = some r) : W p l e (RM 1 0 0) s m args below meth c H locs 0 0 (MQ below (QI D cA ev hr ad A (KX ++ tl) r g) args s 0 0 A) (F0 m 0 ls []) := by
  refine lv_iload_n C.1.1 C.1.2.1 dX2_hasTable_0 rfl (lv_at hl 1 rfl) ?_
  refine lv_if_lt (tgt := 16) C.1.1 C.1.2.1 dX2_hasTable_1 (by decide) (fun hc => ?_) (fun hc => ?_)
  · replace h := ite_pos' h hc
    exact w_X2_hasTable_p_16 C hx hw (lv_sub hl [] rfl) h
  · replace h := ite_neg' h hc
    refine lv_iload_n C.1.1 C.1.2.1 dX2_hasTable_4 rfl (lv_at hl 1 rfl) ?_
    refine lv_aload_n C.1.1 C.1.2.1 dX2_hasTable_5 rfl (lv_at hl 0 rfl) ?_
    refine r_getI C hw (kx17 _) fX2_43 rfl dX2_hasTable_6 ?_
    refine lv_icmp_ge (tgt := 16) C.1.1 C.1.2.1 dX2_hasTable_9 (by decide) (fun hc => ?_) (fun hc => ?_)
    · replace h := ite_pos' h hc
      exact w_X2_hasTable_p_16 C hx hw (lv_sub hl [] rfl) h
    · replace h := ite_neg' h hc
      refine lv_iconst (v := 1) C.1.1 C.1.2.1 dX2_hasTable_12 (by decide) ?_
      refine lv_goto (tgt := 17) C.1.1 C.1.2.1 dX2_hasTable_13 (by decide) ?_
      cases h
      exact r_iret C hw (Or.inr ⟨rfl, Or.inr rfl⟩) dX2_hasTable_17
set_option maxHeartbeats 4000000 in
set_option maxRecDepth 100000 in
theorem c_X2_hasTable_p (hx : HX hr ad) {a1 : Int32} {g : GM} {r : Int32} (h : F_X2_hasTable_p a1 g = some r) (sz : Nat) : Met l yX2_hasTable (WSX yX2_hasTable cX2_hasTable 2 (some .boolean)) (RM 1 0 0) (va_Pc [.ref (ad 17), .int a1] (PX D cA ev hr ad (KX ++ tl) g sz)) (QI D cA ev hr ad (AX ad (KX ++ tl).length sz) (KX ++ tl) r g) 0 0 (AX ad (KX ++ tl).length sz) :=
  met_of (own := RX2) pnX2 rfl (Nat.le_of_ble_eq_true rfl) (fun p e s m below meth c ls C hw hsz hl => w_X2_hasTable_p_0 C hx hw hl h)
set_option maxHeartbeats 4000000 in
set_option maxRecDepth 100000 in
theorem w_X2_target_p_0 (C : CX p s m args meth c RX2 yX2_target cX2_target 3 (some .int) D cA) (hx : HX hr ad) {H : Heap} {locs : List Loc} {g : GM} (hw : WS D cA ev hr ad A (KX ++ tl) s H locs g) {a1 : Int32} {a2 : Int32} {ls : Array Slot} (hl : lv_has ls 3 [(0, .ref (ad 17)), (1, .int a1), (2, .int a2)]) {r : Int32} (h : F_X2_target_p a1 a2 g = some r) : W p l e (RM 2 0 0) s m args below meth c H locs 0 0 (MQ below (QI D cA ev hr ad A (KX ++ tl) r g) args s 0 0 A) (F0 m 0 ls []) := by
  refine lv_aload_n C.1.1 C.1.2.1 dX2_target_0 rfl (lv_at hl 0 rfl) ?_
  refine lv_iload_n C.1.1 C.1.2.1 dX2_target_1 rfl (lv_at hl 1 rfl) ?_
  refine lv_iload_n C.1.1 C.1.2.1 dX2_target_2 rfl (lv_at hl 2 rfl) ?_
  obtain ⟨r_1, hc, h⟩ := bnd_some h
  refine r_vI (dc := 1) (As := [.int a1, .int a2]) (rest := []) C hw vX2_56 (kx17 _) (by decide) rfl (fun sz => c_X2_hasColumn_p hx hc sz) (by decide) rfl rfl hl.1 (Nat.le_of_ble_eq_true rfl) dX2_target_3 ⟨Nat.le_refl _, Nat.le_refl _⟩ (fun H locs hw => ?_)
  refine lv_if_eq (tgt := 22) C.1.1 C.1.2.1 dX2_target_6 (by decide) (fun hc => ?_) (fun hc => ?_)
  · replace h := ite_pos' h hc
    refine lv_iconst (v := (-1)) C.1.1 C.1.2.1 dX2_target_22 (by decide) ?_
    cases h
    exact r_iret C hw (Or.inl rfl) dX2_target_23
  · replace h := ite_neg' h hc
    refine lv_aload_n C.1.1 C.1.2.1 dX2_target_9 rfl (lv_at hl 0 rfl) ?_
    refine r_getR (v := .ref (ad 22)) C hw (kx17 _) fX2_25 rfl (hx17_5 hx) dX2_target_10 ?_
    refine lv_iload_n C.1.1 C.1.2.1 dX2_target_13 rfl (lv_at hl 1 rfl) ?_
    refine lv_iload_n C.1.1 C.1.2.1 dX2_target_14 rfl (lv_at hl 2 rfl) ?_
    obtain ⟨r_2, hc, h⟩ := bnd_some h
    refine r_nI (dc := 1) (As := [.int a1, .int a2]) (rest := [.ref (ad 22)]) C hw nX2_60 (fun sz => c_X6_slot hx hc sz) (by decide) rfl rfl hl.1 (Nat.le_of_ble_eq_true rfl) dX2_target_15 ⟨Nat.le_refl _, Nat.le_refl _⟩ (fun H locs hw => ?_)
    obtain ⟨hz, h⟩ := ck_some h
    refine r_iald C hw (kx22 _) (inB_in hz) dX2_target_18 ?_
    refine lv_goto (tgt := 23) C.1.1 C.1.2.1 dX2_target_19 (by decide) ?_
    cases h
    exact r_iret C hw (Or.inl rfl) dX2_target_23
set_option maxHeartbeats 4000000 in
set_option maxRecDepth 100000 in
theorem c_X2_target_p (hx : HX hr ad) {a1 : Int32} {a2 : Int32} {g : GM} {r : Int32} (h : F_X2_target_p a1 a2 g = some r) (sz : Nat) : Met l yX2_target (WSX yX2_target cX2_target 3 (some .int)) (RM 2 0 0) (va_Pc [.ref (ad 17), .int a1, .int a2] (PX D cA ev hr ad (KX ++ tl) g sz)) (QI D cA ev hr ad (AX ad (KX ++ tl).length sz) (KX ++ tl) r g) 0 0 (AX ad (KX ++ tl).length sz) :=
  met_of (own := RX2) pnX2 rfl (Nat.le_of_ble_eq_true rfl) (fun p e s m below meth c ls C hw hsz hl => w_X2_target_p_0 C hx hw hl h)
end WX0

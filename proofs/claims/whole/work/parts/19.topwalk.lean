section WT
variable {p : Program} {l : Launch} {e : Env} {s : State} {m : MethodId} {args : Array Value} {below : List Frame} {meth : Method} {c : Code} {D : va_G} {cA : Nat → ClassId} {ev : EVa} {hr : Nat → Nat → Value} {ad : Nat → Nat} {A : Nat → Prop}
set_option maxHeartbeats 4000000 in
set_option maxRecDepth 100000 in
theorem w_X6_least_0 (C : CX p s m args meth c RX6 yX6_least cX6_least 1 (some .int) D cA) (hx : HX hr ad) {H : Heap} {locs : List Loc} {g : GM} (hw : WS D cA ev hr ad A (KX ++ []) s H locs g) {ls : Array Slot} (hl : lv_has ls 1 [(0, .ref (ad 0))]) {r : Int32} {gz : GM} (h : F_X6_least g = some (r, gz)) : W p l e (RM 250 1 6) s m args below meth c H locs 0 0 (MQ below (QI D cA ev hr ad A (KX ++ []) r gz) args s 1 6 A) (F0 m 0 ls []) := by
  refine lv_aload_n C.1.1 C.1.2.1 dX6_least_0 rfl (lv_at hl 0 rfl) ?_
  refine r_getI (i := 0) C hw (by rfl) fX6_129 rfl dX6_least_1 ?_
  refine lv_if_ne (tgt := 70) C.1.1 C.1.2.1 dX6_least_4 (by decide) (fun hc => ?_) (fun hc => ?_)
  · replace h := ite_neg' h hc
    refine lv_aload_n C.1.1 C.1.2.1 dX6_least_70 rfl (lv_at hl 0 rfl) ?_
    refine r_getI (i := 0) C hw (by rfl) fX6_142 rfl dX6_least_71 ?_
    cases h
    refine W.widen (k := 1) (n := 6) (by decide) (by decide) ?_
    exact r_iret C hw (Or.inl rfl) dX6_least_74
  · replace h := ite_pos' h hc
    refine lv_aload_n C.1.1 C.1.2.1 dX6_least_7 rfl (lv_at hl 0 rfl) ?_
    refine r_new (c0 := 0) (n := 42) (kl' := KX ++ [(0, 6)]) C hw (by decide) kz645 kz646 kz16 (by rfl) (by rfl) (Nat.le_of_ble_eq_true rfl) (Nat.le_of_ble_eq_true rfl) dX6_least_8 (fun q42 H hw => ?_)
    refine lt_gen (P := fun g => WS D cA ev (un hr 42) (up ad 42 q42) A (KX ++ [(0, 6)]) s H locs g) h hw (fun g_1 h hw => ?_)
    refine lv_dup C.1.1 C.1.2.1 dX6_least_11 rfl ?_
    refine lv_aload_n C.1.1 C.1.2.1 dX6_least_12 rfl (lv_at hl 0 rfl) ?_
    refine r_getR (i := 0) (v := .ref (ad 6)) C hw (by rfl) fX6_26 rfl (show hr 0 3 = .ref (ad 6) from hx0_3 hx) dX6_least_13 ?_
    refine lv_aload_n C.1.1 C.1.2.1 dX6_least_16 rfl (lv_at hl 0 rfl) ?_
    refine r_getR (i := 0) (v := .ref (ad 28)) C hw (by rfl) fX6_36 rfl (show hr 0 5 = .ref (ad 28) from hx0_5 hx) dX6_least_17 ?_
    refine lv_aload_n C.1.1 C.1.2.1 dX6_least_20 rfl (lv_at hl 0 rfl) ?_
    refine r_getI (i := 0) C hw (by rfl) fX6_69 rfl dX6_least_21 ?_
    refine lv_iconst (v := 0) C.1.1 C.1.2.1 dX6_least_24 (by decide) ?_
    obtain ⟨g_2, hc, h⟩ := bnd_some h
    refine r_iVA (i := 42) (dc := 2) (As := [.ref (ad 6), .ref (ad 28), .int (gi g_1 0 7), .int 0]) (rest := [.ref q42, .ref (ad 0)]) C hw iX6_135 (fun sz => c_X0_init hc sz) (by decide) rfl rfl hl.1 (Nat.le_of_ble_eq_true rfl) dX6_least_25 (by decide) (fun b43 H locs hw => ?_)
    have h1 : ∀ i, i < 42 → (hr_X0_init (un hr 42) (ex (up ad 42 q42) 43 b43)) i = hr i := fun i hi => by have hi2 : i ≠ 42 := (by omega); have hi3 : i ≠ 43 := (by omega); simp only [hr_X0_init, ur_off hi2, un_off hi2, un_off hi3]
    have h2 : ∀ i, i < 42 → (ex (up ad 42 q42) 43 b43) i = ad i := fun i hi => by simp only [ex, up]; rw [if_pos (by omega), if_neg (by omega)]
    have hx1 : HC (hr_X0_init (un hr 42) (ex (up ad 42 q42) 43 b43)) (ex (up ad 42 q42) 43 b43) := ⟨hx.cong h1 h2, rfl, rfl⟩
    obtain ⟨⟨r_3, g_4⟩, hc, h⟩ := bnd_some h
    refine r_vI (i := 42) (dc := 245) (As := []) (rest := [.ref (ad 0)]) C hw vX6_138 (by rfl) (by decide) rfl (fun sz => c_X0_cut hx1 hc sz) (by decide) rfl rfl hl.1 (Nat.le_of_ble_eq_true rfl) dX6_least_28 (by decide) (fun H locs hw => ?_)
    have hw := WS.drop hw h1 h2
    refine r_putI (i := 0) C hw (by rfl) fX6_142 rfl rfl (Or.inl rfl) dX6_least_31 (fun H locs hw => ?_)
    refine lt_gen (P := fun g => WS D cA ev hr ad A (KX ++ []) s H locs g) h hw (fun g_5 h hw => ?_)
    refine lv_aload_n C.1.1 C.1.2.1 dX6_least_34 rfl (lv_at hl 0 rfl) ?_
    refine lv_iconst (v := 1) C.1.1 C.1.2.1 dX6_least_35 (by decide) ?_
    refine r_putZ (i := 0) C hw (by rfl) fX6_129 rfl rfl (Or.inr rfl) (Or.inl rfl) dX6_least_36 (fun H locs hw => ?_)
    refine lt_gen (P := fun g => WS D cA ev hr ad A (KX ++ []) s H locs g) h hw (fun g_6 h hw => ?_)
    refine lv_aload_n C.1.1 C.1.2.1 dX6_least_39 rfl (lv_at hl 0 rfl) ?_
    refine lv_aload_n C.1.1 C.1.2.1 dX6_least_40 rfl (lv_at hl 0 rfl) ?_
    refine r_getI (i := 0) C hw (by rfl) fX6_142 rfl dX6_least_41 ?_
    refine lv_iconst (v := (-1)) C.1.1 C.1.2.1 dX6_least_44 (by decide) ?_
    refine lv_icmp_ne (tgt := 52) C.1.1 C.1.2.1 dX6_least_45 (by decide) (fun hc => ?_) (fun hc => ?_)
    · replace h := ite_neg' h hc
      refine lv_aload_n C.1.1 C.1.2.1 dX6_least_52 rfl (lv_at hl 0 rfl) ?_
      refine r_getR (i := 0) (v := .ref (ad 6)) C hw (by rfl) fX6_26 rfl (show hr 0 3 = .ref (ad 6) from hx0_3 hx) dX6_least_53 ?_
      refine lv_aload_n C.1.1 C.1.2.1 dX6_least_56 rfl (lv_at hl 0 rfl) ?_
      refine r_getI (i := 0) C hw (by rfl) fX6_142 rfl dX6_least_57 ?_
      refine lv_aload_n C.1.1 C.1.2.1 dX6_least_60 rfl (lv_at hl 0 rfl) ?_
      refine r_getR (i := 0) (v := .ref (ad 5)) C hw (by rfl) fX6_20 rfl (show hr 0 2 = .ref (ad 5) from hx0_2 hx) dX6_least_61 ?_
      obtain ⟨⟨r_7, g_8⟩, hc, h⟩ := bnd_some h
      refine r_vI (i := 6) (dc := 3) (As := [.int (gi g_6 0 10), .ref (ad 5)]) (rest := [.ref (ad 0)]) C hw vX6_145 (kx6 _) (by decide) rfl (fun sz => c_X2_lineUp_s5 hx hc sz) (by decide) rfl rfl hl.1 (Nat.le_of_ble_eq_true rfl) dX6_least_64 (by decide) (fun H locs hw => ?_)
      refine r_putI (i := 0) C hw (by rfl) fX6_149 rfl rfl (Or.inl rfl) dX6_least_67 (fun H locs hw => ?_)
      refine lt_gen (P := fun g => WS D cA ev hr ad A (KX ++ []) s H locs g) h hw (fun g_9 h hw => ?_)
      refine lv_aload_n C.1.1 C.1.2.1 dX6_least_70 rfl (lv_at hl 0 rfl) ?_
      refine r_getI (i := 0) C hw (by rfl) fX6_142 rfl dX6_least_71 ?_
      cases h
      exact r_iret C hw (Or.inl rfl) dX6_least_74
    · replace h := ite_pos' h hc
      refine lv_iconst (v := 0) C.1.1 C.1.2.1 dX6_least_48 (by decide) ?_
      refine lv_goto (tgt := 67) C.1.1 C.1.2.1 dX6_least_49 (by decide) ?_
      refine r_putI (i := 0) C hw (by rfl) fX6_149 rfl rfl (Or.inl rfl) dX6_least_67 (fun H locs hw => ?_)
      refine lt_gen (P := fun g => WS D cA ev hr ad A (KX ++ []) s H locs g) h hw (fun g_10 h hw => ?_)
      refine lv_aload_n C.1.1 C.1.2.1 dX6_least_70 rfl (lv_at hl 0 rfl) ?_
      refine r_getI (i := 0) C hw (by rfl) fX6_142 rfl dX6_least_71 ?_
      cases h
      exact r_iret C hw (Or.inl rfl) dX6_least_74
set_option maxHeartbeats 4000000 in
set_option maxRecDepth 100000 in
theorem c_X6_least (hx : HX hr ad) {g : GM} {r : Int32} {gz : GM} (h : F_X6_least g = some (r, gz)) (sz : Nat) : Met l yX6_least (WSX yX6_least cX6_least 1 (some .int)) (RM 250 1 6) (va_Pc [.ref (ad 0)] (PX D cA ev hr ad (KX ++ []) g sz)) (QI D cA ev hr ad (AX ad (KX ++ []).length sz) (KX ++ []) r gz) 1 6 (AX ad (KX ++ []).length sz) :=
  met_of (own := RX6) pnX6 rfl (Nat.le_of_ble_eq_true rfl) (fun p e s m below meth c ls C hw hsz hl => w_X6_least_0 C hx hw hl h)
set_option maxHeartbeats 4000000 in
set_option maxRecDepth 100000 in
theorem w_X6_steady_0 (C : CX p s m args meth c RX6 yX6_steady cX6_steady 1 (some .int) D cA) (hx : HX hr ad) {H : Heap} {locs : List Loc} {g : GM} (hw : WS D cA ev hr ad A (KX ++ []) s H locs g) {ls : Array Slot} (hl : lv_has ls 1 [(0, .ref (ad 0))]) {r : Int32} {gz : GM} (h : F_X6_steady g = some (r, gz)) : W p l e (RM 250 1 6) s m args below meth c H locs 0 0 (MQ below (QI D cA ev hr ad A (KX ++ []) r gz) args s 1 6 A) (F0 m 0 ls []) := by
  refine lv_aload_n C.1.1 C.1.2.1 dX6_steady_0 rfl (lv_at hl 0 rfl) ?_
  refine r_getI (i := 0) C hw (by rfl) fX6_155 rfl dX6_steady_1 ?_
  refine lv_if_ne (tgt := 42) C.1.1 C.1.2.1 dX6_steady_4 (by decide) (fun hc => ?_) (fun hc => ?_)
  · replace h := ite_neg' h hc
    refine lv_aload_n C.1.1 C.1.2.1 dX6_steady_42 rfl (lv_at hl 0 rfl) ?_
    refine r_getI (i := 0) C hw (by rfl) fX6_158 rfl dX6_steady_43 ?_
    cases h
    refine W.widen (k := 1) (n := 6) (by decide) (by decide) ?_
    exact r_iret C hw (Or.inl rfl) dX6_steady_46
  · replace h := ite_pos' h hc
    refine lv_aload_n C.1.1 C.1.2.1 dX6_steady_7 rfl (lv_at hl 0 rfl) ?_
    refine r_new (c0 := 0) (n := 42) (kl' := KX ++ [(0, 6)]) C hw (by decide) kz645 kz646 kz16 (by rfl) (by rfl) (Nat.le_of_ble_eq_true rfl) (Nat.le_of_ble_eq_true rfl) dX6_steady_8 (fun q42 H hw => ?_)
    refine lt_gen (P := fun g => WS D cA ev (un hr 42) (up ad 42 q42) A (KX ++ [(0, 6)]) s H locs g) h hw (fun g_1 h hw => ?_)
    refine lv_dup C.1.1 C.1.2.1 dX6_steady_11 rfl ?_
    refine lv_aload_n C.1.1 C.1.2.1 dX6_steady_12 rfl (lv_at hl 0 rfl) ?_
    refine r_getR (i := 0) (v := .ref (ad 6)) C hw (by rfl) fX6_26 rfl (show hr 0 3 = .ref (ad 6) from hx0_3 hx) dX6_steady_13 ?_
    refine lv_aload_n C.1.1 C.1.2.1 dX6_steady_16 rfl (lv_at hl 0 rfl) ?_
    refine r_getR (i := 0) (v := .ref (ad 28)) C hw (by rfl) fX6_36 rfl (show hr 0 5 = .ref (ad 28) from hx0_5 hx) dX6_steady_17 ?_
    refine lv_aload_n C.1.1 C.1.2.1 dX6_steady_20 rfl (lv_at hl 0 rfl) ?_
    refine r_getI (i := 0) C hw (by rfl) fX6_69 rfl dX6_steady_21 ?_
    refine lv_aload_n C.1.1 C.1.2.1 dX6_steady_24 rfl (lv_at hl 0 rfl) ?_
    refine r_getI (i := 0) C hw (by rfl) fX6_72 rfl dX6_steady_25 ?_
    obtain ⟨g_2, hc, h⟩ := bnd_some h
    refine r_iVA (i := 42) (dc := 2) (As := [.ref (ad 6), .ref (ad 28), .int (gi g_1 0 7), .int (gi g_1 0 8)]) (rest := [.ref q42, .ref (ad 0)]) C hw iX6_135 (fun sz => c_X0_init hc sz) (by decide) rfl rfl hl.1 (Nat.le_of_ble_eq_true rfl) dX6_steady_28 (by decide) (fun b43 H locs hw => ?_)
    have h1 : ∀ i, i < 42 → (hr_X0_init (un hr 42) (ex (up ad 42 q42) 43 b43)) i = hr i := fun i hi => by have hi2 : i ≠ 42 := (by omega); have hi3 : i ≠ 43 := (by omega); simp only [hr_X0_init, ur_off hi2, un_off hi2, un_off hi3]
    have h2 : ∀ i, i < 42 → (ex (up ad 42 q42) 43 b43) i = ad i := fun i hi => by simp only [ex, up]; rw [if_pos (by omega), if_neg (by omega)]
    have hx1 : HC (hr_X0_init (un hr 42) (ex (up ad 42 q42) 43 b43)) (ex (up ad 42 q42) 43 b43) := ⟨hx.cong h1 h2, rfl, rfl⟩
    obtain ⟨⟨r_3, g_4⟩, hc, h⟩ := bnd_some h
    refine r_vI (i := 42) (dc := 245) (As := []) (rest := [.ref (ad 0)]) C hw vX6_138 (by rfl) (by decide) rfl (fun sz => c_X0_cut hx1 hc sz) (by decide) rfl rfl hl.1 (Nat.le_of_ble_eq_true rfl) dX6_steady_31 (by decide) (fun H locs hw => ?_)
    have hw := WS.drop hw h1 h2
    refine r_putI (i := 0) C hw (by rfl) fX6_158 rfl rfl (Or.inl rfl) dX6_steady_34 (fun H locs hw => ?_)
    refine lt_gen (P := fun g => WS D cA ev hr ad A (KX ++ []) s H locs g) h hw (fun g_5 h hw => ?_)
    refine lv_aload_n C.1.1 C.1.2.1 dX6_steady_37 rfl (lv_at hl 0 rfl) ?_
    refine lv_iconst (v := 1) C.1.1 C.1.2.1 dX6_steady_38 (by decide) ?_
    refine r_putZ (i := 0) C hw (by rfl) fX6_155 rfl rfl (Or.inr rfl) (Or.inl rfl) dX6_steady_39 (fun H locs hw => ?_)
    refine lt_gen (P := fun g => WS D cA ev hr ad A (KX ++ []) s H locs g) h hw (fun g_6 h hw => ?_)
    refine lv_aload_n C.1.1 C.1.2.1 dX6_steady_42 rfl (lv_at hl 0 rfl) ?_
    refine r_getI (i := 0) C hw (by rfl) fX6_158 rfl dX6_steady_43 ?_
    cases h
    exact r_iret C hw (Or.inl rfl) dX6_steady_46
set_option maxHeartbeats 4000000 in
set_option maxRecDepth 100000 in
theorem c_X6_steady (hx : HX hr ad) {g : GM} {r : Int32} {gz : GM} (h : F_X6_steady g = some (r, gz)) (sz : Nat) : Met l yX6_steady (WSX yX6_steady cX6_steady 1 (some .int)) (RM 250 1 6) (va_Pc [.ref (ad 0)] (PX D cA ev hr ad (KX ++ []) g sz)) (QI D cA ev hr ad (AX ad (KX ++ []).length sz) (KX ++ []) r gz) 1 6 (AX ad (KX ++ []).length sz) :=
  met_of (own := RX6) pnX6 rfl (Nat.le_of_ble_eq_true rfl) (fun p e s m below meth c ls C hw hsz hl => w_X6_steady_0 C hx hw hl h)
set_option maxHeartbeats 4000000 in
set_option maxRecDepth 100000 in
theorem w_X6_piece_0 (C : CX p s m args meth c RX6 yX6_piece cX6_piece 2 (some .int) D cA) (hx : HX hr ad) {H : Heap} {locs : List Loc} {g : GM} (hw : WS D cA ev hr ad A (KX ++ []) s H locs g) {a1 : Int32} {ls : Array Slot} (hl : lv_has ls 2 [(0, .ref (ad 0)), (1, .int a1)]) {r : Int32} {gz : GM} (h : F_X6_piece a1 g = some (r, gz)) : W p l e (RM 20 1 6) s m args below meth c H locs 0 0 (MQ below (QI D cA ev hr ad A (KX ++ []) r gz) args s 1 6 A) (F0 m 0 ls []) := by
  refine lv_iload_n C.1.1 C.1.2.1 dX6_piece_0 rfl (lv_at hl 1 rfl) ?_
  refine lv_aload_n C.1.1 C.1.2.1 dX6_piece_1 rfl (lv_at hl 0 rfl) ?_
  refine r_getR (i := 0) (v := .ref (ad 6)) C hw (by rfl) fX6_26 rfl (show hr 0 3 = .ref (ad 6) from hx0_3 hx) dX6_piece_2 ?_
  obtain ⟨r_1, hc, h⟩ := bnd_some h
  refine r_vI (i := 6) (dc := 1) (As := []) (rest := [.int a1]) C hw vX6_161 (kx6 _) (by decide) rfl (fun sz => c_X2_allRows_s hx hc sz) (by decide) rfl rfl hl.1 (Nat.le_of_ble_eq_true rfl) dX6_piece_5 (by decide) (fun H locs hw => ?_)
  refine lv_iconst (v := (-1)) C.1.1 C.1.2.1 dX6_piece_8 (by decide) ?_
  refine lv_ixor C.1.1 C.1.2.1 dX6_piece_9 ?_
  refine lv_iand C.1.1 C.1.2.1 dX6_piece_10 ?_
  refine lv_if_eq (tgt := 16) C.1.1 C.1.2.1 dX6_piece_11 (by decide) (fun hc => ?_) (fun hc => ?_)
  · replace h := ite_pos' h hc
    refine r_new (c0 := 0) (n := 42) (kl' := KX ++ [(0, 6)]) C hw (by decide) kz645 kz646 kz16 (by rfl) (by rfl) (Nat.le_of_ble_eq_true rfl) (Nat.le_of_ble_eq_true rfl) dX6_piece_16 (fun q42 H hw => ?_)
    refine lt_gen (P := fun g => WS D cA ev (un hr 42) (up ad 42 q42) A (KX ++ [(0, 6)]) s H locs g) h hw (fun g_2 h hw => ?_)
    refine lv_dup C.1.1 C.1.2.1 dX6_piece_19 rfl ?_
    refine lv_aload_n C.1.1 C.1.2.1 dX6_piece_20 rfl (lv_at hl 0 rfl) ?_
    refine r_getR (i := 0) (v := .ref (ad 6)) C hw (by rfl) fX6_26 rfl (show hr 0 3 = .ref (ad 6) from hx0_3 hx) dX6_piece_21 ?_
    refine lv_aload_n C.1.1 C.1.2.1 dX6_piece_24 rfl (lv_at hl 0 rfl) ?_
    refine r_getR (i := 0) (v := .ref (ad 28)) C hw (by rfl) fX6_36 rfl (show hr 0 5 = .ref (ad 28) from hx0_5 hx) dX6_piece_25 ?_
    refine lv_aload_n C.1.1 C.1.2.1 dX6_piece_28 rfl (lv_at hl 0 rfl) ?_
    refine r_getI (i := 0) C hw (by rfl) fX6_69 rfl dX6_piece_29 ?_
    refine lv_iconst (v := 0) C.1.1 C.1.2.1 dX6_piece_32 (by decide) ?_
    obtain ⟨g_3, hc, h⟩ := bnd_some h
    refine r_iVA (i := 42) (dc := 2) (As := [.ref (ad 6), .ref (ad 28), .int (gi g_2 0 7), .int 0]) (rest := [.ref q42]) C hw iX6_135 (fun sz => c_X0_init hc sz) (by decide) rfl rfl hl.1 (Nat.le_of_ble_eq_true rfl) dX6_piece_33 (by decide) (fun b43 H locs hw => ?_)
    refine lv_iload_n C.1.1 C.1.2.1 dX6_piece_36 rfl (lv_at hl 1 rfl) ?_
    have h1 : ∀ i, i < 42 → (hr_X0_init (un hr 42) (ex (up ad 42 q42) 43 b43)) i = hr i := fun i hi => by have hi2 : i ≠ 42 := (by omega); have hi3 : i ≠ 43 := (by omega); simp only [hr_X0_init, ur_off hi2, un_off hi2, un_off hi3]
    have h2 : ∀ i, i < 42 → (ex (up ad 42 q42) 43 b43) i = ad i := fun i hi => by simp only [ex, up]; rw [if_pos (by omega), if_neg (by omega)]
    have hx1 : HC (hr_X0_init (un hr 42) (ex (up ad 42 q42) 43 b43)) (ex (up ad 42 q42) 43 b43) := ⟨hx.cong h1 h2, rfl, rfl⟩
    obtain ⟨r_4, hc, h⟩ := bnd_some h
    refine r_vI (i := 42) (dc := 2) (As := [.int a1]) (rest := []) C hw vX6_164 (by rfl) (by decide) rfl (fun sz => c_X0_isPiece hx1 hc sz) (by decide) rfl rfl hl.1 (Nat.le_of_ble_eq_true rfl) dX6_piece_37 (by decide) (fun H locs hw => ?_)
    have hw := WS.drop hw h1 h2
    refine lv_if_eq (tgt := 47) C.1.1 C.1.2.1 dX6_piece_40 (by decide) (fun hc => ?_) (fun hc => ?_)
    · replace h := ite_pos' h hc
      refine lv_iconst (v := 0) C.1.1 C.1.2.1 dX6_piece_47 (by decide) ?_
      cases h
      exact r_iret C hw (Or.inl rfl) dX6_piece_48
    · replace h := ite_neg' h hc
      refine lv_iconst (v := 1) C.1.1 C.1.2.1 dX6_piece_43 (by decide) ?_
      refine lv_goto (tgt := 48) C.1.1 C.1.2.1 dX6_piece_44 (by decide) ?_
      cases h
      exact r_iret C hw (Or.inl rfl) dX6_piece_48
  · replace h := ite_neg' h hc
    refine lv_iconst (v := (-1)) C.1.1 C.1.2.1 dX6_piece_14 (by decide) ?_
    cases h
    refine W.widen (k := 1) (n := 6) (by decide) (by decide) ?_
    exact r_iret C hw (Or.inl rfl) dX6_piece_15
set_option maxHeartbeats 4000000 in
set_option maxRecDepth 100000 in
theorem c_X6_piece (hx : HX hr ad) {a1 : Int32} {g : GM} {r : Int32} {gz : GM} (h : F_X6_piece a1 g = some (r, gz)) (sz : Nat) : Met l yX6_piece (WSX yX6_piece cX6_piece 2 (some .int)) (RM 20 1 6) (va_Pc [.ref (ad 0), .int a1] (PX D cA ev hr ad (KX ++ []) g sz)) (QI D cA ev hr ad (AX ad (KX ++ []).length sz) (KX ++ []) r gz) 1 6 (AX ad (KX ++ []).length sz) :=
  met_of (own := RX6) pnX6 rfl (Nat.le_of_ble_eq_true rfl) (fun p e s m below meth c ls C hw hsz hl => w_X6_piece_0 C hx hw hl h)
set_option maxHeartbeats 4000000 in
set_option maxRecDepth 100000 in
theorem w_X6_store_0 (C : CX p s m args meth c RX6 yX6_store cX6_store 3 (some .int) D cA) (hx : HX hr ad) {H : Heap} {locs : List Loc} {g : GM} (hw : WS D cA ev hr ad A (KX ++ []) s H locs g) {ls : Array Slot} (hl : lv_has ls 3 [(0, .ref (ad 0))]) {r : Int32} {gz : GM} (h : F_X6_store g = some (r, gz)) : W p l e (RM 40 1 2) s m args below meth c H locs 0 0 (MQ below (QID D cA ev (ad 0) A r gz) args s 1 2 A) (F0 m 0 ls []) := by
  refine r_new (c0 := 3) (n := 42) (kl' := KX ++ [(3, 2)]) C hw (by decide) kz298 kz299 kz11 (by rfl) (by rfl) (Nat.le_of_ble_eq_true rfl) (Nat.le_of_ble_eq_true rfl) dX6_store_0 (fun q42 H hw => ?_)
  refine lt_gen (P := fun g => WS D cA ev (un hr 42) (up ad 42 q42) A (KX ++ [(3, 2)]) s H locs g) h hw (fun g_1 h hw => ?_)
  refine lv_dup C.1.1 C.1.2.1 dX6_store_3 rfl ?_
  refine lv_aload_n C.1.1 C.1.2.1 dX6_store_4 rfl (lv_at hl 0 rfl) ?_
  refine r_getR (i := 0) (v := .ref (ad 1)) C hw (by rfl) fX6_10 rfl (show hr 0 0 = .ref (ad 1) from hx0_0 hx) dX6_store_5 ?_
  refine lv_aload_n C.1.1 C.1.2.1 dX6_store_8 rfl (lv_at hl 0 rfl) ?_
  refine r_getR (i := 0) (v := .ref (ad 17)) C hw (by rfl) fX6_30 rfl (show hr 0 4 = .ref (ad 17) from hx0_4 hx) dX6_store_9 ?_
  obtain ⟨g_2, hc, h⟩ := bnd_some h
  refine r_iVA (i := 42) (dc := 2) (As := [.ref (ad 1), .ref (ad 17)]) (rest := [.ref q42]) C hw iX6_59 (fun sz => c_X3_init hc sz) (by decide) rfl rfl hl.1 (Nat.le_of_ble_eq_true rfl) dX6_store_12 (by decide) (fun b43 H locs hw => ?_)
  have h1 : ∀ i, i < 42 → (hr_X3_init (un hr 42) (ex (up ad 42 q42) 43 b43)) i = hr i := fun i hi => by have hi2 : i ≠ 42 := (by omega); have hi3 : i ≠ 43 := (by omega); simp only [hr_X3_init, ur_off hi2, un_off hi2, un_off hi3]
  have h2 : ∀ i, i < 42 → (ex (up ad 42 q42) 43 b43) i = ad i := fun i hi => by simp only [ex, up]; rw [if_pos (by omega), if_neg (by omega)]
  have hx1 : HS (hr_X3_init (un hr 42) (ex (up ad 42 q42) 43 b43)) (ex (up ad 42 q42) 43 b43) := ⟨hx.cong h1 h2, rfl, rfl⟩
  obtain ⟨⟨r_3, g_4⟩, hc, h⟩ := bnd_some h
  refine r_vI (i := 42) (dc := 12) (As := []) (rest := []) C hw vX6_62 (by rfl) (by decide) rfl (fun sz => c_X3_readAll hx1 hc sz) (by decide) rfl rfl hl.1 (Nat.le_of_ble_eq_true rfl) dX6_store_15 (by decide) (fun H locs hw => ?_)
  have hw := WS.drop hw h1 h2
  refine lv_istore_n (lv' := [(1, .int r_3), (0, .ref (ad 0))]) C.1.1 C.1.2.1 dX6_store_18 rfl hl (by decide) rfl (fun ls hl => ?_)
  refine lt_gen (P := fun x => lv_has ls 3 [(1, .int x), (0, .ref (ad 0))]) h hl (fun x1_5 h hl => ?_)
  refine lv_aload_n C.1.1 C.1.2.1 dX6_store_19 rfl (lv_at hl 1 rfl) ?_
  refine r_getR (i := 0) (v := .ref (ad 1)) C hw (by rfl) fX6_10 rfl (show hr 0 0 = .ref (ad 1) from hx0_0 hx) dX6_store_20 ?_
  refine lv_iconst (v := 0) C.1.1 C.1.2.1 dX6_store_23 (by decide) ?_
  refine r_putI (i := 1) C hw (by rfl) fX6_49 rfl rfl (Or.inl rfl) dX6_store_24 (fun H locs hw => ?_)
  refine lt_gen (P := fun g => WS D cA ev hr ad A (KX ++ []) s H locs g) h hw (fun g_6 h hw => ?_)
  refine lv_iload_n C.1.1 C.1.2.1 dX6_store_27 rfl (lv_at hl 0 rfl) ?_
  refine lv_if_ne (tgt := 33) C.1.1 C.1.2.1 dX6_store_28 (by decide) (fun hc => ?_) (fun hc => ?_)
  · replace h := ite_neg' h hc
    refine lv_aload_n C.1.1 C.1.2.1 dX6_store_33 rfl (lv_at hl 1 rfl) ?_
    refine r_getR (i := 0) (v := .ref (ad 6)) C hw (by rfl) fX6_26 rfl (show hr 0 3 = .ref (ad 6) from hx0_3 hx) dX6_store_34 ?_
    refine lv_astore_n (lv' := [(2, .ref (ad 6)), (1, .int x1_5), (0, .ref (ad 0))]) C.1.1 C.1.2.1 dX6_store_37 rfl hl (by decide) rfl (fun ls hl => ?_)
    refine lv_aload_n C.1.1 C.1.2.1 dX6_store_38 rfl (lv_at hl 2 rfl) ?_
    refine lv_aload_n C.1.1 C.1.2.1 dX6_store_39 rfl (lv_at hl 2 rfl) ?_
    refine r_getR (i := 0) (v := .ref (ad 17)) C hw (by rfl) fX6_30 rfl (show hr 0 4 = .ref (ad 17) from hx0_4 hx) dX6_store_40 ?_
    refine r_putR (i := 0) (q := (ad 17)) C hw (by rfl) fX6_26 rfl rfl rfl (Or.inl rfl) dX6_store_43 (fun H locs hw => ?_)
    refine lv_aload_n C.1.1 C.1.2.1 dX6_store_46 rfl (lv_at hl 2 rfl) ?_
    refine lv_aload_n C.1.1 C.1.2.1 dX6_store_47 rfl (lv_at hl 0 rfl) ?_
    refine r_putR (i := 0) (q := (ad 6)) C hw (by rfl) fX6_30 rfl rfl rfl (Or.inl rfl) dX6_store_48 (fun H locs hw => ?_)
    have hx2 : HX (fun i => (ur (ur hr 0 3 (.ref ((ad 17)))) 0 4 (.ref ((ad 6)))) (swS i)) (fun i => ad (swS i)) := List.forall_mem_cons.mpr ⟨(show hr 0 0 = .ref (ad 1) from hx0_0 hx), List.forall_mem_cons.mpr ⟨(show hr 0 1 = .ref (ad 4) from hx0_1 hx), List.forall_mem_cons.mpr ⟨(show hr 0 2 = .ref (ad 5) from hx0_2 hx), List.forall_mem_cons.mpr ⟨rfl, List.forall_mem_cons.mpr ⟨rfl, List.forall_mem_cons.mpr ⟨(show hr 0 5 = .ref (ad 28) from hx0_5 hx), List.forall_mem_cons.mpr ⟨(show hr 0 6 = .ref (ad 35) from hx0_6 hx), List.forall_mem_cons.mpr ⟨(show hr 1 0 = .ref (ad 2) from hx1_0 hx), List.forall_mem_cons.mpr ⟨(show hr 1 1 = .ref (ad 3) from hx1_1 hx), List.forall_mem_cons.mpr ⟨(show hr 17 1 = .ref (ad 18) from hx17_1 hx), List.forall_mem_cons.mpr ⟨(show hr 17 2 = .ref (ad 19) from hx17_2 hx), List.forall_mem_cons.mpr ⟨(show hr 17 3 = .ref (ad 20) from hx17_3 hx), List.forall_mem_cons.mpr ⟨(show hr 17 4 = .ref (ad 21) from hx17_4 hx), List.forall_mem_cons.mpr ⟨(show hr 17 5 = .ref (ad 22) from hx17_5 hx), List.forall_mem_cons.mpr ⟨(show hr 17 7 = .ref (ad 23) from hx17_7 hx), List.forall_mem_cons.mpr ⟨(show hr 17 8 = .ref (ad 24) from hx17_8 hx), List.forall_mem_cons.mpr ⟨(show hr 17 9 = .ref (ad 25) from hx17_9 hx), List.forall_mem_cons.mpr ⟨(show hr 17 10 = .ref (ad 26) from hx17_10 hx), List.forall_mem_cons.mpr ⟨(show hr 17 11 = .ref (ad 27) from hx17_11 hx), List.forall_mem_cons.mpr ⟨(show hr 6 1 = .ref (ad 7) from hx6_1 hx), List.forall_mem_cons.mpr ⟨(show hr 6 2 = .ref (ad 8) from hx6_2 hx), List.forall_mem_cons.mpr ⟨(show hr 6 3 = .ref (ad 9) from hx6_3 hx), List.forall_mem_cons.mpr ⟨(show hr 6 4 = .ref (ad 10) from hx6_4 hx), List.forall_mem_cons.mpr ⟨(show hr 6 5 = .ref (ad 11) from hx6_5 hx), List.forall_mem_cons.mpr ⟨(show hr 6 7 = .ref (ad 12) from hx6_7 hx), List.forall_mem_cons.mpr ⟨(show hr 6 8 = .ref (ad 13) from hx6_8 hx), List.forall_mem_cons.mpr ⟨(show hr 6 9 = .ref (ad 14) from hx6_9 hx), List.forall_mem_cons.mpr ⟨(show hr 6 10 = .ref (ad 15) from hx6_10 hx), List.forall_mem_cons.mpr ⟨(show hr 6 11 = .ref (ad 16) from hx6_11 hx), List.forall_mem_cons.mpr ⟨(show hr 28 1 = .ref (ad 29) from hx28_1 hx), List.forall_mem_cons.mpr ⟨(show hr 28 2 = .ref (ad 30) from hx28_2 hx), List.forall_mem_cons.mpr ⟨(show hr 28 3 = .ref (ad 31) from hx28_3 hx), List.forall_mem_cons.mpr ⟨(show hr 28 5 = .ref (ad 32) from hx28_5 hx), List.forall_mem_cons.mpr ⟨(show hr 28 6 = .ref (ad 33) from hx28_6 hx), List.forall_mem_cons.mpr ⟨(show hr 28 7 = .ref (ad 34) from hx28_7 hx), List.forall_mem_cons.mpr ⟨(show hr 35 1 = .ref (ad 36) from hx35_1 hx), List.forall_mem_cons.mpr ⟨(show hr 35 2 = .ref (ad 37) from hx35_2 hx), List.forall_mem_cons.mpr ⟨(show hr 35 3 = .ref (ad 38) from hx35_3 hx), List.forall_mem_cons.mpr ⟨(show hr 35 5 = .ref (ad 39) from hx35_5 hx), List.forall_mem_cons.mpr ⟨(show hr 35 6 = .ref (ad 40) from hx35_6 hx), List.forall_mem_cons.mpr ⟨(show hr 35 7 = .ref (ad 41) from hx35_7 hx), fun _ h => absurd h List.not_mem_nil⟩⟩⟩⟩⟩⟩⟩⟩⟩⟩⟩⟩⟩⟩⟩⟩⟩⟩⟩⟩⟩⟩⟩⟩⟩⟩⟩⟩⟩⟩⟩⟩⟩⟩⟩⟩⟩⟩⟩⟩⟩
    have hw := WS.perm swS swS_2 swS_k hw
    have e0 : (fun i => ad (swS i)) 0 = ad 0 := rfl
    generalize (fun i => (ur (ur hr 0 3 (.ref ((ad 17)))) 0 4 (.ref ((ad 6)))) (swS i)) = hr2 at hw hx2
    generalize (fun i => ad (swS i)) = ad2 at hw hx2 e0
    have hl := lv_sub hl [2] rfl
    replace hl : lv_has ls 3 [(0, .ref (ad 0))] := hl
    rw [← e0] at hl
    refine lt_gen (P := fun g => WS D cA ev hr2 ad2 A (KX ++ []) s H locs g) h hw (fun g_7 h hw => ?_)
    refine lv_aload_n C.1.1 C.1.2.1 dX6_store_51 rfl (lv_at hl 0 rfl) ?_
    refine r_getR (i := 0) (v := .ref (ad2 28)) C hw (by rfl) fX6_36 rfl (show hr2 0 5 = .ref (ad2 28) from hx0_5 hx2) dX6_store_52 ?_
    obtain ⟨g_8, hc, h⟩ := bnd_some h
    refine r_vV (i := 28) (dc := 1) (As := []) (rest := []) C hw vX6_66 (kx28 _) (by decide) rfl (fun sz => c_X1_clear_d hx2 hc sz) (by decide) rfl rfl hl.1 (Nat.le_of_ble_eq_true rfl) dX6_store_55 (by decide) (fun H locs hw => ?_)
    refine lv_aload_n C.1.1 C.1.2.1 dX6_store_58 rfl (lv_at hl 0 rfl) ?_
    refine lv_iconst (v := 0) C.1.1 C.1.2.1 dX6_store_59 (by decide) ?_
    refine r_putI (i := 0) C hw (by rfl) fX6_69 rfl rfl (Or.inl rfl) dX6_store_60 (fun H locs hw => ?_)
    refine lt_gen (P := fun g => WS D cA ev hr2 ad2 A (KX ++ []) s H locs g) h hw (fun g_9 h hw => ?_)
    refine lv_aload_n C.1.1 C.1.2.1 dX6_store_63 rfl (lv_at hl 0 rfl) ?_
    refine lv_iconst (v := 0) C.1.1 C.1.2.1 dX6_store_64 (by decide) ?_
    refine r_putI (i := 0) C hw (by rfl) fX6_72 rfl rfl (Or.inl rfl) dX6_store_65 (fun H locs hw => ?_)
    refine lt_gen (P := fun g => WS D cA ev hr2 ad2 A (KX ++ []) s H locs g) h hw (fun g_10 h hw => ?_)
    refine lv_aload_n C.1.1 C.1.2.1 dX6_store_68 rfl (lv_at hl 0 rfl) ?_
    refine r_getR (i := 0) (v := .ref (ad2 4)) C hw (by rfl) fX6_16 rfl (show hr2 0 1 = .ref (ad2 4) from hx0_1 hx2) dX6_store_69 ?_
    refine lv_iconst (v := (-1)) C.1.1 C.1.2.1 dX6_store_72 (by decide) ?_
    obtain ⟨g_11, hc, h⟩ := bnd_some h
    refine r_sV (dc := 1) (As := [.ref (ad2 4), .int ((-1))]) (rest := []) C hw sX6_43 (fun sz => c_J7_fill_53178_4 hx2 hc sz) (by decide) rfl rfl hl.1 (Nat.le_of_ble_eq_true rfl) dX6_store_73 (by decide) (fun H locs hw => ?_)
    refine lv_aload_n C.1.1 C.1.2.1 dX6_store_76 rfl (lv_at hl 0 rfl) ?_
    obtain ⟨g_12, hc, h⟩ := bnd_some h
    refine r_vV (i := 0) (dc := 1) (As := []) (rest := []) C hw vX6_75 (kx0 _) (by decide) rfl (fun sz => c_X6_forgetPieces hx2 hc sz) (by decide) rfl rfl hl.1 (Nat.le_of_ble_eq_true rfl) dX6_store_77 (by decide) (fun H locs hw => ?_)
    refine lv_aload_n C.1.1 C.1.2.1 dX6_store_80 rfl (lv_at hl 0 rfl) ?_
    refine r_getR (i := 0) (v := .ref (ad2 6)) C hw (by rfl) fX6_26 rfl (show hr2 0 3 = .ref (ad2 6) from hx0_3 hx2) dX6_store_81 ?_
    refine r_getI (i := 6) C hw (by rfl) fX6_78 rfl dX6_store_84 ?_
    cases h
    exact r_iretD C hw hx2 e0 dX6_store_87
  · replace h := ite_pos' h hc
    refine lv_iconst (v := (-1)) C.1.1 C.1.2.1 dX6_store_31 (by decide) ?_
    cases h
    exact r_iretD C hw hx rfl dX6_store_32
set_option maxHeartbeats 4000000 in
set_option maxRecDepth 100000 in
theorem c_X6_store (hx : HX hr ad) {g : GM} {r : Int32} {gz : GM} (h : F_X6_store g = some (r, gz)) (sz : Nat) : Met l yX6_store (WSX yX6_store cX6_store 3 (some .int)) (RM 40 1 2) (va_Pc [.ref (ad 0)] (PX D cA ev hr ad (KX ++ []) g sz)) (QID D cA ev (ad 0) (AX ad (KX ++ []).length sz) r gz) 1 2 (AX ad (KX ++ []).length sz) :=
  met_of (own := RX6) pnX6 rfl (Nat.le_of_ble_eq_true rfl) (fun p e s m below meth c ls C hw hsz hl => w_X6_store_0 C hx hw hl h)
set_option maxHeartbeats 4000000 in
set_option maxRecDepth 100000 in
theorem w_X6_wishes_0 (C : CX p s m args meth c RX6 yX6_wishes cX6_wishes 3 (some .int) D cA) (hx : HX hr ad) {H : Heap} {locs : List Loc} {g : GM} (hw : WS D cA ev hr ad A (KX ++ []) s H locs g) {ls : Array Slot} (hl : lv_has ls 3 [(0, .ref (ad 0))]) {r : Int32} {gz : GM} (h : F_X6_wishes g = some (r, gz)) : W p l e (RM 410 2 11) s m args below meth c H locs 0 0 (MQ below (QID D cA ev (ad 0) A r gz) args s 2 11 A) (F0 m 0 ls []) := by
  refine lv_aload_n C.1.1 C.1.2.1 dX6_wishes_0 rfl (lv_at hl 0 rfl) ?_
  refine r_getR (i := 0) (v := .ref (ad 1)) C hw (by rfl) fX6_10 rfl (show hr 0 0 = .ref (ad 1) from hx0_0 hx) dX6_wishes_1 ?_
  refine r_getI (i := 1) C hw (by rfl) fX6_49 rfl dX6_wishes_4 ?_
  refine lv_sipush (v := 600) C.1.1 C.1.2.1 dX6_wishes_7 (by decide) ?_
  refine lv_icmp_le (tgt := 16) C.1.1 C.1.2.1 dX6_wishes_10 (by decide) (fun hc => ?_) (fun hc => ?_)
  · replace h := ite_pos' h hc
    refine r_new (c0 := 5) (n := 42) (kl' := KX ++ [(5, 7)]) C hw (by decide) kz495 kz496 kz14 (by rfl) (by rfl) (Nat.le_of_ble_eq_true rfl) (Nat.le_of_ble_eq_true rfl) dX6_wishes_16 (fun q42 H hw => ?_)
    refine lt_gen (P := fun g => WS D cA ev (un hr 42) (up ad 42 q42) A (KX ++ [(5, 7)]) s H locs g) h hw (fun g_1 h hw => ?_)
    refine lv_dup C.1.1 C.1.2.1 dX6_wishes_19 rfl ?_
    refine lv_aload_n C.1.1 C.1.2.1 dX6_wishes_20 rfl (lv_at hl 0 rfl) ?_
    refine r_getR (i := 0) (v := .ref (ad 1)) C hw (by rfl) fX6_10 rfl (show hr 0 0 = .ref (ad 1) from hx0_0 hx) dX6_wishes_21 ?_
    refine lv_aload_n C.1.1 C.1.2.1 dX6_wishes_24 rfl (lv_at hl 0 rfl) ?_
    refine r_getR (i := 0) (v := .ref (ad 6)) C hw (by rfl) fX6_26 rfl (show hr 0 3 = .ref (ad 6) from hx0_3 hx) dX6_wishes_25 ?_
    refine lv_aload_n C.1.1 C.1.2.1 dX6_wishes_28 rfl (lv_at hl 0 rfl) ?_
    refine r_getR (i := 0) (v := .ref (ad 35)) C hw (by rfl) fX6_40 rfl (show hr 0 6 = .ref (ad 35) from hx0_6 hx) dX6_wishes_29 ?_
    obtain ⟨g_2, hc, h⟩ := bnd_some h
    refine r_iVA (i := 42) (dc := 2) (As := [.ref (ad 1), .ref (ad 6), .ref (ad 35)]) (rest := [.ref q42]) C hw iX6_83 (fun sz => c_X5_init hc sz) (by decide) rfl rfl hl.1 (Nat.le_of_ble_eq_true rfl) dX6_wishes_32 (by decide) (fun b43 H locs hw => ?_)
    have h1 : ∀ i, i < 42 → (hr_X5_init (un hr 42) (ex (up ad 42 q42) 43 b43)) i = hr i := fun i hi => by have hi2 : i ≠ 42 := (by omega); have hi3 : i ≠ 43 := (by omega); simp only [hr_X5_init, ur_off hi2, un_off hi2, un_off hi3]
    have h2 : ∀ i, i < 42 → (ex (up ad 42 q42) 43 b43) i = ad i := fun i hi => by simp only [ex, up]; rw [if_pos (by omega), if_neg (by omega)]
    have hx1 : HW (hr_X5_init (un hr 42) (ex (up ad 42 q42) 43 b43)) (ex (up ad 42 q42) 43 b43) := ⟨hx.cong h1 h2, rfl, rfl, rfl, rfl⟩
    obtain ⟨⟨r_3, g_4⟩, hc, h⟩ := bnd_some h
    refine r_vI (i := 42) (dc := 401) (As := []) (rest := []) C hw vX6_86 (by rfl) (by decide) rfl (fun sz => c_X5_readAll hx1 hc sz) (by decide) rfl rfl hl.1 (Nat.le_of_ble_eq_true rfl) dX6_wishes_35 (by decide) (fun H locs hw => ?_)
    have hw := WS.drop hw h1 h2
    refine lv_istore_n (lv' := [(1, .int r_3), (0, .ref (ad 0))]) C.1.1 C.1.2.1 dX6_wishes_38 rfl hl (by decide) rfl (fun ls hl => ?_)
    refine lt_gen (P := fun x => lv_has ls 3 [(1, .int x), (0, .ref (ad 0))]) h hl (fun x1_5 h hl => ?_)
    refine lv_aload_n C.1.1 C.1.2.1 dX6_wishes_39 rfl (lv_at hl 1 rfl) ?_
    refine r_getR (i := 0) (v := .ref (ad 1)) C hw (by rfl) fX6_10 rfl (show hr 0 0 = .ref (ad 1) from hx0_0 hx) dX6_wishes_40 ?_
    refine lv_iconst (v := 0) C.1.1 C.1.2.1 dX6_wishes_43 (by decide) ?_
    refine r_putI (i := 1) C hw (by rfl) fX6_49 rfl rfl (Or.inl rfl) dX6_wishes_44 (fun H locs hw => ?_)
    refine lt_gen (P := fun g => WS D cA ev hr ad A (KX ++ []) s H locs g) h hw (fun g_6 h hw => ?_)
    refine lv_iload_n C.1.1 C.1.2.1 dX6_wishes_47 rfl (lv_at hl 0 rfl) ?_
    refine lv_if_ne (tgt := 53) C.1.1 C.1.2.1 dX6_wishes_48 (by decide) (fun hc => ?_) (fun hc => ?_)
    · replace h := ite_neg' h hc
      refine lv_aload_n C.1.1 C.1.2.1 dX6_wishes_53 rfl (lv_at hl 1 rfl) ?_
      refine r_getR (i := 0) (v := .ref (ad 28)) C hw (by rfl) fX6_36 rfl (show hr 0 5 = .ref (ad 28) from hx0_5 hx) dX6_wishes_54 ?_
      refine lv_astore_n (lv' := [(2, .ref (ad 28)), (1, .int x1_5), (0, .ref (ad 0))]) C.1.1 C.1.2.1 dX6_wishes_57 rfl hl (by decide) rfl (fun ls hl => ?_)
      refine lv_aload_n C.1.1 C.1.2.1 dX6_wishes_58 rfl (lv_at hl 2 rfl) ?_
      refine lv_aload_n C.1.1 C.1.2.1 dX6_wishes_59 rfl (lv_at hl 2 rfl) ?_
      refine r_getR (i := 0) (v := .ref (ad 35)) C hw (by rfl) fX6_40 rfl (show hr 0 6 = .ref (ad 35) from hx0_6 hx) dX6_wishes_60 ?_
      refine r_putR (i := 0) (q := (ad 35)) C hw (by rfl) fX6_36 rfl rfl rfl (Or.inl rfl) dX6_wishes_63 (fun H locs hw => ?_)
      refine lv_aload_n C.1.1 C.1.2.1 dX6_wishes_66 rfl (lv_at hl 2 rfl) ?_
      refine lv_aload_n C.1.1 C.1.2.1 dX6_wishes_67 rfl (lv_at hl 0 rfl) ?_
      refine r_putR (i := 0) (q := (ad 28)) C hw (by rfl) fX6_40 rfl rfl rfl (Or.inl rfl) dX6_wishes_68 (fun H locs hw => ?_)
      have hx2 : HX (fun i => (ur (ur hr 0 5 (.ref ((ad 35)))) 0 6 (.ref ((ad 28)))) (swD i)) (fun i => ad (swD i)) := List.forall_mem_cons.mpr ⟨(show hr 0 0 = .ref (ad 1) from hx0_0 hx), List.forall_mem_cons.mpr ⟨(show hr 0 1 = .ref (ad 4) from hx0_1 hx), List.forall_mem_cons.mpr ⟨(show hr 0 2 = .ref (ad 5) from hx0_2 hx), List.forall_mem_cons.mpr ⟨(show hr 0 3 = .ref (ad 6) from hx0_3 hx), List.forall_mem_cons.mpr ⟨(show hr 0 4 = .ref (ad 17) from hx0_4 hx), List.forall_mem_cons.mpr ⟨rfl, List.forall_mem_cons.mpr ⟨rfl, List.forall_mem_cons.mpr ⟨(show hr 1 0 = .ref (ad 2) from hx1_0 hx), List.forall_mem_cons.mpr ⟨(show hr 1 1 = .ref (ad 3) from hx1_1 hx), List.forall_mem_cons.mpr ⟨(show hr 6 1 = .ref (ad 7) from hx6_1 hx), List.forall_mem_cons.mpr ⟨(show hr 6 2 = .ref (ad 8) from hx6_2 hx), List.forall_mem_cons.mpr ⟨(show hr 6 3 = .ref (ad 9) from hx6_3 hx), List.forall_mem_cons.mpr ⟨(show hr 6 4 = .ref (ad 10) from hx6_4 hx), List.forall_mem_cons.mpr ⟨(show hr 6 5 = .ref (ad 11) from hx6_5 hx), List.forall_mem_cons.mpr ⟨(show hr 6 7 = .ref (ad 12) from hx6_7 hx), List.forall_mem_cons.mpr ⟨(show hr 6 8 = .ref (ad 13) from hx6_8 hx), List.forall_mem_cons.mpr ⟨(show hr 6 9 = .ref (ad 14) from hx6_9 hx), List.forall_mem_cons.mpr ⟨(show hr 6 10 = .ref (ad 15) from hx6_10 hx), List.forall_mem_cons.mpr ⟨(show hr 6 11 = .ref (ad 16) from hx6_11 hx), List.forall_mem_cons.mpr ⟨(show hr 17 1 = .ref (ad 18) from hx17_1 hx), List.forall_mem_cons.mpr ⟨(show hr 17 2 = .ref (ad 19) from hx17_2 hx), List.forall_mem_cons.mpr ⟨(show hr 17 3 = .ref (ad 20) from hx17_3 hx), List.forall_mem_cons.mpr ⟨(show hr 17 4 = .ref (ad 21) from hx17_4 hx), List.forall_mem_cons.mpr ⟨(show hr 17 5 = .ref (ad 22) from hx17_5 hx), List.forall_mem_cons.mpr ⟨(show hr 17 7 = .ref (ad 23) from hx17_7 hx), List.forall_mem_cons.mpr ⟨(show hr 17 8 = .ref (ad 24) from hx17_8 hx), List.forall_mem_cons.mpr ⟨(show hr 17 9 = .ref (ad 25) from hx17_9 hx), List.forall_mem_cons.mpr ⟨(show hr 17 10 = .ref (ad 26) from hx17_10 hx), List.forall_mem_cons.mpr ⟨(show hr 17 11 = .ref (ad 27) from hx17_11 hx), List.forall_mem_cons.mpr ⟨(show hr 35 1 = .ref (ad 36) from hx35_1 hx), List.forall_mem_cons.mpr ⟨(show hr 35 2 = .ref (ad 37) from hx35_2 hx), List.forall_mem_cons.mpr ⟨(show hr 35 3 = .ref (ad 38) from hx35_3 hx), List.forall_mem_cons.mpr ⟨(show hr 35 5 = .ref (ad 39) from hx35_5 hx), List.forall_mem_cons.mpr ⟨(show hr 35 6 = .ref (ad 40) from hx35_6 hx), List.forall_mem_cons.mpr ⟨(show hr 35 7 = .ref (ad 41) from hx35_7 hx), List.forall_mem_cons.mpr ⟨(show hr 28 1 = .ref (ad 29) from hx28_1 hx), List.forall_mem_cons.mpr ⟨(show hr 28 2 = .ref (ad 30) from hx28_2 hx), List.forall_mem_cons.mpr ⟨(show hr 28 3 = .ref (ad 31) from hx28_3 hx), List.forall_mem_cons.mpr ⟨(show hr 28 5 = .ref (ad 32) from hx28_5 hx), List.forall_mem_cons.mpr ⟨(show hr 28 6 = .ref (ad 33) from hx28_6 hx), List.forall_mem_cons.mpr ⟨(show hr 28 7 = .ref (ad 34) from hx28_7 hx), fun _ h => absurd h List.not_mem_nil⟩⟩⟩⟩⟩⟩⟩⟩⟩⟩⟩⟩⟩⟩⟩⟩⟩⟩⟩⟩⟩⟩⟩⟩⟩⟩⟩⟩⟩⟩⟩⟩⟩⟩⟩⟩⟩⟩⟩⟩⟩
      have hw := WS.perm swD swD_2 swD_k hw
      have e0 : (fun i => ad (swD i)) 0 = ad 0 := rfl
      generalize (fun i => (ur (ur hr 0 5 (.ref ((ad 35)))) 0 6 (.ref ((ad 28)))) (swD i)) = hr2 at hw hx2
      generalize (fun i => ad (swD i)) = ad2 at hw hx2 e0
      have hl := lv_sub hl [2] rfl
      replace hl : lv_has ls 3 [(0, .ref (ad 0))] := hl
      rw [← e0] at hl
      refine lt_gen (P := fun g => WS D cA ev hr2 ad2 A (KX ++ []) s H locs g) h hw (fun g_7 h hw => ?_)
      refine lv_aload_n C.1.1 C.1.2.1 dX6_wishes_71 rfl (lv_at hl 0 rfl) ?_
      refine r_getR (i := 0) (v := .ref (ad2 28)) C hw (by rfl) fX6_36 rfl (show hr2 0 5 = .ref (ad2 28) from hx0_5 hx2) dX6_wishes_72 ?_
      refine lv_aload_n C.1.1 C.1.2.1 dX6_wishes_75 rfl (lv_at hl 0 rfl) ?_
      refine r_getI (i := 0) C hw (by rfl) fX6_69 rfl dX6_wishes_76 ?_
      obtain ⟨g_8, hc, h⟩ := bnd_some h
      refine r_vV (i := 28) (dc := 2) (As := [.int (gi g_7 0 7)]) (rest := []) C hw vX6_87 (kx28 _) (by decide) rfl (fun sz => c_X1_lose_d hx2 hc sz) (by decide) rfl rfl hl.1 (Nat.le_of_ble_eq_true rfl) dX6_wishes_79 (by decide) (fun H locs hw => ?_)
      refine lv_aload_n C.1.1 C.1.2.1 dX6_wishes_82 rfl (lv_at hl 0 rfl) ?_
      obtain ⟨g_9, hc, h⟩ := bnd_some h
      refine r_vV (i := 0) (dc := 1) (As := []) (rest := []) C hw vX6_75 (kx0 _) (by decide) rfl (fun sz => c_X6_forgetPieces hx2 hc sz) (by decide) rfl rfl hl.1 (Nat.le_of_ble_eq_true rfl) dX6_wishes_83 (by decide) (fun H locs hw => ?_)
      refine lv_aload_n C.1.1 C.1.2.1 dX6_wishes_86 rfl (lv_at hl 0 rfl) ?_
      refine r_getR (i := 0) (v := .ref (ad2 28)) C hw (by rfl) fX6_36 rfl (show hr2 0 5 = .ref (ad2 28) from hx0_5 hx2) dX6_wishes_87 ?_
      refine r_getI (i := 28) C hw (by rfl) fX6_90 rfl dX6_wishes_90 ?_
      cases h
      exact r_iretD C hw hx2 e0 dX6_wishes_93
    · replace h := ite_pos' h hc
      refine lv_iconst (v := (-1)) C.1.1 C.1.2.1 dX6_wishes_51 (by decide) ?_
      cases h
      exact r_iretD C hw hx rfl dX6_wishes_52
  · replace h := ite_neg' h hc
    refine lv_bipush (v := (-2)) C.1.1 C.1.2.1 dX6_wishes_13 (by decide) ?_
    cases h
    refine W.widen (k := 2) (n := 11) (by decide) (by decide) ?_
    exact r_iretD C hw hx rfl dX6_wishes_15
set_option maxHeartbeats 4000000 in
set_option maxRecDepth 100000 in
theorem c_X6_wishes (hx : HX hr ad) {g : GM} {r : Int32} {gz : GM} (h : F_X6_wishes g = some (r, gz)) (sz : Nat) : Met l yX6_wishes (WSX yX6_wishes cX6_wishes 3 (some .int)) (RM 410 2 11) (va_Pc [.ref (ad 0)] (PX D cA ev hr ad (KX ++ []) g sz)) (QID D cA ev (ad 0) (AX ad (KX ++ []).length sz) r gz) 2 11 (AX ad (KX ++ []).length sz) :=
  met_of (own := RX6) pnX6 rfl (Nat.le_of_ble_eq_true rfl) (fun p e s m below meth c ls C hw hsz hl => w_X6_wishes_0 C hx hw hl h)
set_option maxHeartbeats 4000000 in
set_option maxRecDepth 100000 in
theorem w_X6_keep_0 (C : CX p s m args meth c RX6 yX6_keep cX6_keep 2 (some .boolean) D cA) (hx : HX hr ad) {H : Heap} {locs : List Loc} {g : GM} (hw : WS D cA ev hr ad A (KX ++ []) s H locs g) {ls : Array Slot} (hl : lv_has ls 2 [(0, .ref (ad 0))]) {r : Int32} {gz : GM} (h : F_X6_keep g = some (r, gz)) : W p l e (RM 252 1 6) s m args below meth c H locs 0 0 (MQ below (QI D cA ev hr ad A (KX ++ []) r gz) args s 1 6 A) (F0 m 0 ls []) := by
  refine lv_aload_n C.1.1 C.1.2.1 dX6_keep_0 rfl (lv_at hl 0 rfl) ?_
  obtain ⟨⟨r_1, g_2⟩, hc, h⟩ := bnd_some h
  refine r_vI (dc := 250) (As := []) (rest := []) C hw vX6_152 (kx0 _) (by decide) rfl (fun sz => c_X6_least hx hc sz) (by decide) rfl rfl hl.1 (Nat.le_of_ble_eq_true rfl) dX6_keep_1 (by decide) (fun H locs hw => ?_)
  refine lv_istore_n (lv' := [(1, .int r_1), (0, .ref (ad 0))]) C.1.1 C.1.2.1 dX6_keep_4 rfl hl (by decide) rfl (fun ls hl => ?_)
  refine lt_gen (P := fun x => lv_has ls 2 [(1, .int x), (0, .ref (ad 0))]) h hl (fun x1_3 h hl => ?_)
  refine lv_iload_n C.1.1 C.1.2.1 dX6_keep_5 rfl (lv_at hl 0 rfl) ?_
  refine lv_iconst (v := (-1)) C.1.1 C.1.2.1 dX6_keep_6 (by decide) ?_
  refine lv_icmp_ne (tgt := 12) C.1.1 C.1.2.1 dX6_keep_7 (by decide) (fun hc => ?_) (fun hc => ?_)
  · replace h := ite_neg' h hc
    refine lv_aload_n C.1.1 C.1.2.1 dX6_keep_12 rfl (lv_at hl 1 rfl) ?_
    refine lv_iload_n C.1.1 C.1.2.1 dX6_keep_13 rfl (lv_at hl 0 rfl) ?_
    refine r_putI C hw (kx0 _) fX6_72 rfl rfl (Or.inl rfl) dX6_keep_14 (fun H locs hw => ?_)
    refine lt_gen (P := fun g => WS D cA ev hr ad A (KX ++ []) s H locs g) h hw (fun g_4 h hw => ?_)
    refine lv_aload_n C.1.1 C.1.2.1 dX6_keep_17 rfl (lv_at hl 1 rfl) ?_
    refine lv_iconst (v := 0) C.1.1 C.1.2.1 dX6_keep_18 (by decide) ?_
    refine r_putZ C hw (kx0 _) fX6_155 rfl rfl (Or.inl rfl) (Or.inl rfl) dX6_keep_19 (fun H locs hw => ?_)
    refine lt_gen (P := fun g => WS D cA ev hr ad A (KX ++ []) s H locs g) h hw (fun g_5 h hw => ?_)
    refine lv_iconst (v := 1) C.1.1 C.1.2.1 dX6_keep_22 (by decide) ?_
    cases h
    exact r_iret C hw (Or.inr ⟨rfl, Or.inr rfl⟩) dX6_keep_23
  · replace h := ite_pos' h hc
    refine lv_iconst (v := 0) C.1.1 C.1.2.1 dX6_keep_10 (by decide) ?_
    cases h
    exact r_iret C hw (Or.inr ⟨rfl, Or.inl rfl⟩) dX6_keep_11
set_option maxHeartbeats 4000000 in
set_option maxRecDepth 100000 in
theorem c_X6_keep (hx : HX hr ad) {g : GM} {r : Int32} {gz : GM} (h : F_X6_keep g = some (r, gz)) (sz : Nat) : Met l yX6_keep (WSX yX6_keep cX6_keep 2 (some .boolean)) (RM 252 1 6) (va_Pc [.ref (ad 0)] (PX D cA ev hr ad (KX ++ []) g sz)) (QI D cA ev hr ad (AX ad (KX ++ []).length sz) (KX ++ []) r gz) 1 6 (AX ad (KX ++ []).length sz) :=
  met_of (own := RX6) pnX6 rfl (Nat.le_of_ble_eq_true rfl) (fun p e s m below meth c ls C hw hsz hl => w_X6_keep_0 C hx hw hl h)
set_option maxHeartbeats 4000000 in
set_option maxRecDepth 100000 in
theorem w_X6_why_0 (C : CX p s m args meth c RX6 yX6_why cX6_why 4 (some .int) D cA) (hx : HX hr ad) {H : Heap} {locs : List Loc} {g : GM} (hw : WS D cA ev hr ad A (KX ++ []) s H locs g) {a1 : Int32} {ls : Array Slot} (hl : lv_has ls 4 [(0, .ref (ad 0)), (1, .int a1)]) {r : Int32} {gz : GM} (h : F_X6_why a1 g = some (r, gz)) : W p l e (RM 252 1 6) s m args below meth c H locs 0 0 (MQ below (QI D cA ev hr ad A (KX ++ []) r gz) args s 1 6 A) (F0 m 0 ls []) := by
  refine lv_aload_n C.1.1 C.1.2.1 dX6_why_0 rfl (lv_at hl 0 rfl) ?_
  obtain ⟨⟨r_1, g_2⟩, hc, h⟩ := bnd_some h
  refine r_vI (dc := 250) (As := []) (rest := []) C hw vX6_152 (kx0 _) (by decide) rfl (fun sz => c_X6_least hx hc sz) (by decide) rfl rfl hl.1 (Nat.le_of_ble_eq_true rfl) dX6_why_1 (by decide) (fun H locs hw => ?_)
  refine lv_istore_n (lv' := [(2, .int r_1), (0, .ref (ad 0)), (1, .int a1)]) C.1.1 C.1.2.1 dX6_why_4 rfl hl (by decide) rfl (fun ls hl => ?_)
  refine lt_gen (P := fun x => lv_has ls 4 [(2, .int x), (0, .ref (ad 0)), (1, .int a1)]) h hl (fun x2_3 h hl => ?_)
  refine lv_iload_n C.1.1 C.1.2.1 dX6_why_5 rfl (lv_at hl 0 rfl) ?_
  refine lv_iconst (v := (-1)) C.1.1 C.1.2.1 dX6_why_6 (by decide) ?_
  refine lv_icmp_eq (tgt := 21) C.1.1 C.1.2.1 dX6_why_7 (by decide) (fun hc => ?_) (fun hc => ?_)
  · replace h := ite_pos' h hc
    refine lv_iconst (v := (-1)) C.1.1 C.1.2.1 dX6_why_21 (by decide) ?_
    cases h
    exact r_iret C hw (Or.inl rfl) dX6_why_22
  · replace h := ite_neg' h hc
    refine lv_aload_n C.1.1 C.1.2.1 dX6_why_10 rfl (lv_at hl 1 rfl) ?_
    refine r_getR (v := .ref (ad 6)) C hw (kx0 _) fX6_26 rfl (hx0_3 hx) dX6_why_11 ?_
    refine lv_iload_n C.1.1 C.1.2.1 dX6_why_14 rfl (lv_at hl 2 rfl) ?_
    obtain ⟨r_4, hc, h⟩ := bnd_some h
    refine r_vI (dc := 1) (As := [.int a1]) (rest := []) C hw vX6_99 (kx6 _) (by decide) rfl (fun sz => c_X2_hasRow_s hx hc sz) (by decide) rfl rfl hl.1 (Nat.le_of_ble_eq_true rfl) dX6_why_15 ⟨Nat.le_refl _, Nat.le_refl _⟩ (fun H locs hw => ?_)
    refine lv_if_ne (tgt := 23) C.1.1 C.1.2.1 dX6_why_18 (by decide) (fun hc => ?_) (fun hc => ?_)
    · replace h := ite_neg' h hc
      refine lv_iload_n C.1.1 C.1.2.1 dX6_why_23 rfl (lv_at hl 0 rfl) ?_
      refine lv_iload_n C.1.1 C.1.2.1 dX6_why_24 rfl (lv_at hl 2 rfl) ?_
      obtain ⟨r_5, hc, h⟩ := bnd_some h
      refine r_sI (dc := 1) (As := [.int x2_3, .int a1]) (rest := []) C hw sX6_109 (fun sz => c_X6_has hx hc sz) (by decide) rfl rfl hl.1 (Nat.le_of_ble_eq_true rfl) dX6_why_25 ⟨Nat.le_refl _, Nat.le_refl _⟩ (fun H locs hw => ?_)
      refine lv_if_ne (tgt := 33) C.1.1 C.1.2.1 dX6_why_28 (by decide) (fun hc => ?_) (fun hc => ?_)
      · replace h := ite_neg' h hc
        refine lv_iload_n C.1.1 C.1.2.1 dX6_why_33 rfl (lv_at hl 0 rfl) ?_
        refine lv_iconst (v := 1) C.1.1 C.1.2.1 dX6_why_34 (by decide) ?_
        refine lv_iload_n C.1.1 C.1.2.1 dX6_why_35 rfl (lv_at hl 2 rfl) ?_
        refine lv_ishl C.1.1 C.1.2.1 dX6_why_36 ?_
        refine lv_iconst (v := (-1)) C.1.1 C.1.2.1 dX6_why_37 (by decide) ?_
        refine lv_ixor C.1.1 C.1.2.1 dX6_why_38 ?_
        refine lv_iand C.1.1 C.1.2.1 dX6_why_39 ?_
        refine lv_istore_n (lv' := [(3, .int (x2_3 &&& ((1 <<< (a1 &&& 31)) ^^^ ((-1))))), (2, .int x2_3), (0, .ref (ad 0)), (1, .int a1)]) C.1.1 C.1.2.1 dX6_why_40 rfl hl (by decide) rfl (fun ls hl => ?_)
        refine lt_gen (P := fun x => lv_has ls 4 [(3, .int x), (2, .int x2_3), (0, .ref (ad 0)), (1, .int a1)]) h hl (fun x3_6 h hl => ?_)
        refine lv_aload_n C.1.1 C.1.2.1 dX6_why_41 rfl (lv_at hl 2 rfl) ?_
        refine r_getR (v := .ref (ad 28)) C hw (kx0 _) fX6_36 rfl (hx0_5 hx) dX6_why_42 ?_
        refine lv_iload_n C.1.1 C.1.2.1 dX6_why_45 rfl (lv_at hl 0 rfl) ?_
        obtain ⟨r_7, hc, h⟩ := bnd_some h
        refine r_vI (dc := 2) (As := [.int x3_6]) (rest := []) C hw vX6_167 (kx28 _) (by decide) rfl (fun sz => c_X1_wishesMetBy_d hx hc sz) (by decide) rfl rfl hl.1 (Nat.le_of_ble_eq_true rfl) dX6_why_46 ⟨Nat.le_refl _, Nat.le_refl _⟩ (fun H locs hw => ?_)
        refine lv_if_ne (tgt := 54) C.1.1 C.1.2.1 dX6_why_49 (by decide) (fun hc => ?_) (fun hc => ?_)
        · replace h := ite_neg' h hc
          refine lv_aload_n C.1.1 C.1.2.1 dX6_why_54 rfl (lv_at hl 2 rfl) ?_
          refine r_getR (v := .ref (ad 6)) C hw (kx0 _) fX6_26 rfl (hx0_3 hx) dX6_why_55 ?_
          refine lv_iload_n C.1.1 C.1.2.1 dX6_why_58 rfl (lv_at hl 0 rfl) ?_
          refine lv_iload_n C.1.1 C.1.2.1 dX6_why_59 rfl (lv_at hl 3 rfl) ?_
          obtain ⟨r_8, hc, h⟩ := bnd_some h
          refine r_vI (dc := 2) (As := [.int x3_6, .int a1]) (rest := []) C hw vX6_126 (kx6 _) (by decide) rfl (fun sz => c_X2_isLinkedFrom_s hx hc sz) (by decide) rfl rfl hl.1 (Nat.le_of_ble_eq_true rfl) dX6_why_60 ⟨Nat.le_refl _, Nat.le_refl _⟩ (fun H locs hw => ?_)
          refine lv_if_eq (tgt := 70) C.1.1 C.1.2.1 dX6_why_63 (by decide) (fun hc => ?_) (fun hc => ?_)
          · replace h := ite_pos' h hc
            refine lv_iconst (v := 3) C.1.1 C.1.2.1 dX6_why_70 (by decide) ?_
            cases h
            exact r_iret C hw (Or.inl rfl) dX6_why_71
          · replace h := ite_neg' h hc
            refine lv_iconst (v := 2) C.1.1 C.1.2.1 dX6_why_66 (by decide) ?_
            refine lv_goto (tgt := 71) C.1.1 C.1.2.1 dX6_why_67 (by decide) ?_
            cases h
            exact r_iret C hw (Or.inl rfl) dX6_why_71
        · replace h := ite_pos' h hc
          refine lv_iconst (v := 1) C.1.1 C.1.2.1 dX6_why_52 (by decide) ?_
          cases h
          exact r_iret C hw (Or.inl rfl) dX6_why_53
      · replace h := ite_pos' h hc
        refine lv_iconst (v := 0) C.1.1 C.1.2.1 dX6_why_31 (by decide) ?_
        cases h
        exact r_iret C hw (Or.inl rfl) dX6_why_32
    · replace h := ite_pos' h hc
      refine lv_iconst (v := (-1)) C.1.1 C.1.2.1 dX6_why_21 (by decide) ?_
      cases h
      exact r_iret C hw (Or.inl rfl) dX6_why_22
set_option maxHeartbeats 4000000 in
set_option maxRecDepth 100000 in
theorem c_X6_why (hx : HX hr ad) {a1 : Int32} {g : GM} {r : Int32} {gz : GM} (h : F_X6_why a1 g = some (r, gz)) (sz : Nat) : Met l yX6_why (WSX yX6_why cX6_why 4 (some .int)) (RM 252 1 6) (va_Pc [.ref (ad 0), .int a1] (PX D cA ev hr ad (KX ++ []) g sz)) (QI D cA ev hr ad (AX ad (KX ++ []).length sz) (KX ++ []) r gz) 1 6 (AX ad (KX ++ []).length sz) :=
  met_of (own := RX6) pnX6 rfl (Nat.le_of_ble_eq_true rfl) (fun p e s m below meth c ls C hw hsz hl => w_X6_why_0 C hx hw hl h)
set_option maxHeartbeats 4000000 in
set_option maxRecDepth 100000 in
theorem w_X6_order_0 (C : CX p s m args meth c RX6 yX6_order cX6_order 2 (some .int) D cA) (hx : HX hr ad) {H : Heap} {locs : List Loc} {g : GM} (hw : WS D cA ev hr ad A (KX ++ []) s H locs g) {a1 : Int32} {ls : Array Slot} (hl : lv_has ls 2 [(0, .ref (ad 0)), (1, .int a1)]) {r : Int32} {gz : GM} (h : F_X6_order a1 g = some (r, gz)) : W p l e (RM 252 1 6) s m args below meth c H locs 0 0 (MQ below (QI D cA ev hr ad A (KX ++ []) r gz) args s 1 6 A) (F0 m 0 ls []) := by
  refine lv_aload_n C.1.1 C.1.2.1 dX6_order_0 rfl (lv_at hl 0 rfl) ?_
  obtain ⟨⟨r_1, g_2⟩, hc, h⟩ := bnd_some h
  refine r_vI (dc := 250) (As := []) (rest := []) C hw vX6_152 (kx0 _) (by decide) rfl (fun sz => c_X6_least hx hc sz) (by decide) rfl rfl hl.1 (Nat.le_of_ble_eq_true rfl) dX6_order_1 (by decide) (fun H locs hw => ?_)
  refine lv_iconst (v := (-1)) C.1.1 C.1.2.1 dX6_order_4 (by decide) ?_
  refine lv_icmp_eq (tgt := 29) C.1.1 C.1.2.1 dX6_order_5 (by decide) (fun hc => ?_) (fun hc => ?_)
  · replace h := ite_pos' h hc
    refine lv_iconst (v := (-1)) C.1.1 C.1.2.1 dX6_order_29 (by decide) ?_
    cases h
    exact r_iret C hw (Or.inl rfl) dX6_order_30
  · replace h := ite_neg' h hc
    refine lv_iload_n C.1.1 C.1.2.1 dX6_order_8 rfl (lv_at hl 1 rfl) ?_
    refine lv_if_lt (tgt := 29) C.1.1 C.1.2.1 dX6_order_9 (by decide) (fun hc => ?_) (fun hc => ?_)
    · replace h := ite_pos' h hc
      refine lv_iconst (v := (-1)) C.1.1 C.1.2.1 dX6_order_29 (by decide) ?_
      cases h
      exact r_iret C hw (Or.inl rfl) dX6_order_30
    · replace h := ite_neg' h hc
      refine lv_iload_n C.1.1 C.1.2.1 dX6_order_12 rfl (lv_at hl 1 rfl) ?_
      refine lv_aload_n C.1.1 C.1.2.1 dX6_order_13 rfl (lv_at hl 0 rfl) ?_
      refine r_getI C hw (kx0 _) fX6_149 rfl dX6_order_14 ?_
      refine lv_icmp_ge (tgt := 29) C.1.1 C.1.2.1 dX6_order_17 (by decide) (fun hc => ?_) (fun hc => ?_)
      · replace h := ite_pos' h hc
        refine lv_iconst (v := (-1)) C.1.1 C.1.2.1 dX6_order_29 (by decide) ?_
        cases h
        exact r_iret C hw (Or.inl rfl) dX6_order_30
      · replace h := ite_neg' h hc
        refine lv_iload_n C.1.1 C.1.2.1 dX6_order_20 rfl (lv_at hl 1 rfl) ?_
        refine lv_aload_n C.1.1 C.1.2.1 dX6_order_21 rfl (lv_at hl 0 rfl) ?_
        refine r_getR (v := .ref (ad 5)) C hw (kx0 _) fX6_20 rfl (hx0_2 hx) dX6_order_22 ?_
        refine r_alen (ty := .int) (v := 16) C hw (kx5 _) (by decide) (by decide) dX6_order_25 ?_
        refine lv_icmp_lt (tgt := 31) C.1.1 C.1.2.1 dX6_order_26 (by decide) (fun hc => ?_) (fun hc => ?_)
        · replace h := ite_pos' h hc
          refine lv_aload_n C.1.1 C.1.2.1 dX6_order_31 rfl (lv_at hl 0 rfl) ?_
          refine r_getR (v := .ref (ad 5)) C hw (kx0 _) fX6_20 rfl (hx0_2 hx) dX6_order_32 ?_
          refine lv_iload_n C.1.1 C.1.2.1 dX6_order_35 rfl (lv_at hl 1 rfl) ?_
          obtain ⟨hz, h⟩ := ck_some h
          refine r_iald C hw (kx5 _) (inB_in hz) dX6_order_36 ?_
          cases h
          exact r_iret C hw (Or.inl rfl) dX6_order_37
        · replace h := ite_neg' h hc
          refine lv_iconst (v := (-1)) C.1.1 C.1.2.1 dX6_order_29 (by decide) ?_
          cases h
          exact r_iret C hw (Or.inl rfl) dX6_order_30
set_option maxHeartbeats 4000000 in
set_option maxRecDepth 100000 in
theorem c_X6_order (hx : HX hr ad) {a1 : Int32} {g : GM} {r : Int32} {gz : GM} (h : F_X6_order a1 g = some (r, gz)) (sz : Nat) : Met l yX6_order (WSX yX6_order cX6_order 2 (some .int)) (RM 252 1 6) (va_Pc [.ref (ad 0), .int a1] (PX D cA ev hr ad (KX ++ []) g sz)) (QI D cA ev hr ad (AX ad (KX ++ []).length sz) (KX ++ []) r gz) 1 6 (AX ad (KX ++ []).length sz) :=
  met_of (own := RX6) pnX6 rfl (Nat.le_of_ble_eq_true rfl) (fun p e s m below meth c ls C hw hsz hl => w_X6_order_0 C hx hw hl h)
set_option maxHeartbeats 4000000 in
set_option maxRecDepth 100000 in
theorem w_X6_rings_0 (C : CX p s m args meth c RX6 yX6_rings cX6_rings 2 (some .int) D cA) (hx : HX hr ad) {H : Heap} {locs : List Loc} {g : GM} (hw : WS D cA ev hr ad A (KX ++ []) s H locs g) {ls : Array Slot} (hl : lv_has ls 2 [(0, .ref (ad 0))]) {r : Int32} {gz : GM} (h : F_X6_rings g = some (r, gz)) : W p l e (RM 252 1 6) s m args below meth c H locs 0 0 (MQ below (QI D cA ev hr ad A (KX ++ []) r gz) args s 1 6 A) (F0 m 0 ls []) := by
  refine lv_aload_n C.1.1 C.1.2.1 dX6_rings_0 rfl (lv_at hl 0 rfl) ?_
  obtain ⟨⟨r_1, g_2⟩, hc, h⟩ := bnd_some h
  refine r_vI (dc := 250) (As := []) (rest := []) C hw vX6_152 (kx0 _) (by decide) rfl (fun sz => c_X6_least hx hc sz) (by decide) rfl rfl hl.1 (Nat.le_of_ble_eq_true rfl) dX6_rings_1 (by decide) (fun H locs hw => ?_)
  refine lv_istore_n (lv' := [(1, .int r_1), (0, .ref (ad 0))]) C.1.1 C.1.2.1 dX6_rings_4 rfl hl (by decide) rfl (fun ls hl => ?_)
  refine lt_gen (P := fun x => lv_has ls 2 [(1, .int x), (0, .ref (ad 0))]) h hl (fun x1_3 h hl => ?_)
  refine lv_iload_n C.1.1 C.1.2.1 dX6_rings_5 rfl (lv_at hl 0 rfl) ?_
  refine lv_iconst (v := (-1)) C.1.1 C.1.2.1 dX6_rings_6 (by decide) ?_
  refine lv_icmp_ne (tgt := 14) C.1.1 C.1.2.1 dX6_rings_7 (by decide) (fun hc => ?_) (fun hc => ?_)
  · replace h := ite_neg' h hc
    refine lv_iload_n C.1.1 C.1.2.1 dX6_rings_14 rfl (lv_at hl 0 rfl) ?_
    obtain ⟨r_4, hc, h⟩ := bnd_some h
    refine r_sI (dc := 1) (As := [.int x1_3]) (rest := []) C hw sX6_170 (fun sz => c_J6_bitCount_0f7a4 trivial hc sz) (by decide) rfl rfl hl.1 (Nat.le_of_ble_eq_true rfl) dX6_rings_15 ⟨Nat.le_refl _, Nat.le_refl _⟩ (fun H locs hw => ?_)
    refine lv_aload_n C.1.1 C.1.2.1 dX6_rings_18 rfl (lv_at hl 1 rfl) ?_
    refine r_getI C hw (kx0 _) fX6_149 rfl dX6_rings_19 ?_
    refine lv_isub C.1.1 C.1.2.1 dX6_rings_22 ?_
    cases h
    exact r_iret C hw (Or.inl rfl) dX6_rings_23
  · replace h := ite_pos' h hc
    refine lv_iconst (v := (-1)) C.1.1 C.1.2.1 dX6_rings_10 (by decide) ?_
    refine lv_goto (tgt := 23) C.1.1 C.1.2.1 dX6_rings_11 (by decide) ?_
    cases h
    exact r_iret C hw (Or.inl rfl) dX6_rings_23
set_option maxHeartbeats 4000000 in
set_option maxRecDepth 100000 in
theorem c_X6_rings (hx : HX hr ad) {g : GM} {r : Int32} {gz : GM} (h : F_X6_rings g = some (r, gz)) (sz : Nat) : Met l yX6_rings (WSX yX6_rings cX6_rings 2 (some .int)) (RM 252 1 6) (va_Pc [.ref (ad 0)] (PX D cA ev hr ad (KX ++ []) g sz)) (QI D cA ev hr ad (AX ad (KX ++ []).length sz) (KX ++ []) r gz) 1 6 (AX ad (KX ++ []).length sz) :=
  met_of (own := RX6) pnX6 rfl (Nat.le_of_ble_eq_true rfl) (fun p e s m below meth c ls C hw hsz hl => w_X6_rings_0 C hx hw hl h)
set_option maxHeartbeats 4000000 in
set_option maxRecDepth 100000 in
theorem w_X6_weight_0 (C : CX p s m args meth c RX6 yX6_weight cX6_weight 8 (some .int) D cA) (hx : HX hr ad) {H : Heap} {locs : List Loc} {g : GM} (hw : WS D cA ev hr ad A (KX ++ []) s H locs g) {a1 : Int32} {a2 : Int32} {a3 : Int32} {ls : Array Slot} (hl : lv_has ls 8 [(0, .ref (ad 0)), (1, .int a1), (2, .int a2), (3, .int a3)]) {r : Int32} {gz : GM} (h : F_X6_weight a1 a2 a3 g = some (r, gz)) : W p l e (RM 252 1 6) s m args below meth c H locs 0 0 (MQ below (QI D cA ev hr ad A (KX ++ []) r gz) args s 1 6 A) (F0 m 0 ls []) := by
  refine lv_aload_n C.1.1 C.1.2.1 dX6_weight_0 rfl (lv_at hl 0 rfl) ?_
  obtain ⟨⟨r_1, g_2⟩, hc, h⟩ := bnd_some h
  refine r_vI (dc := 250) (As := []) (rest := []) C hw vX6_152 (kx0 _) (by decide) rfl (fun sz => c_X6_least hx hc sz) (by decide) rfl rfl hl.1 (Nat.le_of_ble_eq_true rfl) dX6_weight_1 (by decide) (fun H locs hw => ?_)
  refine lv_istore (lv' := [(4, .int r_1), (0, .ref (ad 0)), (1, .int a1), (2, .int a2), (3, .int a3)]) C.1.1 C.1.2.1 dX6_weight_4 hl (by decide) rfl (fun ls hl => ?_)
  refine lt_gen (P := fun x => lv_has ls 8 [(4, .int x), (0, .ref (ad 0)), (1, .int a1), (2, .int a2), (3, .int a3)]) h hl (fun x4_3 h hl => ?_)
  refine lv_iload C.1.1 C.1.2.1 dX6_weight_6 (lv_at hl 0 rfl) ?_
  refine lv_iconst (v := (-1)) C.1.1 C.1.2.1 dX6_weight_8 (by decide) ?_
  refine lv_icmp_eq (tgt := 24) C.1.1 C.1.2.1 dX6_weight_9 (by decide) (fun hc => ?_) (fun hc => ?_)
  · replace h := ite_pos' h hc
    refine lv_iconst (v := (-1)) C.1.1 C.1.2.1 dX6_weight_24 (by decide) ?_
    cases h
    exact r_iret C hw (Or.inl rfl) dX6_weight_25
  · replace h := ite_neg' h hc
    refine lv_aload_n C.1.1 C.1.2.1 dX6_weight_12 rfl (lv_at hl 1 rfl) ?_
    refine r_getR (v := .ref (ad 6)) C hw (kx0 _) fX6_26 rfl (hx0_3 hx) dX6_weight_13 ?_
    refine lv_iload_n C.1.1 C.1.2.1 dX6_weight_16 rfl (lv_at hl 2 rfl) ?_
    refine lv_iload_n C.1.1 C.1.2.1 dX6_weight_17 rfl (lv_at hl 3 rfl) ?_
    obtain ⟨r_4, hc, h⟩ := bnd_some h
    refine r_vI (dc := 2) (As := [.int a1, .int a2]) (rest := []) C hw vX6_176 (kx6 _) (by decide) rfl (fun sz => c_X2_isPlainColumn_s hx hc sz) (by decide) rfl rfl hl.1 (Nat.le_of_ble_eq_true rfl) dX6_weight_18 ⟨Nat.le_refl _, Nat.le_refl _⟩ (fun H locs hw => ?_)
    refine lv_if_ne (tgt := 26) C.1.1 C.1.2.1 dX6_weight_21 (by decide) (fun hc => ?_) (fun hc => ?_)
    · replace h := ite_neg' h hc
      refine lv_aload_n C.1.1 C.1.2.1 dX6_weight_26 rfl (lv_at hl 1 rfl) ?_
      refine r_getR (v := .ref (ad 6)) C hw (kx0 _) fX6_26 rfl (hx0_3 hx) dX6_weight_27 ?_
      refine lv_iload_n C.1.1 C.1.2.1 dX6_weight_30 rfl (lv_at hl 2 rfl) ?_
      refine lv_iload_n C.1.1 C.1.2.1 dX6_weight_31 rfl (lv_at hl 3 rfl) ?_
      refine lv_aload_n C.1.1 C.1.2.1 dX6_weight_32 rfl (lv_at hl 1 rfl) ?_
      refine r_getI C hw (kx0 _) fX6_69 rfl dX6_weight_33 ?_
      refine lv_iconst (v := (-1)) C.1.1 C.1.2.1 dX6_weight_36 (by decide) ?_
      refine lv_ixor C.1.1 C.1.2.1 dX6_weight_37 ?_
      obtain ⟨r_5, hc, h⟩ := bnd_some h
      refine r_vI (dc := 2) (As := [.int a1, .int a2, .int ((gi g_2 0 7) ^^^ ((-1)))]) (rest := []) C hw vX6_185 (kx6 _) (by decide) rfl (fun sz => c_X2_total_s hx hc sz) (by decide) rfl rfl hl.1 (Nat.le_of_ble_eq_true rfl) dX6_weight_38 ⟨Nat.le_refl _, Nat.le_refl _⟩ (fun H locs hw => ?_)
      refine lv_istore (lv' := [(5, .int r_5), (4, .int x4_3), (0, .ref (ad 0)), (1, .int a1), (2, .int a2), (3, .int a3)]) C.1.1 C.1.2.1 dX6_weight_41 hl (by decide) rfl (fun ls hl => ?_)
      refine lt_gen (P := fun x => lv_has ls 8 [(5, .int x), (4, .int x4_3), (0, .ref (ad 0)), (1, .int a1), (2, .int a2), (3, .int a3)]) h hl (fun x5_6 h hl => ?_)
      refine lv_aload_n C.1.1 C.1.2.1 dX6_weight_43 rfl (lv_at hl 2 rfl) ?_
      refine r_getR (v := .ref (ad 6)) C hw (kx0 _) fX6_26 rfl (hx0_3 hx) dX6_weight_44 ?_
      refine lv_iload_n C.1.1 C.1.2.1 dX6_weight_47 rfl (lv_at hl 3 rfl) ?_
      refine lv_iload_n C.1.1 C.1.2.1 dX6_weight_48 rfl (lv_at hl 4 rfl) ?_
      refine lv_iload C.1.1 C.1.2.1 dX6_weight_49 (lv_at hl 1 rfl) ?_
      obtain ⟨r_7, hc, h⟩ := bnd_some h
      refine r_vI (dc := 2) (As := [.int a1, .int a2, .int x4_3]) (rest := []) C hw vX6_185 (kx6 _) (by decide) rfl (fun sz => c_X2_total_s hx hc sz) (by decide) rfl rfl hl.1 (Nat.le_of_ble_eq_true rfl) dX6_weight_51 ⟨Nat.le_refl _, Nat.le_refl _⟩ (fun H locs hw => ?_)
      refine lv_istore (lv' := [(6, .int r_7), (5, .int x5_6), (4, .int x4_3), (0, .ref (ad 0)), (1, .int a1), (2, .int a2), (3, .int a3)]) C.1.1 C.1.2.1 dX6_weight_54 hl (by decide) rfl (fun ls hl => ?_)
      refine lt_gen (P := fun x => lv_has ls 8 [(6, .int x), (5, .int x5_6), (4, .int x4_3), (0, .ref (ad 0)), (1, .int a1), (2, .int a2), (3, .int a3)]) h hl (fun x6_8 h hl => ?_)
      refine lv_iload C.1.1 C.1.2.1 dX6_weight_56 (lv_at hl 1 rfl) ?_
      refine lv_iload C.1.1 C.1.2.1 dX6_weight_58 (lv_at hl 0 rfl) ?_
      obtain ⟨r_9, hc, h⟩ := bnd_some h
      refine r_sI (dc := 1) (As := [.int x5_6, .int x6_8]) (rest := []) C hw sX6_189 (fun sz => c_X6_commonDivisor hx hc sz) (by decide) rfl rfl hl.1 (Nat.le_of_ble_eq_true rfl) dX6_weight_60 ⟨Nat.le_refl _, Nat.le_refl _⟩ (fun H locs hw => ?_)
      refine lv_istore (lv' := [(7, .int r_9), (6, .int x6_8), (5, .int x5_6), (4, .int x4_3), (0, .ref (ad 0)), (1, .int a1), (2, .int a2), (3, .int a3)]) C.1.1 C.1.2.1 dX6_weight_63 hl (by decide) rfl (fun ls hl => ?_)
      refine lt_gen (P := fun x => lv_has ls 8 [(7, .int x), (6, .int x6_8), (5, .int x5_6), (4, .int x4_3), (0, .ref (ad 0)), (1, .int a1), (2, .int a2), (3, .int a3)]) h hl (fun x7_10 h hl => ?_)
      refine lv_iload C.1.1 C.1.2.1 dX6_weight_65 (lv_at hl 1 rfl) ?_
      refine lv_if_eq (tgt := 75) C.1.1 C.1.2.1 dX6_weight_67 (by decide) (fun hc => ?_) (fun hc => ?_)
      · replace h := ite_pos' h hc
        refine lv_iconst (v := (-1)) C.1.1 C.1.2.1 dX6_weight_75 (by decide) ?_
        cases h
        exact r_iret C hw (Or.inl rfl) dX6_weight_76
      · replace h := ite_neg' h hc
        refine lv_iload C.1.1 C.1.2.1 dX6_weight_70 (lv_at hl 0 rfl) ?_
        refine lv_if_ne (tgt := 77) C.1.1 C.1.2.1 dX6_weight_72 (by decide) (fun hc => ?_) (fun hc => ?_)
        · replace h := ite_neg' h hc
          refine lv_iload_n C.1.1 C.1.2.1 dX6_weight_77 rfl (lv_at hl 7 rfl) ?_
          refine lv_if_eq (tgt := 89) C.1.1 C.1.2.1 dX6_weight_78 (by decide) (fun hc => ?_) (fun hc => ?_)
          · replace h := ite_pos' h hc
            refine lv_iload C.1.1 C.1.2.1 dX6_weight_89 (lv_at hl 2 rfl) ?_
            refine lv_iload C.1.1 C.1.2.1 dX6_weight_91 (lv_at hl 0 rfl) ?_
            obtain ⟨hz, h⟩ := ck_some h
            refine lv_idiv C.1.1 C.1.2.1 dX6_weight_93 (nz_of hz) ?_
            cases h
            exact r_iret C hw (Or.inl rfl) dX6_weight_94
          · replace h := ite_neg' h hc
            refine lv_iload C.1.1 C.1.2.1 dX6_weight_81 (lv_at hl 1 rfl) ?_
            refine lv_iload C.1.1 C.1.2.1 dX6_weight_83 (lv_at hl 0 rfl) ?_
            obtain ⟨hz, h⟩ := ck_some h
            refine lv_idiv C.1.1 C.1.2.1 dX6_weight_85 (nz_of hz) ?_
            refine lv_goto (tgt := 94) C.1.1 C.1.2.1 dX6_weight_86 (by decide) ?_
            cases h
            exact r_iret C hw (Or.inl rfl) dX6_weight_94
        · replace h := ite_pos' h hc
          refine lv_iconst (v := (-1)) C.1.1 C.1.2.1 dX6_weight_75 (by decide) ?_
          cases h
          exact r_iret C hw (Or.inl rfl) dX6_weight_76
    · replace h := ite_pos' h hc
      refine lv_iconst (v := (-1)) C.1.1 C.1.2.1 dX6_weight_24 (by decide) ?_
      cases h
      exact r_iret C hw (Or.inl rfl) dX6_weight_25
set_option maxHeartbeats 4000000 in
set_option maxRecDepth 100000 in
theorem c_X6_weight (hx : HX hr ad) {a1 : Int32} {a2 : Int32} {a3 : Int32} {g : GM} {r : Int32} {gz : GM} (h : F_X6_weight a1 a2 a3 g = some (r, gz)) (sz : Nat) : Met l yX6_weight (WSX yX6_weight cX6_weight 8 (some .int)) (RM 252 1 6) (va_Pc [.ref (ad 0), .int a1, .int a2, .int a3] (PX D cA ev hr ad (KX ++ []) g sz)) (QI D cA ev hr ad (AX ad (KX ++ []).length sz) (KX ++ []) r gz) 1 6 (AX ad (KX ++ []).length sz) :=
  met_of (own := RX6) pnX6 rfl (Nat.le_of_ble_eq_true rfl) (fun p e s m below meth c ls C hw hsz hl => w_X6_weight_0 C hx hw hl h)
end WT

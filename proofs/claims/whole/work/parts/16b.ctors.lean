section WAb
variable {p : Program} {l : Launch} {e : Env} {s : State} {m : MethodId} {args : Array Value} {below : List Frame} {meth : Method} {c : Code} {D : va_G} {cA : Nat → ClassId} {ev : EVa} {hr : Nat → Nat → Value} {ad a0 : Nat → Nat} {hrf : (Nat → Nat) → Nat → Nat → Value} {A : Nat → Prop} {tl : List (Nat × Nat)}
set_option maxHeartbeats 4000000 in
set_option maxRecDepth 100000 in
theorem w_X0_init_0 (C : CX p s m args meth c RX0 yX0_init cX0_init 5 none D cA) {H : Heap} {locs : List Loc} {g : GM} (hw : WS D cA ev hr ad A (KX ++ [(0, 6)]) s H locs g) {a3 : Int32} {a4 : Int32} {ls : Array Slot} (hl : lv_has ls 5 [(0, .ref (ad 42)), (1, .ref (ad 6)), (2, .ref (ad 28)), (3, .int a3), (4, .int a4)]) {gz : GM} (h : F_X0_init a3 a4 g = some gz) : W p l e (RM 2 0 0) s m args below meth c H locs 0 0 (MQ below (QVA D cA ev (hr_X0_init hr) ad 43 A (KX ++ [(0, 6)]) gz) args s 0 0 A) (F0 m 0 ls []) := by
  refine lv_aload_n C.1.1 C.1.2.1 dX0_init_0 rfl (lv_at hl 0 rfl) ?_
  refine r_obj C kz650 hl.1 dX0_init_1 (Nat.le_of_ble_eq_true rfl) (Nat.le_of_ble_eq_true rfl) ?_
  refine lv_aload_n C.1.1 C.1.2.1 dX0_init_4 rfl (lv_at hl 0 rfl) ?_
  refine lv_aload_n C.1.1 C.1.2.1 dX0_init_5 rfl (lv_at hl 1 rfl) ?_
  refine r_putR (i := 42) (q := (ad 6)) C hw (by rfl) fX0_9 rfl rfl rfl (Or.inr ⟨rfl, rfl⟩) dX0_init_6 (fun H locs hw => ?_)
  refine lv_aload_n C.1.1 C.1.2.1 dX0_init_9 rfl (lv_at hl 0 rfl) ?_
  refine lv_aload_n C.1.1 C.1.2.1 dX0_init_10 rfl (lv_at hl 2 rfl) ?_
  refine r_putR (i := 42) (q := (ad 28)) C hw (by rfl) fX0_15 rfl rfl rfl (Or.inr ⟨rfl, rfl⟩) dX0_init_11 (fun H locs hw => ?_)
  refine lv_aload_n C.1.1 C.1.2.1 dX0_init_14 rfl (lv_at hl 0 rfl) ?_
  refine lv_iload_n C.1.1 C.1.2.1 dX0_init_15 rfl (lv_at hl 3 rfl) ?_
  refine r_putI (i := 42) C hw (by rfl) fX0_19 rfl rfl (Or.inr ⟨rfl, rfl⟩) dX0_init_16 (fun H locs hw => ?_)
  refine lt_gen (P := fun g => WS D cA ev (ur (ur hr 42 0 (.ref ((ad 6)))) 42 1 (.ref ((ad 28)))) ad A (KX ++ [(0, 6)]) s H locs g) h hw (fun g_1 h hw => ?_)
  refine lv_aload_n C.1.1 C.1.2.1 dX0_init_19 rfl (lv_at hl 0 rfl) ?_
  refine lv_iload C.1.1 C.1.2.1 dX0_init_20 (lv_at hl 4 rfl) ?_
  refine lv_iload_n C.1.1 C.1.2.1 dX0_init_22 rfl (lv_at hl 3 rfl) ?_
  refine lv_iconst (v := (-1)) C.1.1 C.1.2.1 dX0_init_23 (by decide) ?_
  refine lv_ixor C.1.1 C.1.2.1 dX0_init_24 ?_
  refine lv_iand C.1.1 C.1.2.1 dX0_init_25 ?_
  refine r_putI (i := 42) C hw (by rfl) fX0_23 rfl rfl (Or.inr ⟨rfl, rfl⟩) dX0_init_26 (fun H locs hw => ?_)
  refine lt_gen (P := fun g => WS D cA ev (ur (ur hr 42 0 (.ref ((ad 6)))) 42 1 (.ref ((ad 28)))) ad A (KX ++ [(0, 6)]) s H locs g) h hw (fun g_2 h hw => ?_)
  cases h
  exact r_vretA (a0 := ad) (n := 43) (hrf := hr_X0_init hr) C hw (by rw [ex_self] <;> decide) rfl rfl dX0_init_29

set_option maxHeartbeats 4000000 in
set_option maxRecDepth 100000 in
theorem c_X0_init {a3 : Int32} {a4 : Int32} {g gz : GM} (h : F_X0_init a3 a4 g = some gz) (sz : Nat) : Met l yX0_init (WSX yX0_init cX0_init 5 none) (RM 2 0 0) (va_Pc [.ref (ad 42), .ref (ad 6), .ref (ad 28), .int a3, .int a4] (PX D cA ev hr ad (KX ++ [(0, 6)]) g sz)) (QVA D cA ev (hr_X0_init hr) ad 43 (AX ad (KX ++ [(0, 6)]).length sz) (KX ++ [(0, 6)]) gz) 0 0 (AX ad (KX ++ [(0, 6)]).length sz) :=
  met_of (own := RX0) pnX0 rfl (Nat.le_of_ble_eq_true rfl) (fun p e s m below meth c ls C hw hsz hl => w_X0_init_0 C hw hl h)

set_option maxHeartbeats 4000000 in
set_option maxRecDepth 100000 in
theorem w_X3_init_0 (C : CX p s m args meth c RX3 yX3_init cX3_init 3 none D cA) {H : Heap} {locs : List Loc} {g : GM} (hw : WS D cA ev hr ad A (KX ++ [(3, 2)]) s H locs g) {ls : Array Slot} (hl : lv_has ls 3 [(0, .ref (ad 42)), (1, .ref (ad 1)), (2, .ref (ad 17))]) {gz : GM} (h : F_X3_init g = some gz) : W p l e (RM 2 0 0) s m args below meth c H locs 0 0 (MQ below (QVA D cA ev (hr_X3_init hr) ad 43 A (KX ++ [(3, 2)]) gz) args s 0 0 A) (F0 m 0 ls []) := by
  refine lv_aload_n C.1.1 C.1.2.1 dX3_init_0 rfl (lv_at hl 0 rfl) ?_
  refine r_obj C kz303 hl.1 dX3_init_1 (Nat.le_of_ble_eq_true rfl) (Nat.le_of_ble_eq_true rfl) ?_
  refine lv_aload_n C.1.1 C.1.2.1 dX3_init_4 rfl (lv_at hl 0 rfl) ?_
  refine lv_aload_n C.1.1 C.1.2.1 dX3_init_5 rfl (lv_at hl 1 rfl) ?_
  refine r_putR (i := 42) (q := (ad 1)) C hw (by rfl) fX3_9 rfl rfl rfl (Or.inr ⟨rfl, rfl⟩) dX3_init_6 (fun H locs hw => ?_)
  refine lv_aload_n C.1.1 C.1.2.1 dX3_init_9 rfl (lv_at hl 0 rfl) ?_
  refine lv_aload_n C.1.1 C.1.2.1 dX3_init_10 rfl (lv_at hl 2 rfl) ?_
  refine r_putR (i := 42) (q := (ad 17)) C hw (by rfl) fX3_15 rfl rfl rfl (Or.inr ⟨rfl, rfl⟩) dX3_init_11 (fun H locs hw => ?_)
  cases h
  exact r_vretA (a0 := ad) (n := 43) (hrf := hr_X3_init hr) C hw (by rw [ex_self] <;> decide) rfl rfl dX3_init_14

set_option maxHeartbeats 4000000 in
set_option maxRecDepth 100000 in
theorem c_X3_init {g gz : GM} (h : F_X3_init g = some gz) (sz : Nat) : Met l yX3_init (WSX yX3_init cX3_init 3 none) (RM 2 0 0) (va_Pc [.ref (ad 42), .ref (ad 1), .ref (ad 17)] (PX D cA ev hr ad (KX ++ [(3, 2)]) g sz)) (QVA D cA ev (hr_X3_init hr) ad 43 (AX ad (KX ++ [(3, 2)]).length sz) (KX ++ [(3, 2)]) gz) 0 0 (AX ad (KX ++ [(3, 2)]).length sz) :=
  met_of (own := RX3) pnX3 rfl (Nat.le_of_ble_eq_true rfl) (fun p e s m below meth c ls C hw hsz hl => w_X3_init_0 C hw hl h)

set_option maxHeartbeats 4000000 in
set_option maxRecDepth 100000 in
theorem w_X5_init_0 (C : CX p s m args meth c RX5 yX5_init cX5_init 4 none D cA) {H : Heap} {locs : List Loc} {g : GM} (hw : WS D cA ev hr ad A (KX ++ [(5, 7)]) s H locs g) {ls : Array Slot} (hl : lv_has ls 4 [(0, .ref (ad 42)), (1, .ref (ad 1)), (2, .ref (ad 6)), (3, .ref (ad 35))]) {gz : GM} (h : F_X5_init g = some gz) : W p l e (RM 2 1 4) s m args below meth c H locs 0 0 (MQ below (QVA D cA ev (hr_X5_init hr) ad 43 A (KX ++ [(5, 7), (8, 4)]) gz) args s 1 4 A) (F0 m 0 ls []) := by
  refine lv_aload_n C.1.1 C.1.2.1 dX5_init_0 rfl (lv_at hl 0 rfl) ?_
  refine r_obj C kz500 hl.1 dX5_init_1 (Nat.le_of_ble_eq_true rfl) (Nat.le_of_ble_eq_true rfl) ?_
  refine lv_aload_n C.1.1 C.1.2.1 dX5_init_4 rfl (lv_at hl 0 rfl) ?_
  refine lv_aload_n C.1.1 C.1.2.1 dX5_init_5 rfl (lv_at hl 1 rfl) ?_
  refine r_putR (i := 42) (q := (ad 1)) C hw (by rfl) fX5_9 rfl rfl rfl (Or.inr ⟨rfl, rfl⟩) dX5_init_6 (fun H locs hw => ?_)
  refine lv_aload_n C.1.1 C.1.2.1 dX5_init_9 rfl (lv_at hl 0 rfl) ?_
  refine lv_aload_n C.1.1 C.1.2.1 dX5_init_10 rfl (lv_at hl 2 rfl) ?_
  refine r_putR (i := 42) (q := (ad 6)) C hw (by rfl) fX5_15 rfl rfl rfl (Or.inr ⟨rfl, rfl⟩) dX5_init_11 (fun H locs hw => ?_)
  refine lv_aload_n C.1.1 C.1.2.1 dX5_init_14 rfl (lv_at hl 0 rfl) ?_
  refine lv_aload_n C.1.1 C.1.2.1 dX5_init_15 rfl (lv_at hl 3 rfl) ?_
  refine r_putR (i := 42) (q := (ad 35)) C hw (by rfl) fX5_19 rfl rfl rfl (Or.inr ⟨rfl, rfl⟩) dX5_init_16 (fun H locs hw => ?_)
  refine lv_aload_n C.1.1 C.1.2.1 dX5_init_19 rfl (lv_at hl 0 rfl) ?_
  refine lv_iconst (v := 4) C.1.1 C.1.2.1 dX5_init_20 (by decide) ?_
  refine r_newa (atype := .int) (ty := .int) (t := 8) (N := 4) (n := 43) (kl' := KX ++ [(5, 7), (8, 4)]) C hw rfl (Or.inl ⟨rfl, rfl⟩) kz197 (by rfl) (by rfl) (by decide) (by decide) (by decide) (Nat.le_of_ble_eq_true rfl) (Nat.le_of_ble_eq_true rfl) dX5_init_21 (fun q43 H hw => ?_)
  refine lt_gen (P := fun g => WS D cA ev (un (ur (ur (ur hr 42 0 (.ref ((ad 1)))) 42 1 (.ref ((ad 6)))) 42 2 (.ref ((ad 35)))) 43) (up ad 43 q43) A (KX ++ [(5, 7), (8, 4)]) s H locs g) h hw (fun g_1 h hw => ?_)
  refine r_putR (i := 42) (q := q43) C hw (by rfl) fX5_23 rfl rfl rfl (Or.inr ⟨rfl, rfl⟩) dX5_init_23 (fun H locs hw => ?_)
  cases h
  exact r_vretA (a0 := ad) (n := 43) (hrf := hr_X5_init hr) C hw (by rw [ex_up, ex_self] <;> decide) rfl rfl dX5_init_26

set_option maxHeartbeats 4000000 in
set_option maxRecDepth 100000 in
theorem c_X5_init {g gz : GM} (h : F_X5_init g = some gz) (sz : Nat) : Met l yX5_init (WSX yX5_init cX5_init 4 none) (RM 2 1 4) (va_Pc [.ref (ad 42), .ref (ad 1), .ref (ad 6), .ref (ad 35)] (PX D cA ev hr ad (KX ++ [(5, 7)]) g sz)) (QVA D cA ev (hr_X5_init hr) ad 43 (AX ad (KX ++ [(5, 7)]).length sz) (KX ++ [(5, 7), (8, 4)]) gz) 1 4 (AX ad (KX ++ [(5, 7)]).length sz) :=
  met_of (own := RX5) pnX5 rfl (Nat.le_of_ble_eq_true rfl) (fun p e s m below meth c ls C hw hsz hl => w_X5_init_0 C hw hl h)

set_option maxHeartbeats 4000000 in
set_option maxRecDepth 100000 in
theorem w_X2_init_6_0 (C : CX p s m args meth c RX2 yX2_init cX2_init 1 none D cA) {H : Heap} {locs : List Loc} {g : GM} (hw : WS D cA ev hr ad A ([(6, 14), (4, 11), (10, 1200), (9, 11), (8, 25), (8, 16), (2, 12)]) s H locs g) {ls : Array Slot} (hl : lv_has ls 1 [(0, .ref (ad 6))]) {gz : GM} (h : F_X2_init_6 g = some gz) : W p l e (RM 2 10 273) s m args below meth c H locs 0 0 (MQ below (QVA D cA ev (hr_X2_init_6 hr) ad 7 A ([(6, 14), (4, 11), (10, 1200), (9, 11), (8, 25), (8, 16), (2, 12), (9, 5), (8, 5), (8, 5), (9, 25), (8, 25), (8, 16), (8, 16), (8, 80), (8, 80), (8, 16)]) gz) args s 10 273 A) (F0 m 0 ls []) := by
  refine lv_aload_n C.1.1 C.1.2.1 dX2_init_0 rfl (lv_at hl 0 rfl) ?_
  refine r_obj C kz136 hl.1 dX2_init_1 (Nat.le_of_ble_eq_true rfl) (Nat.le_of_ble_eq_true rfl) ?_
  refine lv_aload_n C.1.1 C.1.2.1 dX2_init_4 rfl (lv_at hl 0 rfl) ?_
  refine lv_iconst (v := 5) C.1.1 C.1.2.1 dX2_init_5 (by decide) ?_
  refine r_newa (atype := .long) (ty := .long) (t := 9) (N := 5) (n := 7) (kl' := [(6, 14), (4, 11), (10, 1200), (9, 11), (8, 25), (8, 16), (2, 12), (9, 5)]) C hw rfl (Or.inr (Or.inl ⟨rfl, rfl⟩)) kz130 (by rfl) (by rfl) (by decide) (by decide) (by decide) (Nat.le_of_ble_eq_true rfl) (Nat.le_of_ble_eq_true rfl) dX2_init_6 (fun q7 H hw => ?_)
  refine lt_gen (P := fun g => WS D cA ev (un hr 7) (up ad 7 q7) A ([(6, 14), (4, 11), (10, 1200), (9, 11), (8, 25), (8, 16), (2, 12), (9, 5)]) s H locs g) h hw (fun g_1 h hw => ?_)
  refine r_putR (i := 6) (q := q7) C hw (by rfl) fX2_9 rfl rfl rfl (Or.inr ⟨rfl, rfl⟩) dX2_init_8 (fun H locs hw => ?_)
  refine lv_aload_n C.1.1 C.1.2.1 dX2_init_11 rfl (lv_at hl 0 rfl) ?_
  refine lv_iconst (v := 5) C.1.1 C.1.2.1 dX2_init_12 (by decide) ?_
  refine r_newa (atype := .int) (ty := .int) (t := 8) (N := 5) (n := 8) (kl' := [(6, 14), (4, 11), (10, 1200), (9, 11), (8, 25), (8, 16), (2, 12), (9, 5), (8, 5)]) C hw rfl (Or.inl ⟨rfl, rfl⟩) kz197 (by rfl) (by rfl) (by decide) (by decide) (by decide) (Nat.le_of_ble_eq_true rfl) (Nat.le_of_ble_eq_true rfl) dX2_init_13 (fun q8 H hw => ?_)
  refine lt_gen (P := fun g => WS D cA ev (un (ur (un hr 7) 6 1 (.ref q7)) 8) (up (up ad 7 q7) 8 q8) A ([(6, 14), (4, 11), (10, 1200), (9, 11), (8, 25), (8, 16), (2, 12), (9, 5), (8, 5)]) s H locs g) h hw (fun g_2 h hw => ?_)
  refine r_putR (i := 6) (q := q8) C hw (by rfl) fX2_15 rfl rfl rfl (Or.inr ⟨rfl, rfl⟩) dX2_init_15 (fun H locs hw => ?_)
  refine lv_aload_n C.1.1 C.1.2.1 dX2_init_18 rfl (lv_at hl 0 rfl) ?_
  refine lv_iconst (v := 5) C.1.1 C.1.2.1 dX2_init_19 (by decide) ?_
  refine r_newa (atype := .int) (ty := .int) (t := 8) (N := 5) (n := 9) (kl' := [(6, 14), (4, 11), (10, 1200), (9, 11), (8, 25), (8, 16), (2, 12), (9, 5), (8, 5), (8, 5)]) C hw rfl (Or.inl ⟨rfl, rfl⟩) kz197 (by rfl) (by rfl) (by decide) (by decide) (by decide) (Nat.le_of_ble_eq_true rfl) (Nat.le_of_ble_eq_true rfl) dX2_init_20 (fun q9 H hw => ?_)
  refine lt_gen (P := fun g => WS D cA ev (un (ur (un (ur (un hr 7) 6 1 (.ref q7)) 8) 6 2 (.ref q8)) 9) (up (up (up ad 7 q7) 8 q8) 9 q9) A ([(6, 14), (4, 11), (10, 1200), (9, 11), (8, 25), (8, 16), (2, 12), (9, 5), (8, 5), (8, 5)]) s H locs g) h hw (fun g_3 h hw => ?_)
  refine r_putR (i := 6) (q := q9) C hw (by rfl) fX2_19 rfl rfl rfl (Or.inr ⟨rfl, rfl⟩) dX2_init_22 (fun H locs hw => ?_)
  refine lv_aload_n C.1.1 C.1.2.1 dX2_init_25 rfl (lv_at hl 0 rfl) ?_
  refine lv_bipush (v := 25) C.1.1 C.1.2.1 dX2_init_26 (by decide) ?_
  refine r_newa (atype := .long) (ty := .long) (t := 9) (N := 25) (n := 10) (kl' := [(6, 14), (4, 11), (10, 1200), (9, 11), (8, 25), (8, 16), (2, 12), (9, 5), (8, 5), (8, 5), (9, 25)]) C hw rfl (Or.inr (Or.inl ⟨rfl, rfl⟩)) kz130 (by rfl) (by rfl) (by decide) (by decide) (by decide) (Nat.le_of_ble_eq_true rfl) (Nat.le_of_ble_eq_true rfl) dX2_init_28 (fun q10 H hw => ?_)
  refine lt_gen (P := fun g => WS D cA ev (un (ur (un (ur (un (ur (un hr 7) 6 1 (.ref q7)) 8) 6 2 (.ref q8)) 9) 6 3 (.ref q9)) 10) (up (up (up (up ad 7 q7) 8 q8) 9 q9) 10 q10) A ([(6, 14), (4, 11), (10, 1200), (9, 11), (8, 25), (8, 16), (2, 12), (9, 5), (8, 5), (8, 5), (9, 25)]) s H locs g) h hw (fun g_4 h hw => ?_)
  refine r_putR (i := 6) (q := q10) C hw (by rfl) fX2_22 rfl rfl rfl (Or.inr ⟨rfl, rfl⟩) dX2_init_30 (fun H locs hw => ?_)
  refine lv_aload_n C.1.1 C.1.2.1 dX2_init_33 rfl (lv_at hl 0 rfl) ?_
  refine lv_bipush (v := 25) C.1.1 C.1.2.1 dX2_init_34 (by decide) ?_
  refine r_newa (atype := .int) (ty := .int) (t := 8) (N := 25) (n := 11) (kl' := [(6, 14), (4, 11), (10, 1200), (9, 11), (8, 25), (8, 16), (2, 12), (9, 5), (8, 5), (8, 5), (9, 25), (8, 25)]) C hw rfl (Or.inl ⟨rfl, rfl⟩) kz197 (by rfl) (by rfl) (by decide) (by decide) (by decide) (Nat.le_of_ble_eq_true rfl) (Nat.le_of_ble_eq_true rfl) dX2_init_36 (fun q11 H hw => ?_)
  refine lt_gen (P := fun g => WS D cA ev (un (ur (un (ur (un (ur (un (ur (un hr 7) 6 1 (.ref q7)) 8) 6 2 (.ref q8)) 9) 6 3 (.ref q9)) 10) 6 4 (.ref q10)) 11) (up (up (up (up (up ad 7 q7) 8 q8) 9 q9) 10 q10) 11 q11) A ([(6, 14), (4, 11), (10, 1200), (9, 11), (8, 25), (8, 16), (2, 12), (9, 5), (8, 5), (8, 5), (9, 25), (8, 25)]) s H locs g) h hw (fun g_5 h hw => ?_)
  refine r_putR (i := 6) (q := q11) C hw (by rfl) fX2_25 rfl rfl rfl (Or.inr ⟨rfl, rfl⟩) dX2_init_38 (fun H locs hw => ?_)
  refine lv_aload_n C.1.1 C.1.2.1 dX2_init_41 rfl (lv_at hl 0 rfl) ?_
  refine lv_bipush (v := 16) C.1.1 C.1.2.1 dX2_init_42 (by decide) ?_
  refine r_newa (atype := .int) (ty := .int) (t := 8) (N := 16) (n := 12) (kl' := [(6, 14), (4, 11), (10, 1200), (9, 11), (8, 25), (8, 16), (2, 12), (9, 5), (8, 5), (8, 5), (9, 25), (8, 25), (8, 16)]) C hw rfl (Or.inl ⟨rfl, rfl⟩) kz197 (by rfl) (by rfl) (by decide) (by decide) (by decide) (Nat.le_of_ble_eq_true rfl) (Nat.le_of_ble_eq_true rfl) dX2_init_44 (fun q12 H hw => ?_)
  refine lt_gen (P := fun g => WS D cA ev (un (ur (un (ur (un (ur (un (ur (un (ur (un hr 7) 6 1 (.ref q7)) 8) 6 2 (.ref q8)) 9) 6 3 (.ref q9)) 10) 6 4 (.ref q10)) 11) 6 5 (.ref q11)) 12) (up (up (up (up (up (up ad 7 q7) 8 q8) 9 q9) 10 q10) 11 q11) 12 q12) A ([(6, 14), (4, 11), (10, 1200), (9, 11), (8, 25), (8, 16), (2, 12), (9, 5), (8, 5), (8, 5), (9, 25), (8, 25), (8, 16)]) s H locs g) h hw (fun g_6 h hw => ?_)
  refine r_putR (i := 6) (q := q12) C hw (by rfl) fX2_28 rfl rfl rfl (Or.inr ⟨rfl, rfl⟩) dX2_init_46 (fun H locs hw => ?_)
  refine lv_aload_n C.1.1 C.1.2.1 dX2_init_49 rfl (lv_at hl 0 rfl) ?_
  refine lv_bipush (v := 16) C.1.1 C.1.2.1 dX2_init_50 (by decide) ?_
  refine r_newa (atype := .int) (ty := .int) (t := 8) (N := 16) (n := 13) (kl' := [(6, 14), (4, 11), (10, 1200), (9, 11), (8, 25), (8, 16), (2, 12), (9, 5), (8, 5), (8, 5), (9, 25), (8, 25), (8, 16), (8, 16)]) C hw rfl (Or.inl ⟨rfl, rfl⟩) kz197 (by rfl) (by rfl) (by decide) (by decide) (by decide) (Nat.le_of_ble_eq_true rfl) (Nat.le_of_ble_eq_true rfl) dX2_init_52 (fun q13 H hw => ?_)
  refine lt_gen (P := fun g => WS D cA ev (un (ur (un (ur (un (ur (un (ur (un (ur (un (ur (un hr 7) 6 1 (.ref q7)) 8) 6 2 (.ref q8)) 9) 6 3 (.ref q9)) 10) 6 4 (.ref q10)) 11) 6 5 (.ref q11)) 12) 6 7 (.ref q12)) 13) (up (up (up (up (up (up (up ad 7 q7) 8 q8) 9 q9) 10 q10) 11 q11) 12 q12) 13 q13) A ([(6, 14), (4, 11), (10, 1200), (9, 11), (8, 25), (8, 16), (2, 12), (9, 5), (8, 5), (8, 5), (9, 25), (8, 25), (8, 16), (8, 16)]) s H locs g) h hw (fun g_7 h hw => ?_)
  refine r_putR (i := 6) (q := q13) C hw (by rfl) fX2_31 rfl rfl rfl (Or.inr ⟨rfl, rfl⟩) dX2_init_54 (fun H locs hw => ?_)
  refine lv_aload_n C.1.1 C.1.2.1 dX2_init_57 rfl (lv_at hl 0 rfl) ?_
  refine lv_bipush (v := 80) C.1.1 C.1.2.1 dX2_init_58 (by decide) ?_
  refine r_newa (atype := .int) (ty := .int) (t := 8) (N := 80) (n := 14) (kl' := [(6, 14), (4, 11), (10, 1200), (9, 11), (8, 25), (8, 16), (2, 12), (9, 5), (8, 5), (8, 5), (9, 25), (8, 25), (8, 16), (8, 16), (8, 80)]) C hw rfl (Or.inl ⟨rfl, rfl⟩) kz197 (by rfl) (by rfl) (by decide) (by decide) (by decide) (Nat.le_of_ble_eq_true rfl) (Nat.le_of_ble_eq_true rfl) dX2_init_60 (fun q14 H hw => ?_)
  refine lt_gen (P := fun g => WS D cA ev (un (ur (un (ur (un (ur (un (ur (un (ur (un (ur (un (ur (un hr 7) 6 1 (.ref q7)) 8) 6 2 (.ref q8)) 9) 6 3 (.ref q9)) 10) 6 4 (.ref q10)) 11) 6 5 (.ref q11)) 12) 6 7 (.ref q12)) 13) 6 8 (.ref q13)) 14) (up (up (up (up (up (up (up (up ad 7 q7) 8 q8) 9 q9) 10 q10) 11 q11) 12 q12) 13 q13) 14 q14) A ([(6, 14), (4, 11), (10, 1200), (9, 11), (8, 25), (8, 16), (2, 12), (9, 5), (8, 5), (8, 5), (9, 25), (8, 25), (8, 16), (8, 16), (8, 80)]) s H locs g) h hw (fun g_8 h hw => ?_)
  refine r_putR (i := 6) (q := q14) C hw (by rfl) fX2_34 rfl rfl rfl (Or.inr ⟨rfl, rfl⟩) dX2_init_62 (fun H locs hw => ?_)
  refine lv_aload_n C.1.1 C.1.2.1 dX2_init_65 rfl (lv_at hl 0 rfl) ?_
  refine lv_bipush (v := 80) C.1.1 C.1.2.1 dX2_init_66 (by decide) ?_
  refine r_newa (atype := .int) (ty := .int) (t := 8) (N := 80) (n := 15) (kl' := [(6, 14), (4, 11), (10, 1200), (9, 11), (8, 25), (8, 16), (2, 12), (9, 5), (8, 5), (8, 5), (9, 25), (8, 25), (8, 16), (8, 16), (8, 80), (8, 80)]) C hw rfl (Or.inl ⟨rfl, rfl⟩) kz197 (by rfl) (by rfl) (by decide) (by decide) (by decide) (Nat.le_of_ble_eq_true rfl) (Nat.le_of_ble_eq_true rfl) dX2_init_68 (fun q15 H hw => ?_)
  refine lt_gen (P := fun g => WS D cA ev (un (ur (un (ur (un (ur (un (ur (un (ur (un (ur (un (ur (un (ur (un hr 7) 6 1 (.ref q7)) 8) 6 2 (.ref q8)) 9) 6 3 (.ref q9)) 10) 6 4 (.ref q10)) 11) 6 5 (.ref q11)) 12) 6 7 (.ref q12)) 13) 6 8 (.ref q13)) 14) 6 9 (.ref q14)) 15) (up (up (up (up (up (up (up (up (up ad 7 q7) 8 q8) 9 q9) 10 q10) 11 q11) 12 q12) 13 q13) 14 q14) 15 q15) A ([(6, 14), (4, 11), (10, 1200), (9, 11), (8, 25), (8, 16), (2, 12), (9, 5), (8, 5), (8, 5), (9, 25), (8, 25), (8, 16), (8, 16), (8, 80), (8, 80)]) s H locs g) h hw (fun g_9 h hw => ?_)
  refine r_putR (i := 6) (q := q15) C hw (by rfl) fX2_37 rfl rfl rfl (Or.inr ⟨rfl, rfl⟩) dX2_init_70 (fun H locs hw => ?_)
  refine lv_aload_n C.1.1 C.1.2.1 dX2_init_73 rfl (lv_at hl 0 rfl) ?_
  refine lv_bipush (v := 16) C.1.1 C.1.2.1 dX2_init_74 (by decide) ?_
  refine r_newa (atype := .int) (ty := .int) (t := 8) (N := 16) (n := 16) (kl' := [(6, 14), (4, 11), (10, 1200), (9, 11), (8, 25), (8, 16), (2, 12), (9, 5), (8, 5), (8, 5), (9, 25), (8, 25), (8, 16), (8, 16), (8, 80), (8, 80), (8, 16)]) C hw rfl (Or.inl ⟨rfl, rfl⟩) kz197 (by rfl) (by rfl) (by decide) (by decide) (by decide) (Nat.le_of_ble_eq_true rfl) (Nat.le_of_ble_eq_true rfl) dX2_init_76 (fun q16 H hw => ?_)
  refine lt_gen (P := fun g => WS D cA ev (un (ur (un (ur (un (ur (un (ur (un (ur (un (ur (un (ur (un (ur (un (ur (un hr 7) 6 1 (.ref q7)) 8) 6 2 (.ref q8)) 9) 6 3 (.ref q9)) 10) 6 4 (.ref q10)) 11) 6 5 (.ref q11)) 12) 6 7 (.ref q12)) 13) 6 8 (.ref q13)) 14) 6 9 (.ref q14)) 15) 6 10 (.ref q15)) 16) (up (up (up (up (up (up (up (up (up (up ad 7 q7) 8 q8) 9 q9) 10 q10) 11 q11) 12 q12) 13 q13) 14 q14) 15 q15) 16 q16) A ([(6, 14), (4, 11), (10, 1200), (9, 11), (8, 25), (8, 16), (2, 12), (9, 5), (8, 5), (8, 5), (9, 25), (8, 25), (8, 16), (8, 16), (8, 80), (8, 80), (8, 16)]) s H locs g) h hw (fun g_10 h hw => ?_)
  refine r_putR (i := 6) (q := q16) C hw (by rfl) fX2_40 rfl rfl rfl (Or.inr ⟨rfl, rfl⟩) dX2_init_78 (fun H locs hw => ?_)
  cases h
  exact r_vretA (a0 := ad) (n := 7) (hrf := hr_X2_init_6 hr) C hw (by rw [ex_up, ex_up, ex_up, ex_up, ex_up, ex_up, ex_up, ex_up, ex_up, ex_up, ex_self] <;> decide) rfl rfl dX2_init_81

set_option maxHeartbeats 4000000 in
set_option maxRecDepth 100000 in
theorem c_X2_init_6 {g gz : GM} (h : F_X2_init_6 g = some gz) (sz : Nat) : Met l yX2_init (WSX yX2_init cX2_init 1 none) (RM 2 10 273) (va_Pc [.ref (ad 6)] (PX D cA ev hr ad ([(6, 14), (4, 11), (10, 1200), (9, 11), (8, 25), (8, 16), (2, 12)]) g sz)) (QVA D cA ev (hr_X2_init_6 hr) ad 7 (AX ad ([(6, 14), (4, 11), (10, 1200), (9, 11), (8, 25), (8, 16), (2, 12)]).length sz) ([(6, 14), (4, 11), (10, 1200), (9, 11), (8, 25), (8, 16), (2, 12), (9, 5), (8, 5), (8, 5), (9, 25), (8, 25), (8, 16), (8, 16), (8, 80), (8, 80), (8, 16)]) gz) 10 273 (AX ad ([(6, 14), (4, 11), (10, 1200), (9, 11), (8, 25), (8, 16), (2, 12)]).length sz) :=
  met_of (own := RX2) pnX2 rfl (Nat.le_of_ble_eq_true rfl) (fun p e s m below meth c ls C hw hsz hl => w_X2_init_6_0 C hw hl h)

set_option maxHeartbeats 4000000 in
set_option maxRecDepth 100000 in
theorem w_X2_init_17_0 (C : CX p s m args meth c RX2 yX2_init cX2_init 1 none D cA) {H : Heap} {locs : List Loc} {g : GM} (hw : WS D cA ev hr ad A ([(6, 14), (4, 11), (10, 1200), (9, 11), (8, 25), (8, 16), (2, 12), (9, 5), (8, 5), (8, 5), (9, 25), (8, 25), (8, 16), (8, 16), (8, 80), (8, 80), (8, 16), (2, 12)]) s H locs g) {ls : Array Slot} (hl : lv_has ls 1 [(0, .ref (ad 17))]) {gz : GM} (h : F_X2_init_17 g = some gz) : W p l e (RM 2 10 273) s m args below meth c H locs 0 0 (MQ below (QVA D cA ev (hr_X2_init_17 hr) ad 18 A ([(6, 14), (4, 11), (10, 1200), (9, 11), (8, 25), (8, 16), (2, 12), (9, 5), (8, 5), (8, 5), (9, 25), (8, 25), (8, 16), (8, 16), (8, 80), (8, 80), (8, 16), (2, 12), (9, 5), (8, 5), (8, 5), (9, 25), (8, 25), (8, 16), (8, 16), (8, 80), (8, 80), (8, 16)]) gz) args s 10 273 A) (F0 m 0 ls []) := by
  refine lv_aload_n C.1.1 C.1.2.1 dX2_init_0 rfl (lv_at hl 0 rfl) ?_
  refine r_obj C kz136 hl.1 dX2_init_1 (Nat.le_of_ble_eq_true rfl) (Nat.le_of_ble_eq_true rfl) ?_
  refine lv_aload_n C.1.1 C.1.2.1 dX2_init_4 rfl (lv_at hl 0 rfl) ?_
  refine lv_iconst (v := 5) C.1.1 C.1.2.1 dX2_init_5 (by decide) ?_
  refine r_newa (atype := .long) (ty := .long) (t := 9) (N := 5) (n := 18) (kl' := [(6, 14), (4, 11), (10, 1200), (9, 11), (8, 25), (8, 16), (2, 12), (9, 5), (8, 5), (8, 5), (9, 25), (8, 25), (8, 16), (8, 16), (8, 80), (8, 80), (8, 16), (2, 12), (9, 5)]) C hw rfl (Or.inr (Or.inl ⟨rfl, rfl⟩)) kz130 (by rfl) (by rfl) (by decide) (by decide) (by decide) (Nat.le_of_ble_eq_true rfl) (Nat.le_of_ble_eq_true rfl) dX2_init_6 (fun q18 H hw => ?_)
  refine lt_gen (P := fun g => WS D cA ev (un hr 18) (up ad 18 q18) A ([(6, 14), (4, 11), (10, 1200), (9, 11), (8, 25), (8, 16), (2, 12), (9, 5), (8, 5), (8, 5), (9, 25), (8, 25), (8, 16), (8, 16), (8, 80), (8, 80), (8, 16), (2, 12), (9, 5)]) s H locs g) h hw (fun g_1 h hw => ?_)
  refine r_putR (i := 17) (q := q18) C hw (by rfl) fX2_9 rfl rfl rfl (Or.inr ⟨rfl, rfl⟩) dX2_init_8 (fun H locs hw => ?_)
  refine lv_aload_n C.1.1 C.1.2.1 dX2_init_11 rfl (lv_at hl 0 rfl) ?_
  refine lv_iconst (v := 5) C.1.1 C.1.2.1 dX2_init_12 (by decide) ?_
  refine r_newa (atype := .int) (ty := .int) (t := 8) (N := 5) (n := 19) (kl' := [(6, 14), (4, 11), (10, 1200), (9, 11), (8, 25), (8, 16), (2, 12), (9, 5), (8, 5), (8, 5), (9, 25), (8, 25), (8, 16), (8, 16), (8, 80), (8, 80), (8, 16), (2, 12), (9, 5), (8, 5)]) C hw rfl (Or.inl ⟨rfl, rfl⟩) kz197 (by rfl) (by rfl) (by decide) (by decide) (by decide) (Nat.le_of_ble_eq_true rfl) (Nat.le_of_ble_eq_true rfl) dX2_init_13 (fun q19 H hw => ?_)
  refine lt_gen (P := fun g => WS D cA ev (un (ur (un hr 18) 17 1 (.ref q18)) 19) (up (up ad 18 q18) 19 q19) A ([(6, 14), (4, 11), (10, 1200), (9, 11), (8, 25), (8, 16), (2, 12), (9, 5), (8, 5), (8, 5), (9, 25), (8, 25), (8, 16), (8, 16), (8, 80), (8, 80), (8, 16), (2, 12), (9, 5), (8, 5)]) s H locs g) h hw (fun g_2 h hw => ?_)
  refine r_putR (i := 17) (q := q19) C hw (by rfl) fX2_15 rfl rfl rfl (Or.inr ⟨rfl, rfl⟩) dX2_init_15 (fun H locs hw => ?_)
  refine lv_aload_n C.1.1 C.1.2.1 dX2_init_18 rfl (lv_at hl 0 rfl) ?_
  refine lv_iconst (v := 5) C.1.1 C.1.2.1 dX2_init_19 (by decide) ?_
  refine r_newa (atype := .int) (ty := .int) (t := 8) (N := 5) (n := 20) (kl' := [(6, 14), (4, 11), (10, 1200), (9, 11), (8, 25), (8, 16), (2, 12), (9, 5), (8, 5), (8, 5), (9, 25), (8, 25), (8, 16), (8, 16), (8, 80), (8, 80), (8, 16), (2, 12), (9, 5), (8, 5), (8, 5)]) C hw rfl (Or.inl ⟨rfl, rfl⟩) kz197 (by rfl) (by rfl) (by decide) (by decide) (by decide) (Nat.le_of_ble_eq_true rfl) (Nat.le_of_ble_eq_true rfl) dX2_init_20 (fun q20 H hw => ?_)
  refine lt_gen (P := fun g => WS D cA ev (un (ur (un (ur (un hr 18) 17 1 (.ref q18)) 19) 17 2 (.ref q19)) 20) (up (up (up ad 18 q18) 19 q19) 20 q20) A ([(6, 14), (4, 11), (10, 1200), (9, 11), (8, 25), (8, 16), (2, 12), (9, 5), (8, 5), (8, 5), (9, 25), (8, 25), (8, 16), (8, 16), (8, 80), (8, 80), (8, 16), (2, 12), (9, 5), (8, 5), (8, 5)]) s H locs g) h hw (fun g_3 h hw => ?_)
  refine r_putR (i := 17) (q := q20) C hw (by rfl) fX2_19 rfl rfl rfl (Or.inr ⟨rfl, rfl⟩) dX2_init_22 (fun H locs hw => ?_)
  refine lv_aload_n C.1.1 C.1.2.1 dX2_init_25 rfl (lv_at hl 0 rfl) ?_
  refine lv_bipush (v := 25) C.1.1 C.1.2.1 dX2_init_26 (by decide) ?_
  refine r_newa (atype := .long) (ty := .long) (t := 9) (N := 25) (n := 21) (kl' := [(6, 14), (4, 11), (10, 1200), (9, 11), (8, 25), (8, 16), (2, 12), (9, 5), (8, 5), (8, 5), (9, 25), (8, 25), (8, 16), (8, 16), (8, 80), (8, 80), (8, 16), (2, 12), (9, 5), (8, 5), (8, 5), (9, 25)]) C hw rfl (Or.inr (Or.inl ⟨rfl, rfl⟩)) kz130 (by rfl) (by rfl) (by decide) (by decide) (by decide) (Nat.le_of_ble_eq_true rfl) (Nat.le_of_ble_eq_true rfl) dX2_init_28 (fun q21 H hw => ?_)
  refine lt_gen (P := fun g => WS D cA ev (un (ur (un (ur (un (ur (un hr 18) 17 1 (.ref q18)) 19) 17 2 (.ref q19)) 20) 17 3 (.ref q20)) 21) (up (up (up (up ad 18 q18) 19 q19) 20 q20) 21 q21) A ([(6, 14), (4, 11), (10, 1200), (9, 11), (8, 25), (8, 16), (2, 12), (9, 5), (8, 5), (8, 5), (9, 25), (8, 25), (8, 16), (8, 16), (8, 80), (8, 80), (8, 16), (2, 12), (9, 5), (8, 5), (8, 5), (9, 25)]) s H locs g) h hw (fun g_4 h hw => ?_)
  refine r_putR (i := 17) (q := q21) C hw (by rfl) fX2_22 rfl rfl rfl (Or.inr ⟨rfl, rfl⟩) dX2_init_30 (fun H locs hw => ?_)
  refine lv_aload_n C.1.1 C.1.2.1 dX2_init_33 rfl (lv_at hl 0 rfl) ?_
  refine lv_bipush (v := 25) C.1.1 C.1.2.1 dX2_init_34 (by decide) ?_
  refine r_newa (atype := .int) (ty := .int) (t := 8) (N := 25) (n := 22) (kl' := [(6, 14), (4, 11), (10, 1200), (9, 11), (8, 25), (8, 16), (2, 12), (9, 5), (8, 5), (8, 5), (9, 25), (8, 25), (8, 16), (8, 16), (8, 80), (8, 80), (8, 16), (2, 12), (9, 5), (8, 5), (8, 5), (9, 25), (8, 25)]) C hw rfl (Or.inl ⟨rfl, rfl⟩) kz197 (by rfl) (by rfl) (by decide) (by decide) (by decide) (Nat.le_of_ble_eq_true rfl) (Nat.le_of_ble_eq_true rfl) dX2_init_36 (fun q22 H hw => ?_)
  refine lt_gen (P := fun g => WS D cA ev (un (ur (un (ur (un (ur (un (ur (un hr 18) 17 1 (.ref q18)) 19) 17 2 (.ref q19)) 20) 17 3 (.ref q20)) 21) 17 4 (.ref q21)) 22) (up (up (up (up (up ad 18 q18) 19 q19) 20 q20) 21 q21) 22 q22) A ([(6, 14), (4, 11), (10, 1200), (9, 11), (8, 25), (8, 16), (2, 12), (9, 5), (8, 5), (8, 5), (9, 25), (8, 25), (8, 16), (8, 16), (8, 80), (8, 80), (8, 16), (2, 12), (9, 5), (8, 5), (8, 5), (9, 25), (8, 25)]) s H locs g) h hw (fun g_5 h hw => ?_)
  refine r_putR (i := 17) (q := q22) C hw (by rfl) fX2_25 rfl rfl rfl (Or.inr ⟨rfl, rfl⟩) dX2_init_38 (fun H locs hw => ?_)
  refine lv_aload_n C.1.1 C.1.2.1 dX2_init_41 rfl (lv_at hl 0 rfl) ?_
  refine lv_bipush (v := 16) C.1.1 C.1.2.1 dX2_init_42 (by decide) ?_
  refine r_newa (atype := .int) (ty := .int) (t := 8) (N := 16) (n := 23) (kl' := [(6, 14), (4, 11), (10, 1200), (9, 11), (8, 25), (8, 16), (2, 12), (9, 5), (8, 5), (8, 5), (9, 25), (8, 25), (8, 16), (8, 16), (8, 80), (8, 80), (8, 16), (2, 12), (9, 5), (8, 5), (8, 5), (9, 25), (8, 25), (8, 16)]) C hw rfl (Or.inl ⟨rfl, rfl⟩) kz197 (by rfl) (by rfl) (by decide) (by decide) (by decide) (Nat.le_of_ble_eq_true rfl) (Nat.le_of_ble_eq_true rfl) dX2_init_44 (fun q23 H hw => ?_)
  refine lt_gen (P := fun g => WS D cA ev (un (ur (un (ur (un (ur (un (ur (un (ur (un hr 18) 17 1 (.ref q18)) 19) 17 2 (.ref q19)) 20) 17 3 (.ref q20)) 21) 17 4 (.ref q21)) 22) 17 5 (.ref q22)) 23) (up (up (up (up (up (up ad 18 q18) 19 q19) 20 q20) 21 q21) 22 q22) 23 q23) A ([(6, 14), (4, 11), (10, 1200), (9, 11), (8, 25), (8, 16), (2, 12), (9, 5), (8, 5), (8, 5), (9, 25), (8, 25), (8, 16), (8, 16), (8, 80), (8, 80), (8, 16), (2, 12), (9, 5), (8, 5), (8, 5), (9, 25), (8, 25), (8, 16)]) s H locs g) h hw (fun g_6 h hw => ?_)
  refine r_putR (i := 17) (q := q23) C hw (by rfl) fX2_28 rfl rfl rfl (Or.inr ⟨rfl, rfl⟩) dX2_init_46 (fun H locs hw => ?_)
  refine lv_aload_n C.1.1 C.1.2.1 dX2_init_49 rfl (lv_at hl 0 rfl) ?_
  refine lv_bipush (v := 16) C.1.1 C.1.2.1 dX2_init_50 (by decide) ?_
  refine r_newa (atype := .int) (ty := .int) (t := 8) (N := 16) (n := 24) (kl' := [(6, 14), (4, 11), (10, 1200), (9, 11), (8, 25), (8, 16), (2, 12), (9, 5), (8, 5), (8, 5), (9, 25), (8, 25), (8, 16), (8, 16), (8, 80), (8, 80), (8, 16), (2, 12), (9, 5), (8, 5), (8, 5), (9, 25), (8, 25), (8, 16), (8, 16)]) C hw rfl (Or.inl ⟨rfl, rfl⟩) kz197 (by rfl) (by rfl) (by decide) (by decide) (by decide) (Nat.le_of_ble_eq_true rfl) (Nat.le_of_ble_eq_true rfl) dX2_init_52 (fun q24 H hw => ?_)
  refine lt_gen (P := fun g => WS D cA ev (un (ur (un (ur (un (ur (un (ur (un (ur (un (ur (un hr 18) 17 1 (.ref q18)) 19) 17 2 (.ref q19)) 20) 17 3 (.ref q20)) 21) 17 4 (.ref q21)) 22) 17 5 (.ref q22)) 23) 17 7 (.ref q23)) 24) (up (up (up (up (up (up (up ad 18 q18) 19 q19) 20 q20) 21 q21) 22 q22) 23 q23) 24 q24) A ([(6, 14), (4, 11), (10, 1200), (9, 11), (8, 25), (8, 16), (2, 12), (9, 5), (8, 5), (8, 5), (9, 25), (8, 25), (8, 16), (8, 16), (8, 80), (8, 80), (8, 16), (2, 12), (9, 5), (8, 5), (8, 5), (9, 25), (8, 25), (8, 16), (8, 16)]) s H locs g) h hw (fun g_7 h hw => ?_)
  refine r_putR (i := 17) (q := q24) C hw (by rfl) fX2_31 rfl rfl rfl (Or.inr ⟨rfl, rfl⟩) dX2_init_54 (fun H locs hw => ?_)
  refine lv_aload_n C.1.1 C.1.2.1 dX2_init_57 rfl (lv_at hl 0 rfl) ?_
  refine lv_bipush (v := 80) C.1.1 C.1.2.1 dX2_init_58 (by decide) ?_
  refine r_newa (atype := .int) (ty := .int) (t := 8) (N := 80) (n := 25) (kl' := [(6, 14), (4, 11), (10, 1200), (9, 11), (8, 25), (8, 16), (2, 12), (9, 5), (8, 5), (8, 5), (9, 25), (8, 25), (8, 16), (8, 16), (8, 80), (8, 80), (8, 16), (2, 12), (9, 5), (8, 5), (8, 5), (9, 25), (8, 25), (8, 16), (8, 16), (8, 80)]) C hw rfl (Or.inl ⟨rfl, rfl⟩) kz197 (by rfl) (by rfl) (by decide) (by decide) (by decide) (Nat.le_of_ble_eq_true rfl) (Nat.le_of_ble_eq_true rfl) dX2_init_60 (fun q25 H hw => ?_)
  refine lt_gen (P := fun g => WS D cA ev (un (ur (un (ur (un (ur (un (ur (un (ur (un (ur (un (ur (un hr 18) 17 1 (.ref q18)) 19) 17 2 (.ref q19)) 20) 17 3 (.ref q20)) 21) 17 4 (.ref q21)) 22) 17 5 (.ref q22)) 23) 17 7 (.ref q23)) 24) 17 8 (.ref q24)) 25) (up (up (up (up (up (up (up (up ad 18 q18) 19 q19) 20 q20) 21 q21) 22 q22) 23 q23) 24 q24) 25 q25) A ([(6, 14), (4, 11), (10, 1200), (9, 11), (8, 25), (8, 16), (2, 12), (9, 5), (8, 5), (8, 5), (9, 25), (8, 25), (8, 16), (8, 16), (8, 80), (8, 80), (8, 16), (2, 12), (9, 5), (8, 5), (8, 5), (9, 25), (8, 25), (8, 16), (8, 16), (8, 80)]) s H locs g) h hw (fun g_8 h hw => ?_)
  refine r_putR (i := 17) (q := q25) C hw (by rfl) fX2_34 rfl rfl rfl (Or.inr ⟨rfl, rfl⟩) dX2_init_62 (fun H locs hw => ?_)
  refine lv_aload_n C.1.1 C.1.2.1 dX2_init_65 rfl (lv_at hl 0 rfl) ?_
  refine lv_bipush (v := 80) C.1.1 C.1.2.1 dX2_init_66 (by decide) ?_
  refine r_newa (atype := .int) (ty := .int) (t := 8) (N := 80) (n := 26) (kl' := [(6, 14), (4, 11), (10, 1200), (9, 11), (8, 25), (8, 16), (2, 12), (9, 5), (8, 5), (8, 5), (9, 25), (8, 25), (8, 16), (8, 16), (8, 80), (8, 80), (8, 16), (2, 12), (9, 5), (8, 5), (8, 5), (9, 25), (8, 25), (8, 16), (8, 16), (8, 80), (8, 80)]) C hw rfl (Or.inl ⟨rfl, rfl⟩) kz197 (by rfl) (by rfl) (by decide) (by decide) (by decide) (Nat.le_of_ble_eq_true rfl) (Nat.le_of_ble_eq_true rfl) dX2_init_68 (fun q26 H hw => ?_)
  refine lt_gen (P := fun g => WS D cA ev (un (ur (un (ur (un (ur (un (ur (un (ur (un (ur (un (ur (un (ur (un hr 18) 17 1 (.ref q18)) 19) 17 2 (.ref q19)) 20) 17 3 (.ref q20)) 21) 17 4 (.ref q21)) 22) 17 5 (.ref q22)) 23) 17 7 (.ref q23)) 24) 17 8 (.ref q24)) 25) 17 9 (.ref q25)) 26) (up (up (up (up (up (up (up (up (up ad 18 q18) 19 q19) 20 q20) 21 q21) 22 q22) 23 q23) 24 q24) 25 q25) 26 q26) A ([(6, 14), (4, 11), (10, 1200), (9, 11), (8, 25), (8, 16), (2, 12), (9, 5), (8, 5), (8, 5), (9, 25), (8, 25), (8, 16), (8, 16), (8, 80), (8, 80), (8, 16), (2, 12), (9, 5), (8, 5), (8, 5), (9, 25), (8, 25), (8, 16), (8, 16), (8, 80), (8, 80)]) s H locs g) h hw (fun g_9 h hw => ?_)
  refine r_putR (i := 17) (q := q26) C hw (by rfl) fX2_37 rfl rfl rfl (Or.inr ⟨rfl, rfl⟩) dX2_init_70 (fun H locs hw => ?_)
  refine lv_aload_n C.1.1 C.1.2.1 dX2_init_73 rfl (lv_at hl 0 rfl) ?_
  refine lv_bipush (v := 16) C.1.1 C.1.2.1 dX2_init_74 (by decide) ?_
  refine r_newa (atype := .int) (ty := .int) (t := 8) (N := 16) (n := 27) (kl' := [(6, 14), (4, 11), (10, 1200), (9, 11), (8, 25), (8, 16), (2, 12), (9, 5), (8, 5), (8, 5), (9, 25), (8, 25), (8, 16), (8, 16), (8, 80), (8, 80), (8, 16), (2, 12), (9, 5), (8, 5), (8, 5), (9, 25), (8, 25), (8, 16), (8, 16), (8, 80), (8, 80), (8, 16)]) C hw rfl (Or.inl ⟨rfl, rfl⟩) kz197 (by rfl) (by rfl) (by decide) (by decide) (by decide) (Nat.le_of_ble_eq_true rfl) (Nat.le_of_ble_eq_true rfl) dX2_init_76 (fun q27 H hw => ?_)
  refine lt_gen (P := fun g => WS D cA ev (un (ur (un (ur (un (ur (un (ur (un (ur (un (ur (un (ur (un (ur (un (ur (un hr 18) 17 1 (.ref q18)) 19) 17 2 (.ref q19)) 20) 17 3 (.ref q20)) 21) 17 4 (.ref q21)) 22) 17 5 (.ref q22)) 23) 17 7 (.ref q23)) 24) 17 8 (.ref q24)) 25) 17 9 (.ref q25)) 26) 17 10 (.ref q26)) 27) (up (up (up (up (up (up (up (up (up (up ad 18 q18) 19 q19) 20 q20) 21 q21) 22 q22) 23 q23) 24 q24) 25 q25) 26 q26) 27 q27) A ([(6, 14), (4, 11), (10, 1200), (9, 11), (8, 25), (8, 16), (2, 12), (9, 5), (8, 5), (8, 5), (9, 25), (8, 25), (8, 16), (8, 16), (8, 80), (8, 80), (8, 16), (2, 12), (9, 5), (8, 5), (8, 5), (9, 25), (8, 25), (8, 16), (8, 16), (8, 80), (8, 80), (8, 16)]) s H locs g) h hw (fun g_10 h hw => ?_)
  refine r_putR (i := 17) (q := q27) C hw (by rfl) fX2_40 rfl rfl rfl (Or.inr ⟨rfl, rfl⟩) dX2_init_78 (fun H locs hw => ?_)
  cases h
  exact r_vretA (a0 := ad) (n := 18) (hrf := hr_X2_init_17 hr) C hw (by rw [ex_up, ex_up, ex_up, ex_up, ex_up, ex_up, ex_up, ex_up, ex_up, ex_up, ex_self] <;> decide) rfl rfl dX2_init_81

set_option maxHeartbeats 4000000 in
set_option maxRecDepth 100000 in
theorem c_X2_init_17 {g gz : GM} (h : F_X2_init_17 g = some gz) (sz : Nat) : Met l yX2_init (WSX yX2_init cX2_init 1 none) (RM 2 10 273) (va_Pc [.ref (ad 17)] (PX D cA ev hr ad ([(6, 14), (4, 11), (10, 1200), (9, 11), (8, 25), (8, 16), (2, 12), (9, 5), (8, 5), (8, 5), (9, 25), (8, 25), (8, 16), (8, 16), (8, 80), (8, 80), (8, 16), (2, 12)]) g sz)) (QVA D cA ev (hr_X2_init_17 hr) ad 18 (AX ad ([(6, 14), (4, 11), (10, 1200), (9, 11), (8, 25), (8, 16), (2, 12), (9, 5), (8, 5), (8, 5), (9, 25), (8, 25), (8, 16), (8, 16), (8, 80), (8, 80), (8, 16), (2, 12)]).length sz) ([(6, 14), (4, 11), (10, 1200), (9, 11), (8, 25), (8, 16), (2, 12), (9, 5), (8, 5), (8, 5), (9, 25), (8, 25), (8, 16), (8, 16), (8, 80), (8, 80), (8, 16), (2, 12), (9, 5), (8, 5), (8, 5), (9, 25), (8, 25), (8, 16), (8, 16), (8, 80), (8, 80), (8, 16)]) gz) 10 273 (AX ad ([(6, 14), (4, 11), (10, 1200), (9, 11), (8, 25), (8, 16), (2, 12), (9, 5), (8, 5), (8, 5), (9, 25), (8, 25), (8, 16), (8, 16), (8, 80), (8, 80), (8, 16), (2, 12)]).length sz) :=
  met_of (own := RX2) pnX2 rfl (Nat.le_of_ble_eq_true rfl) (fun p e s m below meth c ls C hw hsz hl => w_X2_init_17_0 C hw hl h)

set_option maxHeartbeats 4000000 in
set_option maxRecDepth 100000 in
theorem w_X1_init_28_0 (C : CX p s m args meth c RX1 yX1_init cX1_init 1 none D cA) {H : Heap} {locs : List Loc} {g : GM} (hw : WS D cA ev hr ad A ([(6, 14), (4, 11), (10, 1200), (9, 11), (8, 25), (8, 16), (2, 12), (9, 5), (8, 5), (8, 5), (9, 25), (8, 25), (8, 16), (8, 16), (8, 80), (8, 80), (8, 16), (2, 12), (9, 5), (8, 5), (8, 5), (9, 25), (8, 25), (8, 16), (8, 16), (8, 80), (8, 80), (8, 16), (1, 8)]) s H locs g) {ls : Array Slot} (hl : lv_has ls 1 [(0, .ref (ad 28))]) {gz : GM} (h : F_X1_init_28 g = some gz) : W p l e (RM 2 6 510) s m args below meth c H locs 0 0 (MQ below (QVA D cA ev (hr_X1_init_28 hr) ad 29 A ([(6, 14), (4, 11), (10, 1200), (9, 11), (8, 25), (8, 16), (2, 12), (9, 5), (8, 5), (8, 5), (9, 25), (8, 25), (8, 16), (8, 16), (8, 80), (8, 80), (8, 16), (2, 12), (9, 5), (8, 5), (8, 5), (9, 25), (8, 25), (8, 16), (8, 16), (8, 80), (8, 80), (8, 16), (1, 8), (11, 10), (8, 10), (8, 10), (8, 160), (8, 160), (8, 160)]) gz) args s 6 510 A) (F0 m 0 ls []) := by
  refine lv_aload_n C.1.1 C.1.2.1 dX1_init_0 rfl (lv_at hl 0 rfl) ?_
  refine r_obj C kz203 hl.1 dX1_init_1 (Nat.le_of_ble_eq_true rfl) (Nat.le_of_ble_eq_true rfl) ?_
  refine lv_aload_n C.1.1 C.1.2.1 dX1_init_4 rfl (lv_at hl 0 rfl) ?_
  refine lv_bipush (v := 10) C.1.1 C.1.2.1 dX1_init_5 (by decide) ?_
  refine r_newa (atype := .boolean) (ty := .boolean) (t := 11) (N := 10) (n := 29) (kl' := [(6, 14), (4, 11), (10, 1200), (9, 11), (8, 25), (8, 16), (2, 12), (9, 5), (8, 5), (8, 5), (9, 25), (8, 25), (8, 16), (8, 16), (8, 80), (8, 80), (8, 16), (2, 12), (9, 5), (8, 5), (8, 5), (9, 25), (8, 25), (8, 16), (8, 16), (8, 80), (8, 80), (8, 16), (1, 8), (11, 10)]) C hw rfl (Or.inr (Or.inr (Or.inr ⟨rfl, rfl⟩))) kz235 (by rfl) (by rfl) (by decide) (by decide) (by decide) (Nat.le_of_ble_eq_true rfl) (Nat.le_of_ble_eq_true rfl) dX1_init_7 (fun q29 H hw => ?_)
  refine lt_gen (P := fun g => WS D cA ev (un hr 29) (up ad 29 q29) A ([(6, 14), (4, 11), (10, 1200), (9, 11), (8, 25), (8, 16), (2, 12), (9, 5), (8, 5), (8, 5), (9, 25), (8, 25), (8, 16), (8, 16), (8, 80), (8, 80), (8, 16), (2, 12), (9, 5), (8, 5), (8, 5), (9, 25), (8, 25), (8, 16), (8, 16), (8, 80), (8, 80), (8, 16), (1, 8), (11, 10)]) s H locs g) h hw (fun g_1 h hw => ?_)
  refine r_putR (i := 28) (q := q29) C hw (by rfl) fX1_9 rfl rfl rfl (Or.inr ⟨rfl, rfl⟩) dX1_init_9 (fun H locs hw => ?_)
  refine lv_aload_n C.1.1 C.1.2.1 dX1_init_12 rfl (lv_at hl 0 rfl) ?_
  refine lv_bipush (v := 10) C.1.1 C.1.2.1 dX1_init_13 (by decide) ?_
  refine r_newa (atype := .int) (ty := .int) (t := 8) (N := 10) (n := 30) (kl' := [(6, 14), (4, 11), (10, 1200), (9, 11), (8, 25), (8, 16), (2, 12), (9, 5), (8, 5), (8, 5), (9, 25), (8, 25), (8, 16), (8, 16), (8, 80), (8, 80), (8, 16), (2, 12), (9, 5), (8, 5), (8, 5), (9, 25), (8, 25), (8, 16), (8, 16), (8, 80), (8, 80), (8, 16), (1, 8), (11, 10), (8, 10)]) C hw rfl (Or.inl ⟨rfl, rfl⟩) kz197 (by rfl) (by rfl) (by decide) (by decide) (by decide) (Nat.le_of_ble_eq_true rfl) (Nat.le_of_ble_eq_true rfl) dX1_init_15 (fun q30 H hw => ?_)
  refine lt_gen (P := fun g => WS D cA ev (un (ur (un hr 29) 28 1 (.ref q29)) 30) (up (up ad 29 q29) 30 q30) A ([(6, 14), (4, 11), (10, 1200), (9, 11), (8, 25), (8, 16), (2, 12), (9, 5), (8, 5), (8, 5), (9, 25), (8, 25), (8, 16), (8, 16), (8, 80), (8, 80), (8, 16), (2, 12), (9, 5), (8, 5), (8, 5), (9, 25), (8, 25), (8, 16), (8, 16), (8, 80), (8, 80), (8, 16), (1, 8), (11, 10), (8, 10)]) s H locs g) h hw (fun g_2 h hw => ?_)
  refine r_putR (i := 28) (q := q30) C hw (by rfl) fX1_15 rfl rfl rfl (Or.inr ⟨rfl, rfl⟩) dX1_init_17 (fun H locs hw => ?_)
  refine lv_aload_n C.1.1 C.1.2.1 dX1_init_20 rfl (lv_at hl 0 rfl) ?_
  refine lv_bipush (v := 10) C.1.1 C.1.2.1 dX1_init_21 (by decide) ?_
  refine r_newa (atype := .int) (ty := .int) (t := 8) (N := 10) (n := 31) (kl' := [(6, 14), (4, 11), (10, 1200), (9, 11), (8, 25), (8, 16), (2, 12), (9, 5), (8, 5), (8, 5), (9, 25), (8, 25), (8, 16), (8, 16), (8, 80), (8, 80), (8, 16), (2, 12), (9, 5), (8, 5), (8, 5), (9, 25), (8, 25), (8, 16), (8, 16), (8, 80), (8, 80), (8, 16), (1, 8), (11, 10), (8, 10), (8, 10)]) C hw rfl (Or.inl ⟨rfl, rfl⟩) kz197 (by rfl) (by rfl) (by decide) (by decide) (by decide) (Nat.le_of_ble_eq_true rfl) (Nat.le_of_ble_eq_true rfl) dX1_init_23 (fun q31 H hw => ?_)
  refine lt_gen (P := fun g => WS D cA ev (un (ur (un (ur (un hr 29) 28 1 (.ref q29)) 30) 28 2 (.ref q30)) 31) (up (up (up ad 29 q29) 30 q30) 31 q31) A ([(6, 14), (4, 11), (10, 1200), (9, 11), (8, 25), (8, 16), (2, 12), (9, 5), (8, 5), (8, 5), (9, 25), (8, 25), (8, 16), (8, 16), (8, 80), (8, 80), (8, 16), (2, 12), (9, 5), (8, 5), (8, 5), (9, 25), (8, 25), (8, 16), (8, 16), (8, 80), (8, 80), (8, 16), (1, 8), (11, 10), (8, 10), (8, 10)]) s H locs g) h hw (fun g_3 h hw => ?_)
  refine r_putR (i := 28) (q := q31) C hw (by rfl) fX1_19 rfl rfl rfl (Or.inr ⟨rfl, rfl⟩) dX1_init_25 (fun H locs hw => ?_)
  refine lv_aload_n C.1.1 C.1.2.1 dX1_init_28 rfl (lv_at hl 0 rfl) ?_
  refine lv_sipush (v := 160) C.1.1 C.1.2.1 dX1_init_29 (by decide) ?_
  refine r_newa (atype := .int) (ty := .int) (t := 8) (N := 160) (n := 32) (kl' := [(6, 14), (4, 11), (10, 1200), (9, 11), (8, 25), (8, 16), (2, 12), (9, 5), (8, 5), (8, 5), (9, 25), (8, 25), (8, 16), (8, 16), (8, 80), (8, 80), (8, 16), (2, 12), (9, 5), (8, 5), (8, 5), (9, 25), (8, 25), (8, 16), (8, 16), (8, 80), (8, 80), (8, 16), (1, 8), (11, 10), (8, 10), (8, 10), (8, 160)]) C hw rfl (Or.inl ⟨rfl, rfl⟩) kz197 (by rfl) (by rfl) (by decide) (by decide) (by decide) (Nat.le_of_ble_eq_true rfl) (Nat.le_of_ble_eq_true rfl) dX1_init_32 (fun q32 H hw => ?_)
  refine lt_gen (P := fun g => WS D cA ev (un (ur (un (ur (un (ur (un hr 29) 28 1 (.ref q29)) 30) 28 2 (.ref q30)) 31) 28 3 (.ref q31)) 32) (up (up (up (up ad 29 q29) 30 q30) 31 q31) 32 q32) A ([(6, 14), (4, 11), (10, 1200), (9, 11), (8, 25), (8, 16), (2, 12), (9, 5), (8, 5), (8, 5), (9, 25), (8, 25), (8, 16), (8, 16), (8, 80), (8, 80), (8, 16), (2, 12), (9, 5), (8, 5), (8, 5), (9, 25), (8, 25), (8, 16), (8, 16), (8, 80), (8, 80), (8, 16), (1, 8), (11, 10), (8, 10), (8, 10), (8, 160)]) s H locs g) h hw (fun g_4 h hw => ?_)
  refine r_putR (i := 28) (q := q32) C hw (by rfl) fX1_22 rfl rfl rfl (Or.inr ⟨rfl, rfl⟩) dX1_init_34 (fun H locs hw => ?_)
  refine lv_aload_n C.1.1 C.1.2.1 dX1_init_37 rfl (lv_at hl 0 rfl) ?_
  refine lv_sipush (v := 160) C.1.1 C.1.2.1 dX1_init_38 (by decide) ?_
  refine r_newa (atype := .int) (ty := .int) (t := 8) (N := 160) (n := 33) (kl' := [(6, 14), (4, 11), (10, 1200), (9, 11), (8, 25), (8, 16), (2, 12), (9, 5), (8, 5), (8, 5), (9, 25), (8, 25), (8, 16), (8, 16), (8, 80), (8, 80), (8, 16), (2, 12), (9, 5), (8, 5), (8, 5), (9, 25), (8, 25), (8, 16), (8, 16), (8, 80), (8, 80), (8, 16), (1, 8), (11, 10), (8, 10), (8, 10), (8, 160), (8, 160)]) C hw rfl (Or.inl ⟨rfl, rfl⟩) kz197 (by rfl) (by rfl) (by decide) (by decide) (by decide) (Nat.le_of_ble_eq_true rfl) (Nat.le_of_ble_eq_true rfl) dX1_init_41 (fun q33 H hw => ?_)
  refine lt_gen (P := fun g => WS D cA ev (un (ur (un (ur (un (ur (un (ur (un hr 29) 28 1 (.ref q29)) 30) 28 2 (.ref q30)) 31) 28 3 (.ref q31)) 32) 28 5 (.ref q32)) 33) (up (up (up (up (up ad 29 q29) 30 q30) 31 q31) 32 q32) 33 q33) A ([(6, 14), (4, 11), (10, 1200), (9, 11), (8, 25), (8, 16), (2, 12), (9, 5), (8, 5), (8, 5), (9, 25), (8, 25), (8, 16), (8, 16), (8, 80), (8, 80), (8, 16), (2, 12), (9, 5), (8, 5), (8, 5), (9, 25), (8, 25), (8, 16), (8, 16), (8, 80), (8, 80), (8, 16), (1, 8), (11, 10), (8, 10), (8, 10), (8, 160), (8, 160)]) s H locs g) h hw (fun g_5 h hw => ?_)
  refine r_putR (i := 28) (q := q33) C hw (by rfl) fX1_25 rfl rfl rfl (Or.inr ⟨rfl, rfl⟩) dX1_init_43 (fun H locs hw => ?_)
  refine lv_aload_n C.1.1 C.1.2.1 dX1_init_46 rfl (lv_at hl 0 rfl) ?_
  refine lv_sipush (v := 160) C.1.1 C.1.2.1 dX1_init_47 (by decide) ?_
  refine r_newa (atype := .int) (ty := .int) (t := 8) (N := 160) (n := 34) (kl' := [(6, 14), (4, 11), (10, 1200), (9, 11), (8, 25), (8, 16), (2, 12), (9, 5), (8, 5), (8, 5), (9, 25), (8, 25), (8, 16), (8, 16), (8, 80), (8, 80), (8, 16), (2, 12), (9, 5), (8, 5), (8, 5), (9, 25), (8, 25), (8, 16), (8, 16), (8, 80), (8, 80), (8, 16), (1, 8), (11, 10), (8, 10), (8, 10), (8, 160), (8, 160), (8, 160)]) C hw rfl (Or.inl ⟨rfl, rfl⟩) kz197 (by rfl) (by rfl) (by decide) (by decide) (by decide) (Nat.le_of_ble_eq_true rfl) (Nat.le_of_ble_eq_true rfl) dX1_init_50 (fun q34 H hw => ?_)
  refine lt_gen (P := fun g => WS D cA ev (un (ur (un (ur (un (ur (un (ur (un (ur (un hr 29) 28 1 (.ref q29)) 30) 28 2 (.ref q30)) 31) 28 3 (.ref q31)) 32) 28 5 (.ref q32)) 33) 28 6 (.ref q33)) 34) (up (up (up (up (up (up ad 29 q29) 30 q30) 31 q31) 32 q32) 33 q33) 34 q34) A ([(6, 14), (4, 11), (10, 1200), (9, 11), (8, 25), (8, 16), (2, 12), (9, 5), (8, 5), (8, 5), (9, 25), (8, 25), (8, 16), (8, 16), (8, 80), (8, 80), (8, 16), (2, 12), (9, 5), (8, 5), (8, 5), (9, 25), (8, 25), (8, 16), (8, 16), (8, 80), (8, 80), (8, 16), (1, 8), (11, 10), (8, 10), (8, 10), (8, 160), (8, 160), (8, 160)]) s H locs g) h hw (fun g_6 h hw => ?_)
  refine r_putR (i := 28) (q := q34) C hw (by rfl) fX1_28 rfl rfl rfl (Or.inr ⟨rfl, rfl⟩) dX1_init_52 (fun H locs hw => ?_)
  cases h
  exact r_vretA (a0 := ad) (n := 29) (hrf := hr_X1_init_28 hr) C hw (by rw [ex_up, ex_up, ex_up, ex_up, ex_up, ex_up, ex_self] <;> decide) rfl rfl dX1_init_55

set_option maxHeartbeats 4000000 in
set_option maxRecDepth 100000 in
theorem c_X1_init_28 {g gz : GM} (h : F_X1_init_28 g = some gz) (sz : Nat) : Met l yX1_init (WSX yX1_init cX1_init 1 none) (RM 2 6 510) (va_Pc [.ref (ad 28)] (PX D cA ev hr ad ([(6, 14), (4, 11), (10, 1200), (9, 11), (8, 25), (8, 16), (2, 12), (9, 5), (8, 5), (8, 5), (9, 25), (8, 25), (8, 16), (8, 16), (8, 80), (8, 80), (8, 16), (2, 12), (9, 5), (8, 5), (8, 5), (9, 25), (8, 25), (8, 16), (8, 16), (8, 80), (8, 80), (8, 16), (1, 8)]) g sz)) (QVA D cA ev (hr_X1_init_28 hr) ad 29 (AX ad ([(6, 14), (4, 11), (10, 1200), (9, 11), (8, 25), (8, 16), (2, 12), (9, 5), (8, 5), (8, 5), (9, 25), (8, 25), (8, 16), (8, 16), (8, 80), (8, 80), (8, 16), (2, 12), (9, 5), (8, 5), (8, 5), (9, 25), (8, 25), (8, 16), (8, 16), (8, 80), (8, 80), (8, 16), (1, 8)]).length sz) ([(6, 14), (4, 11), (10, 1200), (9, 11), (8, 25), (8, 16), (2, 12), (9, 5), (8, 5), (8, 5), (9, 25), (8, 25), (8, 16), (8, 16), (8, 80), (8, 80), (8, 16), (2, 12), (9, 5), (8, 5), (8, 5), (9, 25), (8, 25), (8, 16), (8, 16), (8, 80), (8, 80), (8, 16), (1, 8), (11, 10), (8, 10), (8, 10), (8, 160), (8, 160), (8, 160)]) gz) 6 510 (AX ad ([(6, 14), (4, 11), (10, 1200), (9, 11), (8, 25), (8, 16), (2, 12), (9, 5), (8, 5), (8, 5), (9, 25), (8, 25), (8, 16), (8, 16), (8, 80), (8, 80), (8, 16), (2, 12), (9, 5), (8, 5), (8, 5), (9, 25), (8, 25), (8, 16), (8, 16), (8, 80), (8, 80), (8, 16), (1, 8)]).length sz) :=
  met_of (own := RX1) pnX1 rfl (Nat.le_of_ble_eq_true rfl) (fun p e s m below meth c ls C hw hsz hl => w_X1_init_28_0 C hw hl h)

set_option maxHeartbeats 4000000 in
set_option maxRecDepth 100000 in
theorem w_X1_init_35_0 (C : CX p s m args meth c RX1 yX1_init cX1_init 1 none D cA) {H : Heap} {locs : List Loc} {g : GM} (hw : WS D cA ev hr ad A ([(6, 14), (4, 11), (10, 1200), (9, 11), (8, 25), (8, 16), (2, 12), (9, 5), (8, 5), (8, 5), (9, 25), (8, 25), (8, 16), (8, 16), (8, 80), (8, 80), (8, 16), (2, 12), (9, 5), (8, 5), (8, 5), (9, 25), (8, 25), (8, 16), (8, 16), (8, 80), (8, 80), (8, 16), (1, 8), (11, 10), (8, 10), (8, 10), (8, 160), (8, 160), (8, 160), (1, 8)]) s H locs g) {ls : Array Slot} (hl : lv_has ls 1 [(0, .ref (ad 35))]) {gz : GM} (h : F_X1_init_35 g = some gz) : W p l e (RM 2 6 510) s m args below meth c H locs 0 0 (MQ below (QVA D cA ev (hr_X1_init_35 hr) ad 36 A (KX ++ []) gz) args s 6 510 A) (F0 m 0 ls []) := by
  refine lv_aload_n C.1.1 C.1.2.1 dX1_init_0 rfl (lv_at hl 0 rfl) ?_
  refine r_obj C kz203 hl.1 dX1_init_1 (Nat.le_of_ble_eq_true rfl) (Nat.le_of_ble_eq_true rfl) ?_
  refine lv_aload_n C.1.1 C.1.2.1 dX1_init_4 rfl (lv_at hl 0 rfl) ?_
  refine lv_bipush (v := 10) C.1.1 C.1.2.1 dX1_init_5 (by decide) ?_
  refine r_newa (atype := .boolean) (ty := .boolean) (t := 11) (N := 10) (n := 36) (kl' := [(6, 14), (4, 11), (10, 1200), (9, 11), (8, 25), (8, 16), (2, 12), (9, 5), (8, 5), (8, 5), (9, 25), (8, 25), (8, 16), (8, 16), (8, 80), (8, 80), (8, 16), (2, 12), (9, 5), (8, 5), (8, 5), (9, 25), (8, 25), (8, 16), (8, 16), (8, 80), (8, 80), (8, 16), (1, 8), (11, 10), (8, 10), (8, 10), (8, 160), (8, 160), (8, 160), (1, 8), (11, 10)]) C hw rfl (Or.inr (Or.inr (Or.inr ⟨rfl, rfl⟩))) kz235 (by rfl) (by rfl) (by decide) (by decide) (by decide) (Nat.le_of_ble_eq_true rfl) (Nat.le_of_ble_eq_true rfl) dX1_init_7 (fun q36 H hw => ?_)
  refine lt_gen (P := fun g => WS D cA ev (un hr 36) (up ad 36 q36) A ([(6, 14), (4, 11), (10, 1200), (9, 11), (8, 25), (8, 16), (2, 12), (9, 5), (8, 5), (8, 5), (9, 25), (8, 25), (8, 16), (8, 16), (8, 80), (8, 80), (8, 16), (2, 12), (9, 5), (8, 5), (8, 5), (9, 25), (8, 25), (8, 16), (8, 16), (8, 80), (8, 80), (8, 16), (1, 8), (11, 10), (8, 10), (8, 10), (8, 160), (8, 160), (8, 160), (1, 8), (11, 10)]) s H locs g) h hw (fun g_1 h hw => ?_)
  refine r_putR (i := 35) (q := q36) C hw (by rfl) fX1_9 rfl rfl rfl (Or.inr ⟨rfl, rfl⟩) dX1_init_9 (fun H locs hw => ?_)
  refine lv_aload_n C.1.1 C.1.2.1 dX1_init_12 rfl (lv_at hl 0 rfl) ?_
  refine lv_bipush (v := 10) C.1.1 C.1.2.1 dX1_init_13 (by decide) ?_
  refine r_newa (atype := .int) (ty := .int) (t := 8) (N := 10) (n := 37) (kl' := [(6, 14), (4, 11), (10, 1200), (9, 11), (8, 25), (8, 16), (2, 12), (9, 5), (8, 5), (8, 5), (9, 25), (8, 25), (8, 16), (8, 16), (8, 80), (8, 80), (8, 16), (2, 12), (9, 5), (8, 5), (8, 5), (9, 25), (8, 25), (8, 16), (8, 16), (8, 80), (8, 80), (8, 16), (1, 8), (11, 10), (8, 10), (8, 10), (8, 160), (8, 160), (8, 160), (1, 8), (11, 10), (8, 10)]) C hw rfl (Or.inl ⟨rfl, rfl⟩) kz197 (by rfl) (by rfl) (by decide) (by decide) (by decide) (Nat.le_of_ble_eq_true rfl) (Nat.le_of_ble_eq_true rfl) dX1_init_15 (fun q37 H hw => ?_)
  refine lt_gen (P := fun g => WS D cA ev (un (ur (un hr 36) 35 1 (.ref q36)) 37) (up (up ad 36 q36) 37 q37) A ([(6, 14), (4, 11), (10, 1200), (9, 11), (8, 25), (8, 16), (2, 12), (9, 5), (8, 5), (8, 5), (9, 25), (8, 25), (8, 16), (8, 16), (8, 80), (8, 80), (8, 16), (2, 12), (9, 5), (8, 5), (8, 5), (9, 25), (8, 25), (8, 16), (8, 16), (8, 80), (8, 80), (8, 16), (1, 8), (11, 10), (8, 10), (8, 10), (8, 160), (8, 160), (8, 160), (1, 8), (11, 10), (8, 10)]) s H locs g) h hw (fun g_2 h hw => ?_)
  refine r_putR (i := 35) (q := q37) C hw (by rfl) fX1_15 rfl rfl rfl (Or.inr ⟨rfl, rfl⟩) dX1_init_17 (fun H locs hw => ?_)
  refine lv_aload_n C.1.1 C.1.2.1 dX1_init_20 rfl (lv_at hl 0 rfl) ?_
  refine lv_bipush (v := 10) C.1.1 C.1.2.1 dX1_init_21 (by decide) ?_
  refine r_newa (atype := .int) (ty := .int) (t := 8) (N := 10) (n := 38) (kl' := [(6, 14), (4, 11), (10, 1200), (9, 11), (8, 25), (8, 16), (2, 12), (9, 5), (8, 5), (8, 5), (9, 25), (8, 25), (8, 16), (8, 16), (8, 80), (8, 80), (8, 16), (2, 12), (9, 5), (8, 5), (8, 5), (9, 25), (8, 25), (8, 16), (8, 16), (8, 80), (8, 80), (8, 16), (1, 8), (11, 10), (8, 10), (8, 10), (8, 160), (8, 160), (8, 160), (1, 8), (11, 10), (8, 10), (8, 10)]) C hw rfl (Or.inl ⟨rfl, rfl⟩) kz197 (by rfl) (by rfl) (by decide) (by decide) (by decide) (Nat.le_of_ble_eq_true rfl) (Nat.le_of_ble_eq_true rfl) dX1_init_23 (fun q38 H hw => ?_)
  refine lt_gen (P := fun g => WS D cA ev (un (ur (un (ur (un hr 36) 35 1 (.ref q36)) 37) 35 2 (.ref q37)) 38) (up (up (up ad 36 q36) 37 q37) 38 q38) A ([(6, 14), (4, 11), (10, 1200), (9, 11), (8, 25), (8, 16), (2, 12), (9, 5), (8, 5), (8, 5), (9, 25), (8, 25), (8, 16), (8, 16), (8, 80), (8, 80), (8, 16), (2, 12), (9, 5), (8, 5), (8, 5), (9, 25), (8, 25), (8, 16), (8, 16), (8, 80), (8, 80), (8, 16), (1, 8), (11, 10), (8, 10), (8, 10), (8, 160), (8, 160), (8, 160), (1, 8), (11, 10), (8, 10), (8, 10)]) s H locs g) h hw (fun g_3 h hw => ?_)
  refine r_putR (i := 35) (q := q38) C hw (by rfl) fX1_19 rfl rfl rfl (Or.inr ⟨rfl, rfl⟩) dX1_init_25 (fun H locs hw => ?_)
  refine lv_aload_n C.1.1 C.1.2.1 dX1_init_28 rfl (lv_at hl 0 rfl) ?_
  refine lv_sipush (v := 160) C.1.1 C.1.2.1 dX1_init_29 (by decide) ?_
  refine r_newa (atype := .int) (ty := .int) (t := 8) (N := 160) (n := 39) (kl' := [(6, 14), (4, 11), (10, 1200), (9, 11), (8, 25), (8, 16), (2, 12), (9, 5), (8, 5), (8, 5), (9, 25), (8, 25), (8, 16), (8, 16), (8, 80), (8, 80), (8, 16), (2, 12), (9, 5), (8, 5), (8, 5), (9, 25), (8, 25), (8, 16), (8, 16), (8, 80), (8, 80), (8, 16), (1, 8), (11, 10), (8, 10), (8, 10), (8, 160), (8, 160), (8, 160), (1, 8), (11, 10), (8, 10), (8, 10), (8, 160)]) C hw rfl (Or.inl ⟨rfl, rfl⟩) kz197 (by rfl) (by rfl) (by decide) (by decide) (by decide) (Nat.le_of_ble_eq_true rfl) (Nat.le_of_ble_eq_true rfl) dX1_init_32 (fun q39 H hw => ?_)
  refine lt_gen (P := fun g => WS D cA ev (un (ur (un (ur (un (ur (un hr 36) 35 1 (.ref q36)) 37) 35 2 (.ref q37)) 38) 35 3 (.ref q38)) 39) (up (up (up (up ad 36 q36) 37 q37) 38 q38) 39 q39) A ([(6, 14), (4, 11), (10, 1200), (9, 11), (8, 25), (8, 16), (2, 12), (9, 5), (8, 5), (8, 5), (9, 25), (8, 25), (8, 16), (8, 16), (8, 80), (8, 80), (8, 16), (2, 12), (9, 5), (8, 5), (8, 5), (9, 25), (8, 25), (8, 16), (8, 16), (8, 80), (8, 80), (8, 16), (1, 8), (11, 10), (8, 10), (8, 10), (8, 160), (8, 160), (8, 160), (1, 8), (11, 10), (8, 10), (8, 10), (8, 160)]) s H locs g) h hw (fun g_4 h hw => ?_)
  refine r_putR (i := 35) (q := q39) C hw (by rfl) fX1_22 rfl rfl rfl (Or.inr ⟨rfl, rfl⟩) dX1_init_34 (fun H locs hw => ?_)
  refine lv_aload_n C.1.1 C.1.2.1 dX1_init_37 rfl (lv_at hl 0 rfl) ?_
  refine lv_sipush (v := 160) C.1.1 C.1.2.1 dX1_init_38 (by decide) ?_
  refine r_newa (atype := .int) (ty := .int) (t := 8) (N := 160) (n := 40) (kl' := [(6, 14), (4, 11), (10, 1200), (9, 11), (8, 25), (8, 16), (2, 12), (9, 5), (8, 5), (8, 5), (9, 25), (8, 25), (8, 16), (8, 16), (8, 80), (8, 80), (8, 16), (2, 12), (9, 5), (8, 5), (8, 5), (9, 25), (8, 25), (8, 16), (8, 16), (8, 80), (8, 80), (8, 16), (1, 8), (11, 10), (8, 10), (8, 10), (8, 160), (8, 160), (8, 160), (1, 8), (11, 10), (8, 10), (8, 10), (8, 160), (8, 160)]) C hw rfl (Or.inl ⟨rfl, rfl⟩) kz197 (by rfl) (by rfl) (by decide) (by decide) (by decide) (Nat.le_of_ble_eq_true rfl) (Nat.le_of_ble_eq_true rfl) dX1_init_41 (fun q40 H hw => ?_)
  refine lt_gen (P := fun g => WS D cA ev (un (ur (un (ur (un (ur (un (ur (un hr 36) 35 1 (.ref q36)) 37) 35 2 (.ref q37)) 38) 35 3 (.ref q38)) 39) 35 5 (.ref q39)) 40) (up (up (up (up (up ad 36 q36) 37 q37) 38 q38) 39 q39) 40 q40) A ([(6, 14), (4, 11), (10, 1200), (9, 11), (8, 25), (8, 16), (2, 12), (9, 5), (8, 5), (8, 5), (9, 25), (8, 25), (8, 16), (8, 16), (8, 80), (8, 80), (8, 16), (2, 12), (9, 5), (8, 5), (8, 5), (9, 25), (8, 25), (8, 16), (8, 16), (8, 80), (8, 80), (8, 16), (1, 8), (11, 10), (8, 10), (8, 10), (8, 160), (8, 160), (8, 160), (1, 8), (11, 10), (8, 10), (8, 10), (8, 160), (8, 160)]) s H locs g) h hw (fun g_5 h hw => ?_)
  refine r_putR (i := 35) (q := q40) C hw (by rfl) fX1_25 rfl rfl rfl (Or.inr ⟨rfl, rfl⟩) dX1_init_43 (fun H locs hw => ?_)
  refine lv_aload_n C.1.1 C.1.2.1 dX1_init_46 rfl (lv_at hl 0 rfl) ?_
  refine lv_sipush (v := 160) C.1.1 C.1.2.1 dX1_init_47 (by decide) ?_
  refine r_newa (atype := .int) (ty := .int) (t := 8) (N := 160) (n := 41) (kl' := KX ++ []) C hw rfl (Or.inl ⟨rfl, rfl⟩) kz197 (by rfl) (by rfl) (by decide) (by decide) (by decide) (Nat.le_of_ble_eq_true rfl) (Nat.le_of_ble_eq_true rfl) dX1_init_50 (fun q41 H hw => ?_)
  refine lt_gen (P := fun g => WS D cA ev (un (ur (un (ur (un (ur (un (ur (un (ur (un hr 36) 35 1 (.ref q36)) 37) 35 2 (.ref q37)) 38) 35 3 (.ref q38)) 39) 35 5 (.ref q39)) 40) 35 6 (.ref q40)) 41) (up (up (up (up (up (up ad 36 q36) 37 q37) 38 q38) 39 q39) 40 q40) 41 q41) A (KX ++ []) s H locs g) h hw (fun g_6 h hw => ?_)
  refine r_putR (i := 35) (q := q41) C hw (by rfl) fX1_28 rfl rfl rfl (Or.inr ⟨rfl, rfl⟩) dX1_init_52 (fun H locs hw => ?_)
  cases h
  exact r_vretA (a0 := ad) (n := 36) (hrf := hr_X1_init_35 hr) C hw (by rw [ex_up, ex_up, ex_up, ex_up, ex_up, ex_up, ex_self] <;> decide) rfl rfl dX1_init_55

set_option maxHeartbeats 4000000 in
set_option maxRecDepth 100000 in
theorem c_X1_init_35 {g gz : GM} (h : F_X1_init_35 g = some gz) (sz : Nat) : Met l yX1_init (WSX yX1_init cX1_init 1 none) (RM 2 6 510) (va_Pc [.ref (ad 35)] (PX D cA ev hr ad ([(6, 14), (4, 11), (10, 1200), (9, 11), (8, 25), (8, 16), (2, 12), (9, 5), (8, 5), (8, 5), (9, 25), (8, 25), (8, 16), (8, 16), (8, 80), (8, 80), (8, 16), (2, 12), (9, 5), (8, 5), (8, 5), (9, 25), (8, 25), (8, 16), (8, 16), (8, 80), (8, 80), (8, 16), (1, 8), (11, 10), (8, 10), (8, 10), (8, 160), (8, 160), (8, 160), (1, 8)]) g sz)) (QVA D cA ev (hr_X1_init_35 hr) ad 36 (AX ad ([(6, 14), (4, 11), (10, 1200), (9, 11), (8, 25), (8, 16), (2, 12), (9, 5), (8, 5), (8, 5), (9, 25), (8, 25), (8, 16), (8, 16), (8, 80), (8, 80), (8, 16), (2, 12), (9, 5), (8, 5), (8, 5), (9, 25), (8, 25), (8, 16), (8, 16), (8, 80), (8, 80), (8, 16), (1, 8), (11, 10), (8, 10), (8, 10), (8, 160), (8, 160), (8, 160), (1, 8)]).length sz) (KX ++ []) gz) 6 510 (AX ad ([(6, 14), (4, 11), (10, 1200), (9, 11), (8, 25), (8, 16), (2, 12), (9, 5), (8, 5), (8, 5), (9, 25), (8, 25), (8, 16), (8, 16), (8, 80), (8, 80), (8, 16), (2, 12), (9, 5), (8, 5), (8, 5), (9, 25), (8, 25), (8, 16), (8, 16), (8, 80), (8, 80), (8, 16), (1, 8), (11, 10), (8, 10), (8, 10), (8, 160), (8, 160), (8, 160), (1, 8)]).length sz) :=
  met_of (own := RX1) pnX1 rfl (Nat.le_of_ble_eq_true rfl) (fun p e s m below meth c ls C hw hsz hl => w_X1_init_35_0 C hw hl h)
end WAb

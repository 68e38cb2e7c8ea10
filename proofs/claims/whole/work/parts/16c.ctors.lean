section WAc
variable {p : Program} {l : Launch} {e : Env} {s : State} {m : MethodId} {args : Array Value} {below : List Frame} {meth : Method} {c : Code} {D : va_G} {cA : Nat → ClassId} {ev : EVa} {hr : Nat → Nat → Value} {ad a0 : Nat → Nat} {hrf : (Nat → Nat) → Nat → Nat → Value} {A : Nat → Prop} {tl : List (Nat × Nat)}
set_option maxHeartbeats 4000000 in
set_option maxRecDepth 100000 in
theorem wl_X4_init_94 {x1 : Int32} {x2 : Int32} {g : GM} {gz : GM} (kb36 : Int32 × Int32 × GM → Option (GM)) (hk36 : ∀ (x1 : Int32) (x2 : Int32) (g : GM) (H : Heap) (locs : List Loc) (ls : Array Slot), WS D cA ev hr ad A ([(6, 14), (4, 11), (10, 1200), (9, 11)]) s H locs g → lv_has ls 4 [(0, .ref (ad 1)), (1, .int x1), (2, .int x2)] → kb36 (x1, x2, g) = some gz → W p l e (RM 8 2 1211) s m args below meth c H locs 2 1211 (MQ below (QVA D cA ev hrf a0 2 A ([(6, 14), (4, 11), (10, 1200), (9, 11)]) gz) args s 2 1211 A) (F0 m 36 ls [])) (C : CX p s m args meth c RX4 yX4_init cX4_init 4 none D cA) (hx : hr 1 1 = .ref (ad 3) ∧ ex a0 2 ad = ad ∧ hrf ad = hr) {H : Heap} {locs : List Loc} (hw : WS D cA ev hr ad A ([(6, 14), (4, 11), (10, 1200), (9, 11)]) s H locs g) {ls : Array Slot} (hl : lv_has ls 4 [(0, .ref (ad 1)), (1, .int x1), (2, .int x2)]) (h : F_X4_init_94 kb36 x1 x2 g = some gz) : W p l e (RM 8 2 1211) s m args below meth c H locs 2 1211 (MQ below (QVA D cA ev hrf a0 2 A ([(6, 14), (4, 11), (10, 1200), (9, 11)]) gz) args s 2 1211 A) (F0 m 94 ls []) := by
  refine lv_iinc (v := x2 + 1) (lv' := [(2, .int (x2 + 1)), (0, .ref (ad 1)), (1, .int x1)]) C.1.1 C.1.2.1 dX4_init_94 hl (k := 2) rfl rfl (by decide) rfl (fun ls hl => ?_)
  refine lt_gen (P := fun x => lv_has ls 4 [(2, .int x), (0, .ref (ad 1)), (1, .int x1)]) h hl (fun x2_1 h hl => ?_)
  refine lv_goto (tgt := 36) C.1.1 C.1.2.1 dX4_init_97 (by decide) ?_
  exact hk36 _ _ _ _ _ _ hw (lv_sub hl [1, 2, 0] rfl) h
set_option maxHeartbeats 4000000 in
set_option maxRecDepth 100000 in
theorem wl_X4_init_36 {gz : GM} (kb36 : Int32 × Int32 × GM → Option (GM)) (hk36 : ∀ (x1 : Int32) (x2 : Int32) (g : GM) (H : Heap) (locs : List Loc) (ls : Array Slot), WS D cA ev hr ad A ([(6, 14), (4, 11), (10, 1200), (9, 11)]) s H locs g → lv_has ls 4 [(0, .ref (ad 1)), (1, .int x1), (2, .int x2)] → kb36 (x1, x2, g) = some gz → W p l e (RM 8 2 1211) s m args below meth c H locs 2 1211 (MQ below (QVA D cA ev hrf a0 2 A ([(6, 14), (4, 11), (10, 1200), (9, 11)]) gz) args s 2 1211 A) (F0 m 36 ls [])) (C : CX p s m args meth c RX4 yX4_init cX4_init 4 none D cA) (hx : hr 1 1 = .ref (ad 3) ∧ ex a0 2 ad = ad ∧ hrf ad = hr) {H : Heap} {locs : List Loc} {x1 : Int32} {x2 : Int32} {g : GM} (hw : WS D cA ev hr ad A ([(6, 14), (4, 11), (10, 1200), (9, 11)]) s H locs g) {ls : Array Slot} (hl : lv_has ls 4 [(0, .ref (ad 1)), (1, .int x1), (2, .int x2)]) (h : F_X4_init_36B kb36 (x1, x2, g) = some gz) : W p l e (RM 8 2 1211) s m args below meth c H locs 2 1211 (MQ below (QVA D cA ev hrf a0 2 A ([(6, 14), (4, 11), (10, 1200), (9, 11)]) gz) args s 2 1211 A) (F0 m 36 ls []) := by
  unfold F_X4_init_36B at h
  dsimp only at h
  refine lv_iload_n C.1.1 C.1.2.1 dX4_init_36 rfl (lv_at hl 2 rfl) ?_
  refine r_ldS3 C hw dX4_init_37 ?_
  obtain ⟨r_2, hc, h⟩ := bnd_some h
  refine r_strI (dc := 2) (As := []) (rest := [.int x2]) C hw vX4_31 (j := 1) (by decide) rfl (fun sz => c_J0_length_8abf5 (by decide) hc sz) (by decide) rfl rfl hl.1 (Nat.le_of_ble_eq_true rfl) dX4_init_39 ⟨Nat.le_refl _, Nat.le_refl _⟩ (fun H locs hw => ?_)
  refine lv_icmp_ge (tgt := 100) C.1.1 C.1.2.1 dX4_init_42 (by decide) (fun hc => ?_) (fun hc => ?_)
  · replace h := ite_pos' h hc
    cases h
    exact r_vretA C hw hx.2.1 hx.2.2 rfl dX4_init_100
  · replace h := ite_neg' h hc
    refine lv_iload_n C.1.1 C.1.2.1 dX4_init_45 rfl (lv_at hl 1 rfl) ?_
    refine lv_bipush (v := 11) C.1.1 C.1.2.1 dX4_init_46 (by decide) ?_
    refine lv_icmp_ge (tgt := 100) C.1.1 C.1.2.1 dX4_init_48 (by decide) (fun hc => ?_) (fun hc => ?_)
    · replace h := ite_pos' h hc
      cases h
      exact r_vretA C hw hx.2.1 hx.2.2 rfl dX4_init_100
    · replace h := ite_neg' h hc
      refine r_ldS3 C hw dX4_init_51 ?_
      refine lv_iload_n C.1.1 C.1.2.1 dX4_init_53 rfl (lv_at hl 2 rfl) ?_
      obtain ⟨r_3, hc, h⟩ := bnd_some h
      refine r_strI (dc := 5) (As := [.int x2]) (rest := []) C hw vX4_37 (j := 1) (by decide) rfl (fun sz => c_J0_charAt_5068e (by decide) hc sz) (by decide) rfl rfl hl.1 (Nat.le_of_ble_eq_true rfl) dX4_init_54 ⟨Nat.le_refl _, Nat.le_refl _⟩ (fun H locs hw => ?_)
      refine lv_istore_n (lv' := [(3, .int r_3), (0, .ref (ad 1)), (1, .int x1), (2, .int x2)]) C.1.1 C.1.2.1 dX4_init_57 rfl hl (by decide) rfl (fun ls hl => ?_)
      refine lt_gen (P := fun x => lv_has ls 4 [(3, .int x), (0, .ref (ad 1)), (1, .int x1), (2, .int x2)]) h hl (fun x3_4 h hl => ?_)
      refine lv_iload_n C.1.1 C.1.2.1 dX4_init_58 rfl (lv_at hl 0 rfl) ?_
      refine lv_bipush (v := 32) C.1.1 C.1.2.1 dX4_init_59 (by decide) ?_
      refine lv_icmp_ne (tgt := 70) C.1.1 C.1.2.1 dX4_init_61 (by decide) (fun hc => ?_) (fun hc => ?_)
      · replace h := ite_neg' h hc
        refine lv_aload_n C.1.1 C.1.2.1 dX4_init_70 rfl (lv_at hl 1 rfl) ?_
        refine r_getR (v := .ref (ad 3)) C hw (by rfl) fX4_15 rfl hx.1 dX4_init_71 ?_
        refine lv_iload_n C.1.1 C.1.2.1 dX4_init_74 rfl (lv_at hl 2 rfl) ?_
        refine lv_aload_n C.1.1 C.1.2.1 dX4_init_75 rfl (lv_at hl 1 rfl) ?_
        refine r_getR (v := .ref (ad 3)) C hw (by rfl) fX4_15 rfl hx.1 dX4_init_76 ?_
        refine lv_iload_n C.1.1 C.1.2.1 dX4_init_79 rfl (lv_at hl 2 rfl) ?_
        obtain ⟨hz, h⟩ := ck_some h
        refine r_lald C hw (by rfl) (inB_in hz) dX4_init_80 ?_
        refine lv_ldc2 (v := 32) C.1.1 C.1.2.1 C.1.2.2.2.1 (C.w kc81) dX4_init_81 ?_
        refine lv_lmul C.1.1 C.1.2.1 dX4_init_84 ?_
        refine lv_iload_n C.1.1 C.1.2.1 dX4_init_85 rfl (lv_at hl 0 rfl) ?_
        refine lv_bipush (v := 97) C.1.1 C.1.2.1 dX4_init_86 (by decide) ?_
        refine lv_isub C.1.1 C.1.2.1 dX4_init_88 ?_
        refine lv_iconst (v := 1) C.1.1 C.1.2.1 dX4_init_89 (by decide) ?_
        refine lv_iadd C.1.1 C.1.2.1 dX4_init_90 ?_
        refine lv_i2l (v := ((x3_4 - 97) + 1).toInt64) C.1.1 C.1.2.1 dX4_init_91 rfl ?_
        refine lv_ladd C.1.1 C.1.2.1 dX4_init_92 ?_
        obtain ⟨hz, h⟩ := ck_some h
        refine r_last C hw (by rfl) (inB_in hz) dX4_init_93 (fun H locs hw => ?_)
        refine lt_gen (P := fun g => WS D cA ev hr ad A ([(6, 14), (4, 11), (10, 1200), (9, 11)]) s H locs g) h hw (fun g_5 h hw => ?_)
        exact wl_X4_init_94 kb36 hk36 C hx hw (lv_sub hl [1, 2, 3] rfl) h
      · replace h := ite_pos' h hc
        refine lv_iinc (v := x1 + 1) (lv' := [(1, .int (x1 + 1)), (3, .int x3_4), (0, .ref (ad 1)), (2, .int x2)]) C.1.1 C.1.2.1 dX4_init_64 hl (k := 2) rfl rfl (by decide) rfl (fun ls hl => ?_)
        refine lt_gen (P := fun x => lv_has ls 4 [(1, .int x), (3, .int x3_4), (0, .ref (ad 1)), (2, .int x2)]) h hl (fun x1_6 h hl => ?_)
        refine lv_goto (tgt := 94) C.1.1 C.1.2.1 dX4_init_67 (by decide) ?_
        exact wl_X4_init_94 kb36 hk36 C hx hw (lv_sub hl [2, 0, 3] rfl) h
set_option maxHeartbeats 4000000 in
set_option maxRecDepth 100000 in
theorem wl_X4_init_36L {gz : GM} (C : CX p s m args meth c RX4 yX4_init cX4_init 4 none D cA) (hx : hr 1 1 = .ref (ad 3) ∧ ex a0 2 ad = ad ∧ hrf ad = hr) : ∀ (n : Nat) (x1 : Int32) (x2 : Int32) (g : GM) (H : Heap) (locs : List Loc) (ls : Array Slot), WS D cA ev hr ad A ([(6, 14), (4, 11), (10, 1200), (9, 11)]) s H locs g → lv_has ls 4 [(0, .ref (ad 1)), (1, .int x1), (2, .int x2)] → fixN (F_X4_init_36B) n (x1, x2, g) = some gz → W p l e (RM 8 2 1211) s m args below meth c H locs 2 1211 (MQ below (QVA D cA ev hrf a0 2 A ([(6, 14), (4, 11), (10, 1200), (9, 11)]) gz) args s 2 1211 A) (F0 m 36 ls []) := by
  intro n
  induction n with
  | zero => intro x1 x2 g H locs ls hw hl h; exact (fix_zero h).elim
  | succ n ih => intro x1 x2 g H locs ls hw hl h; exact wl_X4_init_36 (fixN (F_X4_init_36B) n) ih C hx hw hl h

set_option maxHeartbeats 4000000 in
set_option maxRecDepth 100000 in
theorem w_X4_init_1_0 (C : CX p s m args meth c RX4 yX4_init cX4_init 4 none D cA) {H : Heap} {locs : List Loc} {g : GM} (hw : WS D cA ev hr ad A ([(6, 14), (4, 11)]) s H locs g) {ls : Array Slot} (hl : lv_has ls 4 [(0, .ref (ad 1))]) {gz : GM} (h : F_X4_init_1 g = some gz) : W p l e (RM 8 2 1211) s m args below meth c H locs 0 0 (MQ below (QVA D cA ev (hr_X4_init_1 hr) ad 2 A ([(6, 14), (4, 11), (10, 1200), (9, 11)]) gz) args s 2 1211 A) (F0 m 0 ls []) := by
  refine lv_aload_n C.1.1 C.1.2.1 dX4_init_0 rfl (lv_at hl 0 rfl) ?_
  refine r_obj C kz30 hl.1 dX4_init_1 (Nat.le_of_ble_eq_true rfl) (Nat.le_of_ble_eq_true rfl) ?_
  refine lv_aload_n C.1.1 C.1.2.1 dX4_init_4 rfl (lv_at hl 0 rfl) ?_
  refine lv_sipush (v := 1200) C.1.1 C.1.2.1 dX4_init_5 (by decide) ?_
  refine r_newa (atype := .byte) (ty := .byte) (t := 10) (N := 1200) (n := 2) (kl' := [(6, 14), (4, 11), (10, 1200)]) C hw rfl (Or.inr (Or.inr (Or.inl ⟨rfl, rfl⟩))) kz129 (by rfl) (by rfl) (by decide) (by decide) (by decide) (Nat.le_of_ble_eq_true rfl) (Nat.le_of_ble_eq_true rfl) dX4_init_8 (fun q2 H hw => ?_)
  refine lt_gen (P := fun g => WS D cA ev (un hr 2) (up ad 2 q2) A ([(6, 14), (4, 11), (10, 1200)]) s H locs g) h hw (fun g_1 h hw => ?_)
  refine r_putR (i := 1) (q := q2) C hw (by rfl) fX4_9 rfl rfl rfl (Or.inr ⟨rfl, rfl⟩) dX4_init_10 (fun H locs hw => ?_)
  refine lv_aload_n C.1.1 C.1.2.1 dX4_init_13 rfl (lv_at hl 0 rfl) ?_
  refine lv_bipush (v := 11) C.1.1 C.1.2.1 dX4_init_14 (by decide) ?_
  refine r_newa (atype := .long) (ty := .long) (t := 9) (N := 11) (n := 3) (kl' := [(6, 14), (4, 11), (10, 1200), (9, 11)]) C hw rfl (Or.inr (Or.inl ⟨rfl, rfl⟩)) kz130 (by rfl) (by rfl) (by decide) (by decide) (by decide) (Nat.le_of_ble_eq_true rfl) (Nat.le_of_ble_eq_true rfl) dX4_init_16 (fun q3 H hw => ?_)
  refine lt_gen (P := fun g => WS D cA ev (un (ur (un hr 2) 1 0 (.ref q2)) 3) (up (up ad 2 q2) 3 q3) A ([(6, 14), (4, 11), (10, 1200), (9, 11)]) s H locs g) h hw (fun g_2 h hw => ?_)
  refine r_putR (i := 1) (q := q3) C hw (by rfl) fX4_15 rfl rfl rfl (Or.inr ⟨rfl, rfl⟩) dX4_init_18 (fun H locs hw => ?_)
  refine lv_aload_n C.1.1 C.1.2.1 dX4_init_21 rfl (lv_at hl 0 rfl) ?_
  refine r_ldS1 C hw dX4_init_22 ?_
  refine r_putSg (i := 1) C hw (by rfl) fX4_21 rfl (by decide) (Or.inl rfl) dX4_init_24 (fun H locs hw => ?_)
  refine lt_gen (P := fun g => WS D cA ev (ur (un (ur (un hr 2) 1 0 (.ref q2)) 3) 1 1 (.ref q3)) (up (up ad 2 q2) 3 q3) A ([(6, 14), (4, 11), (10, 1200), (9, 11)]) s H locs g) h hw (fun g_3 h hw => ?_)
  refine lv_aload_n C.1.1 C.1.2.1 dX4_init_27 rfl (lv_at hl 0 rfl) ?_
  refine lv_iconst (v := (-1)) C.1.1 C.1.2.1 dX4_init_28 (by decide) ?_
  refine r_putI (i := 1) C hw (by rfl) fX4_25 rfl rfl (Or.inl rfl) dX4_init_29 (fun H locs hw => ?_)
  refine lt_gen (P := fun g => WS D cA ev (ur (un (ur (un hr 2) 1 0 (.ref q2)) 3) 1 1 (.ref q3)) (up (up ad 2 q2) 3 q3) A ([(6, 14), (4, 11), (10, 1200), (9, 11)]) s H locs g) h hw (fun g_4 h hw => ?_)
  refine lv_iconst (v := 0) C.1.1 C.1.2.1 dX4_init_32 (by decide) ?_
  refine lv_istore_n (lv' := [(1, .int 0), (0, .ref (ad 1))]) C.1.1 C.1.2.1 dX4_init_33 rfl hl (by decide) rfl (fun ls hl => ?_)
  refine lv_iconst (v := 0) C.1.1 C.1.2.1 dX4_init_34 (by decide) ?_
  refine lv_istore_n (lv' := [(2, .int 0), (1, .int 0), (0, .ref (ad 1))]) C.1.1 C.1.2.1 dX4_init_35 rfl hl (by decide) rfl (fun ls hl => ?_)
  exact wl_X4_init_36L (a0 := ad) (hrf := hr_X4_init_1 hr) C ⟨rfl, (by rw [ex_up, ex_up, ex_self] <;> decide), rfl⟩ FU _ _ _ _ _ _ hw (lv_sub hl [2, 1, 0] rfl) h

set_option maxHeartbeats 4000000 in
set_option maxRecDepth 100000 in
theorem c_X4_init_1 {g gz : GM} (h : F_X4_init_1 g = some gz) (sz : Nat) : Met l yX4_init (WSX yX4_init cX4_init 4 none) (RM 8 2 1211) (va_Pc [.ref (ad 1)] (PX D cA ev hr ad ([(6, 14), (4, 11)]) g sz)) (QVA D cA ev (hr_X4_init_1 hr) ad 2 (AX ad ([(6, 14), (4, 11)]).length sz) ([(6, 14), (4, 11), (10, 1200), (9, 11)]) gz) 2 1211 (AX ad ([(6, 14), (4, 11)]).length sz) :=
  met_of (own := RX4) pnX4 rfl (Nat.le_of_ble_eq_true rfl) (fun p e s m below meth c ls C hw hsz hl => w_X4_init_1_0 C hw hl h)
end WAc

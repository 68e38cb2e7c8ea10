def HLMf : List (Nat × Nat × Nat) := [(0, 54, 32), (0, 53, 31), (0, 48, 30), (0, 47, 29), (0, 46, 28), (0, 45, 27), (0, 42, 26), (0, 36, 25), (0, 35, 24), (0, 34, 23), (0, 33, 22), (0, 32, 21), (0, 31, 20), (0, 30, 19), (0, 29, 18), (0, 28, 17), (0, 27, 16), (0, 26, 15), (0, 25, 14), (0, 22, 13), (0, 21, 12), (0, 20, 11), (0, 19, 10), (0, 18, 9), (0, 17, 8), (0, 16, 7), (0, 15, 6), (0, 14, 5), (0, 13, 4), (0, 12, 3), (0, 1, 2), (0, 0, 1)]
theorem hm_of {hr : Nat → Nat → Value} {ad : Nat → Nat} (h : HF hr ad 33 HLMf) : HM hr ad := by
  intro q hq
  have h1 : ∀ q ∈ HLM, (0, q.1, q.2) ∈ HLMf := by decide
  exact (h _ (h1 q hq)).2.2
def F_X7_init_272B (kb272 : Int32 × GM → Option (GM)) : Int32 × GM → Option (GM) := fun (x1, g) =>
  if 25 ≤ x1 then
    some g
  else
    ckB (inB x1 25) <|
    lt (si g 32 x1.toNatClampNeg ((-1))) fun g_1 =>
    lt (x1 + 1) fun x1_2 =>
    kb272 (x1_2, g_1)
def F_X7_init (g : GM) : Option GM :=
  lt (zi g 1) fun g_1 =>
  lt (zi g_1 2) fun g_2 =>
  lt (si g_2 0 5 (-1)) fun g_3 =>
  lt (zi g_3 3) fun g_4 =>
  lt (zi g_4 4) fun g_5 =>
  lt (zi g_5 5) fun g_6 =>
  lt (zi g_6 6) fun g_7 =>
  lt (zi g_7 7) fun g_8 =>
  lt (zi g_8 8) fun g_9 =>
  lt (zi g_9 9) fun g_10 =>
  lt (zi g_10 10) fun g_11 =>
  lt (zi g_11 11) fun g_12 =>
  lt (zi g_12 12) fun g_13 =>
  lt (zi g_13 13) fun g_14 =>
  lt (zi g_14 14) fun g_15 =>
  lt (zi g_15 15) fun g_16 =>
  lt (zi g_16 16) fun g_17 =>
  lt (zi g_17 17) fun g_18 =>
  lt (zi g_18 18) fun g_19 =>
  lt (zi g_19 19) fun g_20 =>
  lt (zi g_20 20) fun g_21 =>
  lt (zi g_21 21) fun g_22 =>
  lt (zi g_22 22) fun g_23 =>
  lt (zi g_23 23) fun g_24 =>
  lt (zi g_24 24) fun g_25 =>
  lt (zi g_25 25) fun g_26 =>
  lt (zi g_26 26) fun g_27 =>
  lt (zi g_27 27) fun g_28 =>
  lt (zi g_28 28) fun g_29 =>
  lt (zi g_29 29) fun g_30 =>
  lt (zi g_30 30) fun g_31 =>
  lt (zi g_31 31) fun g_32 =>
  lt (zi g_32 32) fun g_33 =>
  fixN (F_X7_init_272B) FU (0, g_33)
section WX7i
variable {p : Program} {l : Launch} {e : Env} {s : State} {m : MethodId} {args : Array Value} {below : List Frame} {meth : Method} {c : Code} {D : va_G} {cA : Nat → ClassId} {ev : EVa} {hr : Nat → Nat → Value} {ad : Nat → Nat} {A : Nat → Prop} {a : Nat}
set_option maxHeartbeats 4000000 in
set_option maxRecDepth 100000 in
theorem wl_X7_init_272 {gz : GM} (kb272 : Int32 × GM → Option (GM)) (hk272 : ∀ (x1 : Int32) (g : GM) (H : Heap) (locs : List Loc) (ls : Array Slot), WS D cA ev hr ad A KM s H locs g → lv_has ls 2 [(0, .ref (ad 0)), (1, .int x1)] → kb272 (x1, g) = some gz → W p l e (RM 3 32 6277) s m args below meth c H locs 32 6277 (MQ below (QVH D cA ev a 33 HLMf A KM gz) args s 32 6277 A) (F0 m 272 ls [])) (C : CX p s m args meth c RX7 yX7_init cX7_init 2 none D cA) (hx : HM hr ad ∧ ad 0 = a ∧ HF hr ad 33 HLMf) {H : Heap} {locs : List Loc} {x1 : Int32} {g : GM} (hw : WS D cA ev hr ad A KM s H locs g) {ls : Array Slot} (hl : lv_has ls 2 [(0, .ref (ad 0)), (1, .int x1)]) (h : F_X7_init_272B kb272 (x1, g) = some gz) : W p l e (RM 3 32 6277) s m args below meth c H locs 32 6277 (MQ below (QVH D cA ev a 33 HLMf A KM gz) args s 32 6277 A) (F0 m 272 ls []) := by
  refine lv_iload_n C.1.1 C.1.2.1 dX7_init_272 rfl (lv_at hl 1 rfl) ?_
  refine lv_bipush (v := 25) C.1.1 C.1.2.1 dX7_init_273 (by decide) ?_
  refine lv_icmp_ge (tgt := 291) C.1.1 C.1.2.1 dX7_init_275 (by decide) (fun hc => ?_) (fun hc => ?_)
  · replace h := ite_pos' h hc
    cases h
    exact r_vretH C hw hx.2.1 hx.2.2 rfl dX7_init_291
  · replace h := ite_neg' h hc
    refine lv_aload_n C.1.1 C.1.2.1 dX7_init_278 rfl (lv_at hl 0 rfl) ?_
    refine r_getR (v := .ref (ad 32)) C hw km0 fX7_150 rfl (hm54 hx.1) dX7_init_279 ?_
    refine lv_iload_n C.1.1 C.1.2.1 dX7_init_282 rfl (lv_at hl 1 rfl) ?_
    refine lv_iconst (v := (-1)) C.1.1 C.1.2.1 dX7_init_283 (by decide) ?_
    obtain ⟨hz, h⟩ := ck_some h
    refine r_iast C hw km32 (inB_in hz) dX7_init_284 (fun H locs hw => ?_)
    refine lt_gen (P := fun g => WS D cA ev hr ad A KM s H locs g) h hw (fun g_1 h hw => ?_)
    refine lv_iinc (v := x1 + 1) (lv' := [(1, .int (x1 + 1)), (0, .ref (ad 0))]) C.1.1 C.1.2.1 dX7_init_285 hl (k := 1) rfl rfl (by decide) rfl (fun ls hl => ?_)
    refine lt_gen (P := fun x => lv_has ls 2 [(1, .int x), (0, .ref (ad 0))]) h hl (fun x1_2 h hl => ?_)
    refine lv_goto (tgt := 272) C.1.1 C.1.2.1 dX7_init_288 (by decide) ?_
    exact hk272 _ _ _ _ _ hw (lv_sub hl [1, 0] rfl) h
set_option maxHeartbeats 4000000 in
set_option maxRecDepth 100000 in
theorem wl_X7_init_272L {gz : GM} (C : CX p s m args meth c RX7 yX7_init cX7_init 2 none D cA) (hx : HM hr ad ∧ ad 0 = a ∧ HF hr ad 33 HLMf) : ∀ (n : Nat) (x1 : Int32) (g : GM) (H : Heap) (locs : List Loc) (ls : Array Slot), WS D cA ev hr ad A KM s H locs g → lv_has ls 2 [(0, .ref (ad 0)), (1, .int x1)] → fixN (F_X7_init_272B) n (x1, g) = some gz → W p l e (RM 3 32 6277) s m args below meth c H locs 32 6277 (MQ below (QVH D cA ev a 33 HLMf A KM gz) args s 32 6277 A) (F0 m 272 ls []) := by
  intro n
  induction n with
  | zero => intro x1 g H locs ls hw hl h; exact (fix_zero h).elim
  | succ n ih => intro x1 g H locs ls hw hl h; exact wl_X7_init_272 (fixN (F_X7_init_272B) n) ih C hx hw hl h
set_option maxHeartbeats 4000000 in
set_option maxRecDepth 100000 in
theorem w_X7_init_0 (C : CX p s m args meth c RX7 yX7_init cX7_init 2 none D cA) {a : Nat} {H : Heap} {locs : List Loc} {g : GM} (hw : WS D cA ev hr ad A [(7, 55)] s H locs g) (h0 : ad 0 = a) {ls : Array Slot} (hl : lv_has ls 2 [(0, .ref a)]) {gz : GM} (h : F_X7_init g = some gz) : W p l e (RM 3 32 6277) s m args below meth c H locs 0 0 (MQ below (QVH D cA ev a 33 HLMf A KM gz) args s 32 6277 A) (F0 m 0 ls []) := by
  have hL : HF hr ad 1 [] := HF.nil
  refine lv_aload_n C.1.1 C.1.2.1 dX7_init_0 rfl (lv_at hl 0 rfl) ?_
  refine r_obj C kz1034 hl.1 dX7_init_1 (Nat.le_of_ble_eq_true rfl) (Nat.le_of_ble_eq_true rfl) ?_
  refine lv_aload_n C.1.1 C.1.2.1 dX7_init_4 rfl (lv_at hl 0 rfl) ?_
  refine lv_sipush (v := 1220) C.1.1 C.1.2.1 dX7_init_5 (by decide) ?_
  refine r_na (atype := .byte) (ty := .byte) (t := 10) (N := 1220) (n := 1) (kl' := [(7, 55), (10, 1220)]) C hw h0 hL (by rfl) rfl (Or.inr (Or.inr (Or.inl ⟨rfl, rfl⟩))) kz129 (by rfl) (by rfl) (by decide) (by decide) (by decide) (by decide) (Nat.le_of_ble_eq_true rfl) (Nat.le_of_ble_eq_true rfl) fX7_95 rfl (fun _ => ⟨rfl, rfl⟩) (Or.inr ⟨rfl, rfl⟩) (by decide) dX7_init_8 dX7_init_10 (fun hr ad H locs h0 hL hw => ?_)
  refine lt_gen (P := fun g => WS D cA ev hr ad A ([(7, 55), (10, 1220)]) s H locs g) h hw (fun g_1 h hw => ?_)
  refine W.eq (g2 := F0 m 13 ls []) rfl ?_
  refine W.widen (k := 1) (n := 1220) (Nat.le_of_ble_eq_true rfl) (Nat.le_of_ble_eq_true rfl) ?_
  refine lv_aload_n C.1.1 C.1.2.1 dX7_init_13 rfl (lv_at hl 0 rfl) ?_
  refine lv_sipush (v := 1200) C.1.1 C.1.2.1 dX7_init_14 (by decide) ?_
  refine r_na (atype := .byte) (ty := .byte) (t := 10) (N := 1200) (n := 2) (kl' := [(7, 55), (10, 1220), (10, 1200)]) C hw h0 hL (by rfl) rfl (Or.inr (Or.inr (Or.inl ⟨rfl, rfl⟩))) kz129 (by rfl) (by rfl) (by decide) (by decide) (by decide) (by decide) (Nat.le_of_ble_eq_true rfl) (Nat.le_of_ble_eq_true rfl) fX7_7 rfl (fun _ => ⟨rfl, rfl⟩) (Or.inr ⟨rfl, rfl⟩) (by decide) dX7_init_17 dX7_init_19 (fun hr ad H locs h0 hL hw => ?_)
  refine lt_gen (P := fun g => WS D cA ev hr ad A ([(7, 55), (10, 1220), (10, 1200)]) s H locs g) h hw (fun g_2 h hw => ?_)
  refine W.eq (g2 := F0 m 22 ls []) rfl ?_
  refine W.widen (k := 2) (n := 2420) (Nat.le_of_ble_eq_true rfl) (Nat.le_of_ble_eq_true rfl) ?_
  refine lv_aload_n C.1.1 C.1.2.1 dX7_init_22 rfl (lv_at hl 0 rfl) ?_
  refine lv_iconst (v := (-1)) C.1.1 C.1.2.1 dX7_init_23 (by decide) ?_
  rw [← h0]
  refine r_putI (i := 0) C hw (by rfl) fX7_14 rfl rfl (Or.inl rfl) dX7_init_24 (fun H locs hw => ?_)
  refine lt_gen (P := fun g => WS D cA ev hr ad A ([(7, 55), (10, 1220), (10, 1200)]) s H locs g) h hw (fun g_3 h hw => ?_)
  rw [h0]
  refine lv_aload_n C.1.1 C.1.2.1 dX7_init_27 rfl (lv_at hl 0 rfl) ?_
  refine lv_bipush (v := 10) C.1.1 C.1.2.1 dX7_init_28 (by decide) ?_
  refine r_na (atype := .long) (ty := .long) (t := 9) (N := 10) (n := 3) (kl' := [(7, 55), (10, 1220), (10, 1200), (9, 10)]) C hw h0 hL (by rfl) rfl (Or.inr (Or.inl ⟨rfl, rfl⟩)) kz130 (by rfl) (by rfl) (by decide) (by decide) (by decide) (by decide) (Nat.le_of_ble_eq_true rfl) (Nat.le_of_ble_eq_true rfl) fX7_102 rfl (fun _ => ⟨rfl, rfl⟩) (Or.inr ⟨rfl, rfl⟩) (by decide) dX7_init_30 dX7_init_32 (fun hr ad H locs h0 hL hw => ?_)
  refine lt_gen (P := fun g => WS D cA ev hr ad A ([(7, 55), (10, 1220), (10, 1200), (9, 10)]) s H locs g) h hw (fun g_4 h hw => ?_)
  refine W.eq (g2 := F0 m 35 ls []) rfl ?_
  refine W.widen (k := 3) (n := 2430) (Nat.le_of_ble_eq_true rfl) (Nat.le_of_ble_eq_true rfl) ?_
  refine lv_aload_n C.1.1 C.1.2.1 dX7_init_35 rfl (lv_at hl 0 rfl) ?_
  refine lv_bipush (v := 50) C.1.1 C.1.2.1 dX7_init_36 (by decide) ?_
  refine r_na (atype := .long) (ty := .long) (t := 9) (N := 50) (n := 4) (kl' := [(7, 55), (10, 1220), (10, 1200), (9, 10), (9, 50)]) C hw h0 hL (by rfl) rfl (Or.inr (Or.inl ⟨rfl, rfl⟩)) kz130 (by rfl) (by rfl) (by decide) (by decide) (by decide) (by decide) (Nat.le_of_ble_eq_true rfl) (Nat.le_of_ble_eq_true rfl) fX7_109 rfl (fun _ => ⟨rfl, rfl⟩) (Or.inr ⟨rfl, rfl⟩) (by decide) dX7_init_38 dX7_init_40 (fun hr ad H locs h0 hL hw => ?_)
  refine lt_gen (P := fun g => WS D cA ev hr ad A ([(7, 55), (10, 1220), (10, 1200), (9, 10), (9, 50)]) s H locs g) h hw (fun g_5 h hw => ?_)
  refine W.eq (g2 := F0 m 43 ls []) rfl ?_
  refine W.widen (k := 4) (n := 2480) (Nat.le_of_ble_eq_true rfl) (Nat.le_of_ble_eq_true rfl) ?_
  refine lv_aload_n C.1.1 C.1.2.1 dX7_init_43 rfl (lv_at hl 0 rfl) ?_
  refine lv_bipush (v := 10) C.1.1 C.1.2.1 dX7_init_44 (by decide) ?_
  refine r_na (atype := .int) (ty := .int) (t := 8) (N := 10) (n := 5) (kl' := [(7, 55), (10, 1220), (10, 1200), (9, 10), (9, 50), (8, 10)]) C hw h0 hL (by rfl) rfl (Or.inl ⟨rfl, rfl⟩) kz197 (by rfl) (by rfl) (by decide) (by decide) (by decide) (by decide) (Nat.le_of_ble_eq_true rfl) (Nat.le_of_ble_eq_true rfl) fX7_106 rfl (fun _ => ⟨rfl, rfl⟩) (Or.inr ⟨rfl, rfl⟩) (by decide) dX7_init_46 dX7_init_48 (fun hr ad H locs h0 hL hw => ?_)
  refine lt_gen (P := fun g => WS D cA ev hr ad A ([(7, 55), (10, 1220), (10, 1200), (9, 10), (9, 50), (8, 10)]) s H locs g) h hw (fun g_6 h hw => ?_)
  refine W.eq (g2 := F0 m 51 ls []) rfl ?_
  refine W.widen (k := 5) (n := 2490) (Nat.le_of_ble_eq_true rfl) (Nat.le_of_ble_eq_true rfl) ?_
  refine lv_aload_n C.1.1 C.1.2.1 dX7_init_51 rfl (lv_at hl 0 rfl) ?_
  refine lv_bipush (v := 10) C.1.1 C.1.2.1 dX7_init_52 (by decide) ?_
  refine r_na (atype := .int) (ty := .int) (t := 8) (N := 10) (n := 6) (kl' := [(7, 55), (10, 1220), (10, 1200), (9, 10), (9, 50), (8, 10), (8, 10)]) C hw h0 hL (by rfl) rfl (Or.inl ⟨rfl, rfl⟩) kz197 (by rfl) (by rfl) (by decide) (by decide) (by decide) (by decide) (Nat.le_of_ble_eq_true rfl) (Nat.le_of_ble_eq_true rfl) fX7_160 rfl (fun _ => ⟨rfl, rfl⟩) (Or.inr ⟨rfl, rfl⟩) (by decide) dX7_init_54 dX7_init_56 (fun hr ad H locs h0 hL hw => ?_)
  refine lt_gen (P := fun g => WS D cA ev hr ad A ([(7, 55), (10, 1220), (10, 1200), (9, 10), (9, 50), (8, 10), (8, 10)]) s H locs g) h hw (fun g_7 h hw => ?_)
  refine W.eq (g2 := F0 m 59 ls []) rfl ?_
  refine W.widen (k := 6) (n := 2500) (Nat.le_of_ble_eq_true rfl) (Nat.le_of_ble_eq_true rfl) ?_
  refine lv_aload_n C.1.1 C.1.2.1 dX7_init_59 rfl (lv_at hl 0 rfl) ?_
  refine lv_bipush (v := 50) C.1.1 C.1.2.1 dX7_init_60 (by decide) ?_
  refine r_na (atype := .int) (ty := .int) (t := 8) (N := 50) (n := 7) (kl' := [(7, 55), (10, 1220), (10, 1200), (9, 10), (9, 50), (8, 10), (8, 10), (8, 50)]) C hw h0 hL (by rfl) rfl (Or.inl ⟨rfl, rfl⟩) kz197 (by rfl) (by rfl) (by decide) (by decide) (by decide) (by decide) (Nat.le_of_ble_eq_true rfl) (Nat.le_of_ble_eq_true rfl) fX7_175 rfl (fun _ => ⟨rfl, rfl⟩) (Or.inr ⟨rfl, rfl⟩) (by decide) dX7_init_62 dX7_init_64 (fun hr ad H locs h0 hL hw => ?_)
  refine lt_gen (P := fun g => WS D cA ev hr ad A ([(7, 55), (10, 1220), (10, 1200), (9, 10), (9, 50), (8, 10), (8, 10), (8, 50)]) s H locs g) h hw (fun g_8 h hw => ?_)
  refine W.eq (g2 := F0 m 67 ls []) rfl ?_
  refine W.widen (k := 7) (n := 2550) (Nat.le_of_ble_eq_true rfl) (Nat.le_of_ble_eq_true rfl) ?_
  refine lv_aload_n C.1.1 C.1.2.1 dX7_init_67 rfl (lv_at hl 0 rfl) ?_
  refine lv_bipush (v := 32) C.1.1 C.1.2.1 dX7_init_68 (by decide) ?_
  refine r_na (atype := .int) (ty := .int) (t := 8) (N := 32) (n := 8) (kl' := [(7, 55), (10, 1220), (10, 1200), (9, 10), (9, 50), (8, 10), (8, 10), (8, 50), (8, 32)]) C hw h0 hL (by rfl) rfl (Or.inl ⟨rfl, rfl⟩) kz197 (by rfl) (by rfl) (by decide) (by decide) (by decide) (by decide) (Nat.le_of_ble_eq_true rfl) (Nat.le_of_ble_eq_true rfl) fX7_182 rfl (fun _ => ⟨rfl, rfl⟩) (Or.inr ⟨rfl, rfl⟩) (by decide) dX7_init_70 dX7_init_72 (fun hr ad H locs h0 hL hw => ?_)
  refine lt_gen (P := fun g => WS D cA ev hr ad A ([(7, 55), (10, 1220), (10, 1200), (9, 10), (9, 50), (8, 10), (8, 10), (8, 50), (8, 32)]) s H locs g) h hw (fun g_9 h hw => ?_)
  refine W.eq (g2 := F0 m 75 ls []) rfl ?_
  refine W.widen (k := 8) (n := 2582) (Nat.le_of_ble_eq_true rfl) (Nat.le_of_ble_eq_true rfl) ?_
  refine lv_aload_n C.1.1 C.1.2.1 dX7_init_75 rfl (lv_at hl 0 rfl) ?_
  refine lv_bipush (v := 32) C.1.1 C.1.2.1 dX7_init_76 (by decide) ?_
  refine r_na (atype := .int) (ty := .int) (t := 8) (N := 32) (n := 9) (kl' := [(7, 55), (10, 1220), (10, 1200), (9, 10), (9, 50), (8, 10), (8, 10), (8, 50), (8, 32), (8, 32)]) C hw h0 hL (by rfl) rfl (Or.inl ⟨rfl, rfl⟩) kz197 (by rfl) (by rfl) (by decide) (by decide) (by decide) (by decide) (Nat.le_of_ble_eq_true rfl) (Nat.le_of_ble_eq_true rfl) fX7_185 rfl (fun _ => ⟨rfl, rfl⟩) (Or.inr ⟨rfl, rfl⟩) (by decide) dX7_init_78 dX7_init_80 (fun hr ad H locs h0 hL hw => ?_)
  refine lt_gen (P := fun g => WS D cA ev hr ad A ([(7, 55), (10, 1220), (10, 1200), (9, 10), (9, 50), (8, 10), (8, 10), (8, 50), (8, 32), (8, 32)]) s H locs g) h hw (fun g_10 h hw => ?_)
  refine W.eq (g2 := F0 m 83 ls []) rfl ?_
  refine W.widen (k := 9) (n := 2614) (Nat.le_of_ble_eq_true rfl) (Nat.le_of_ble_eq_true rfl) ?_
  refine lv_aload_n C.1.1 C.1.2.1 dX7_init_83 rfl (lv_at hl 0 rfl) ?_
  refine lv_sipush (v := 160) C.1.1 C.1.2.1 dX7_init_84 (by decide) ?_
  refine r_na (atype := .int) (ty := .int) (t := 8) (N := 160) (n := 10) (kl' := [(7, 55), (10, 1220), (10, 1200), (9, 10), (9, 50), (8, 10), (8, 10), (8, 50), (8, 32), (8, 32), (8, 160)]) C hw h0 hL (by rfl) rfl (Or.inl ⟨rfl, rfl⟩) kz197 (by rfl) (by rfl) (by decide) (by decide) (by decide) (by decide) (Nat.le_of_ble_eq_true rfl) (Nat.le_of_ble_eq_true rfl) fX7_188 rfl (fun _ => ⟨rfl, rfl⟩) (Or.inr ⟨rfl, rfl⟩) (by decide) dX7_init_87 dX7_init_89 (fun hr ad H locs h0 hL hw => ?_)
  refine lt_gen (P := fun g => WS D cA ev hr ad A ([(7, 55), (10, 1220), (10, 1200), (9, 10), (9, 50), (8, 10), (8, 10), (8, 50), (8, 32), (8, 32), (8, 160)]) s H locs g) h hw (fun g_11 h hw => ?_)
  refine W.eq (g2 := F0 m 92 ls []) rfl ?_
  refine W.widen (k := 10) (n := 2774) (Nat.le_of_ble_eq_true rfl) (Nat.le_of_ble_eq_true rfl) ?_
  refine lv_aload_n C.1.1 C.1.2.1 dX7_init_92 rfl (lv_at hl 0 rfl) ?_
  refine lv_sipush (v := 160) C.1.1 C.1.2.1 dX7_init_93 (by decide) ?_
  refine r_na (atype := .int) (ty := .int) (t := 8) (N := 160) (n := 11) (kl' := [(7, 55), (10, 1220), (10, 1200), (9, 10), (9, 50), (8, 10), (8, 10), (8, 50), (8, 32), (8, 32), (8, 160), (8, 160)]) C hw h0 hL (by rfl) rfl (Or.inl ⟨rfl, rfl⟩) kz197 (by rfl) (by rfl) (by decide) (by decide) (by decide) (by decide) (Nat.le_of_ble_eq_true rfl) (Nat.le_of_ble_eq_true rfl) fX7_191 rfl (fun _ => ⟨rfl, rfl⟩) (Or.inr ⟨rfl, rfl⟩) (by decide) dX7_init_96 dX7_init_98 (fun hr ad H locs h0 hL hw => ?_)
  refine lt_gen (P := fun g => WS D cA ev hr ad A ([(7, 55), (10, 1220), (10, 1200), (9, 10), (9, 50), (8, 10), (8, 10), (8, 50), (8, 32), (8, 32), (8, 160), (8, 160)]) s H locs g) h hw (fun g_12 h hw => ?_)
  refine W.eq (g2 := F0 m 101 ls []) rfl ?_
  refine W.widen (k := 11) (n := 2934) (Nat.le_of_ble_eq_true rfl) (Nat.le_of_ble_eq_true rfl) ?_
  refine lv_aload_n C.1.1 C.1.2.1 dX7_init_101 rfl (lv_at hl 0 rfl) ?_
  refine lv_iconst (v := 2) C.1.1 C.1.2.1 dX7_init_102 (by decide) ?_
  refine r_na (atype := .int) (ty := .int) (t := 8) (N := 2) (n := 12) (kl' := [(7, 55), (10, 1220), (10, 1200), (9, 10), (9, 50), (8, 10), (8, 10), (8, 50), (8, 32), (8, 32), (8, 160), (8, 160), (8, 2)]) C hw h0 hL (by rfl) rfl (Or.inl ⟨rfl, rfl⟩) kz197 (by rfl) (by rfl) (by decide) (by decide) (by decide) (by decide) (Nat.le_of_ble_eq_true rfl) (Nat.le_of_ble_eq_true rfl) fX7_98 rfl (fun _ => ⟨rfl, rfl⟩) (Or.inr ⟨rfl, rfl⟩) (by decide) dX7_init_103 dX7_init_105 (fun hr ad H locs h0 hL hw => ?_)
  refine lt_gen (P := fun g => WS D cA ev hr ad A ([(7, 55), (10, 1220), (10, 1200), (9, 10), (9, 50), (8, 10), (8, 10), (8, 50), (8, 32), (8, 32), (8, 160), (8, 160), (8, 2)]) s H locs g) h hw (fun g_13 h hw => ?_)
  refine W.eq (g2 := F0 m 108 ls []) rfl ?_
  refine W.widen (k := 12) (n := 2936) (Nat.le_of_ble_eq_true rfl) (Nat.le_of_ble_eq_true rfl) ?_
  refine lv_aload_n C.1.1 C.1.2.1 dX7_init_108 rfl (lv_at hl 0 rfl) ?_
  refine lv_iconst (v := 2) C.1.1 C.1.2.1 dX7_init_109 (by decide) ?_
  refine r_na (atype := .int) (ty := .int) (t := 8) (N := 2) (n := 13) (kl' := [(7, 55), (10, 1220), (10, 1200), (9, 10), (9, 50), (8, 10), (8, 10), (8, 50), (8, 32), (8, 32), (8, 160), (8, 160), (8, 2), (8, 2)]) C hw h0 hL (by rfl) rfl (Or.inl ⟨rfl, rfl⟩) kz197 (by rfl) (by rfl) (by decide) (by decide) (by decide) (by decide) (Nat.le_of_ble_eq_true rfl) (Nat.le_of_ble_eq_true rfl) fX7_122 rfl (fun _ => ⟨rfl, rfl⟩) (Or.inr ⟨rfl, rfl⟩) (by decide) dX7_init_110 dX7_init_112 (fun hr ad H locs h0 hL hw => ?_)
  refine lt_gen (P := fun g => WS D cA ev hr ad A ([(7, 55), (10, 1220), (10, 1200), (9, 10), (9, 50), (8, 10), (8, 10), (8, 50), (8, 32), (8, 32), (8, 160), (8, 160), (8, 2), (8, 2)]) s H locs g) h hw (fun g_14 h hw => ?_)
  refine W.eq (g2 := F0 m 115 ls []) rfl ?_
  refine W.widen (k := 13) (n := 2938) (Nat.le_of_ble_eq_true rfl) (Nat.le_of_ble_eq_true rfl) ?_
  refine lv_aload_n C.1.1 C.1.2.1 dX7_init_115 rfl (lv_at hl 0 rfl) ?_
  refine lv_iconst (v := 2) C.1.1 C.1.2.1 dX7_init_116 (by decide) ?_
  refine r_na (atype := .int) (ty := .int) (t := 8) (N := 2) (n := 14) (kl' := [(7, 55), (10, 1220), (10, 1200), (9, 10), (9, 50), (8, 10), (8, 10), (8, 50), (8, 32), (8, 32), (8, 160), (8, 160), (8, 2), (8, 2), (8, 2)]) C hw h0 hL (by rfl) rfl (Or.inl ⟨rfl, rfl⟩) kz197 (by rfl) (by rfl) (by decide) (by decide) (by decide) (by decide) (Nat.le_of_ble_eq_true rfl) (Nat.le_of_ble_eq_true rfl) fX7_138 rfl (fun _ => ⟨rfl, rfl⟩) (Or.inr ⟨rfl, rfl⟩) (by decide) dX7_init_117 dX7_init_119 (fun hr ad H locs h0 hL hw => ?_)
  refine lt_gen (P := fun g => WS D cA ev hr ad A ([(7, 55), (10, 1220), (10, 1200), (9, 10), (9, 50), (8, 10), (8, 10), (8, 50), (8, 32), (8, 32), (8, 160), (8, 160), (8, 2), (8, 2), (8, 2)]) s H locs g) h hw (fun g_15 h hw => ?_)
  refine W.eq (g2 := F0 m 122 ls []) rfl ?_
  refine W.widen (k := 14) (n := 2940) (Nat.le_of_ble_eq_true rfl) (Nat.le_of_ble_eq_true rfl) ?_
  refine lv_aload_n C.1.1 C.1.2.1 dX7_init_122 rfl (lv_at hl 0 rfl) ?_
  refine lv_bipush (v := 20) C.1.1 C.1.2.1 dX7_init_123 (by decide) ?_
  refine r_na (atype := .int) (ty := .int) (t := 8) (N := 20) (n := 15) (kl' := [(7, 55), (10, 1220), (10, 1200), (9, 10), (9, 50), (8, 10), (8, 10), (8, 50), (8, 32), (8, 32), (8, 160), (8, 160), (8, 2), (8, 2), (8, 2), (8, 20)]) C hw h0 hL (by rfl) rfl (Or.inl ⟨rfl, rfl⟩) kz197 (by rfl) (by rfl) (by decide) (by decide) (by decide) (by decide) (Nat.le_of_ble_eq_true rfl) (Nat.le_of_ble_eq_true rfl) fX7_229 rfl (fun _ => ⟨rfl, rfl⟩) (Or.inr ⟨rfl, rfl⟩) (by decide) dX7_init_125 dX7_init_127 (fun hr ad H locs h0 hL hw => ?_)
  refine lt_gen (P := fun g => WS D cA ev hr ad A ([(7, 55), (10, 1220), (10, 1200), (9, 10), (9, 50), (8, 10), (8, 10), (8, 50), (8, 32), (8, 32), (8, 160), (8, 160), (8, 2), (8, 2), (8, 2), (8, 20)]) s H locs g) h hw (fun g_16 h hw => ?_)
  refine W.eq (g2 := F0 m 130 ls []) rfl ?_
  refine W.widen (k := 15) (n := 2960) (Nat.le_of_ble_eq_true rfl) (Nat.le_of_ble_eq_true rfl) ?_
  refine lv_aload_n C.1.1 C.1.2.1 dX7_init_130 rfl (lv_at hl 0 rfl) ?_
  refine lv_bipush (v := 20) C.1.1 C.1.2.1 dX7_init_131 (by decide) ?_
  refine r_na (atype := .int) (ty := .int) (t := 8) (N := 20) (n := 16) (kl' := [(7, 55), (10, 1220), (10, 1200), (9, 10), (9, 50), (8, 10), (8, 10), (8, 50), (8, 32), (8, 32), (8, 160), (8, 160), (8, 2), (8, 2), (8, 2), (8, 20), (8, 20)]) C hw h0 hL (by rfl) rfl (Or.inl ⟨rfl, rfl⟩) kz197 (by rfl) (by rfl) (by decide) (by decide) (by decide) (by decide) (Nat.le_of_ble_eq_true rfl) (Nat.le_of_ble_eq_true rfl) fX7_236 rfl (fun _ => ⟨rfl, rfl⟩) (Or.inr ⟨rfl, rfl⟩) (by decide) dX7_init_133 dX7_init_135 (fun hr ad H locs h0 hL hw => ?_)
  refine lt_gen (P := fun g => WS D cA ev hr ad A ([(7, 55), (10, 1220), (10, 1200), (9, 10), (9, 50), (8, 10), (8, 10), (8, 50), (8, 32), (8, 32), (8, 160), (8, 160), (8, 2), (8, 2), (8, 2), (8, 20), (8, 20)]) s H locs g) h hw (fun g_17 h hw => ?_)
  refine W.eq (g2 := F0 m 138 ls []) rfl ?_
  refine W.widen (k := 16) (n := 2980) (Nat.le_of_ble_eq_true rfl) (Nat.le_of_ble_eq_true rfl) ?_
  refine lv_aload_n C.1.1 C.1.2.1 dX7_init_138 rfl (lv_at hl 0 rfl) ?_
  refine lv_bipush (v := 20) C.1.1 C.1.2.1 dX7_init_139 (by decide) ?_
  refine r_na (atype := .int) (ty := .int) (t := 8) (N := 20) (n := 17) (kl' := [(7, 55), (10, 1220), (10, 1200), (9, 10), (9, 50), (8, 10), (8, 10), (8, 50), (8, 32), (8, 32), (8, 160), (8, 160), (8, 2), (8, 2), (8, 2), (8, 20), (8, 20), (8, 20)]) C hw h0 hL (by rfl) rfl (Or.inl ⟨rfl, rfl⟩) kz197 (by rfl) (by rfl) (by decide) (by decide) (by decide) (by decide) (Nat.le_of_ble_eq_true rfl) (Nat.le_of_ble_eq_true rfl) fX7_226 rfl (fun _ => ⟨rfl, rfl⟩) (Or.inr ⟨rfl, rfl⟩) (by decide) dX7_init_141 dX7_init_143 (fun hr ad H locs h0 hL hw => ?_)
  refine lt_gen (P := fun g => WS D cA ev hr ad A ([(7, 55), (10, 1220), (10, 1200), (9, 10), (9, 50), (8, 10), (8, 10), (8, 50), (8, 32), (8, 32), (8, 160), (8, 160), (8, 2), (8, 2), (8, 2), (8, 20), (8, 20), (8, 20)]) s H locs g) h hw (fun g_18 h hw => ?_)
  refine W.eq (g2 := F0 m 146 ls []) rfl ?_
  refine W.widen (k := 17) (n := 3000) (Nat.le_of_ble_eq_true rfl) (Nat.le_of_ble_eq_true rfl) ?_
  refine lv_aload_n C.1.1 C.1.2.1 dX7_init_146 rfl (lv_at hl 0 rfl) ?_
  refine lv_bipush (v := 20) C.1.1 C.1.2.1 dX7_init_147 (by decide) ?_
  refine r_na (atype := .int) (ty := .int) (t := 8) (N := 20) (n := 18) (kl' := [(7, 55), (10, 1220), (10, 1200), (9, 10), (9, 50), (8, 10), (8, 10), (8, 50), (8, 32), (8, 32), (8, 160), (8, 160), (8, 2), (8, 2), (8, 2), (8, 20), (8, 20), (8, 20), (8, 20)]) C hw h0 hL (by rfl) rfl (Or.inl ⟨rfl, rfl⟩) kz197 (by rfl) (by rfl) (by decide) (by decide) (by decide) (by decide) (Nat.le_of_ble_eq_true rfl) (Nat.le_of_ble_eq_true rfl) fX7_254 rfl (fun _ => ⟨rfl, rfl⟩) (Or.inr ⟨rfl, rfl⟩) (by decide) dX7_init_149 dX7_init_151 (fun hr ad H locs h0 hL hw => ?_)
  refine lt_gen (P := fun g => WS D cA ev hr ad A ([(7, 55), (10, 1220), (10, 1200), (9, 10), (9, 50), (8, 10), (8, 10), (8, 50), (8, 32), (8, 32), (8, 160), (8, 160), (8, 2), (8, 2), (8, 2), (8, 20), (8, 20), (8, 20), (8, 20)]) s H locs g) h hw (fun g_19 h hw => ?_)
  refine W.eq (g2 := F0 m 154 ls []) rfl ?_
  refine W.widen (k := 18) (n := 3020) (Nat.le_of_ble_eq_true rfl) (Nat.le_of_ble_eq_true rfl) ?_
  refine lv_aload_n C.1.1 C.1.2.1 dX7_init_154 rfl (lv_at hl 0 rfl) ?_
  refine lv_bipush (v := 20) C.1.1 C.1.2.1 dX7_init_155 (by decide) ?_
  refine r_na (atype := .int) (ty := .int) (t := 8) (N := 20) (n := 19) (kl' := [(7, 55), (10, 1220), (10, 1200), (9, 10), (9, 50), (8, 10), (8, 10), (8, 50), (8, 32), (8, 32), (8, 160), (8, 160), (8, 2), (8, 2), (8, 2), (8, 20), (8, 20), (8, 20), (8, 20), (8, 20)]) C hw h0 hL (by rfl) rfl (Or.inl ⟨rfl, rfl⟩) kz197 (by rfl) (by rfl) (by decide) (by decide) (by decide) (by decide) (Nat.le_of_ble_eq_true rfl) (Nat.le_of_ble_eq_true rfl) fX7_245 rfl (fun _ => ⟨rfl, rfl⟩) (Or.inr ⟨rfl, rfl⟩) (by decide) dX7_init_157 dX7_init_159 (fun hr ad H locs h0 hL hw => ?_)
  refine lt_gen (P := fun g => WS D cA ev hr ad A ([(7, 55), (10, 1220), (10, 1200), (9, 10), (9, 50), (8, 10), (8, 10), (8, 50), (8, 32), (8, 32), (8, 160), (8, 160), (8, 2), (8, 2), (8, 2), (8, 20), (8, 20), (8, 20), (8, 20), (8, 20)]) s H locs g) h hw (fun g_20 h hw => ?_)
  refine W.eq (g2 := F0 m 162 ls []) rfl ?_
  refine W.widen (k := 19) (n := 3040) (Nat.le_of_ble_eq_true rfl) (Nat.le_of_ble_eq_true rfl) ?_
  refine lv_aload_n C.1.1 C.1.2.1 dX7_init_162 rfl (lv_at hl 0 rfl) ?_
  refine lv_bipush (v := 20) C.1.1 C.1.2.1 dX7_init_163 (by decide) ?_
  refine r_na (atype := .int) (ty := .int) (t := 8) (N := 20) (n := 20) (kl' := [(7, 55), (10, 1220), (10, 1200), (9, 10), (9, 50), (8, 10), (8, 10), (8, 50), (8, 32), (8, 32), (8, 160), (8, 160), (8, 2), (8, 2), (8, 2), (8, 20), (8, 20), (8, 20), (8, 20), (8, 20), (8, 20)]) C hw h0 hL (by rfl) rfl (Or.inl ⟨rfl, rfl⟩) kz197 (by rfl) (by rfl) (by decide) (by decide) (by decide) (by decide) (Nat.le_of_ble_eq_true rfl) (Nat.le_of_ble_eq_true rfl) fX7_251 rfl (fun _ => ⟨rfl, rfl⟩) (Or.inr ⟨rfl, rfl⟩) (by decide) dX7_init_165 dX7_init_167 (fun hr ad H locs h0 hL hw => ?_)
  refine lt_gen (P := fun g => WS D cA ev hr ad A ([(7, 55), (10, 1220), (10, 1200), (9, 10), (9, 50), (8, 10), (8, 10), (8, 50), (8, 32), (8, 32), (8, 160), (8, 160), (8, 2), (8, 2), (8, 2), (8, 20), (8, 20), (8, 20), (8, 20), (8, 20), (8, 20)]) s H locs g) h hw (fun g_21 h hw => ?_)
  refine W.eq (g2 := F0 m 170 ls []) rfl ?_
  refine W.widen (k := 20) (n := 3060) (Nat.le_of_ble_eq_true rfl) (Nat.le_of_ble_eq_true rfl) ?_
  refine lv_aload_n C.1.1 C.1.2.1 dX7_init_170 rfl (lv_at hl 0 rfl) ?_
  refine lv_sipush (v := 1200) C.1.1 C.1.2.1 dX7_init_171 (by decide) ?_
  refine r_na (atype := .int) (ty := .int) (t := 8) (N := 1200) (n := 21) (kl' := [(7, 55), (10, 1220), (10, 1200), (9, 10), (9, 50), (8, 10), (8, 10), (8, 50), (8, 32), (8, 32), (8, 160), (8, 160), (8, 2), (8, 2), (8, 2), (8, 20), (8, 20), (8, 20), (8, 20), (8, 20), (8, 20), (8, 1200)]) C hw h0 hL (by rfl) rfl (Or.inl ⟨rfl, rfl⟩) kz197 (by rfl) (by rfl) (by decide) (by decide) (by decide) (by decide) (Nat.le_of_ble_eq_true rfl) (Nat.le_of_ble_eq_true rfl) fX7_257 rfl (fun _ => ⟨rfl, rfl⟩) (Or.inr ⟨rfl, rfl⟩) (by decide) dX7_init_174 dX7_init_176 (fun hr ad H locs h0 hL hw => ?_)
  refine lt_gen (P := fun g => WS D cA ev hr ad A ([(7, 55), (10, 1220), (10, 1200), (9, 10), (9, 50), (8, 10), (8, 10), (8, 50), (8, 32), (8, 32), (8, 160), (8, 160), (8, 2), (8, 2), (8, 2), (8, 20), (8, 20), (8, 20), (8, 20), (8, 20), (8, 20), (8, 1200)]) s H locs g) h hw (fun g_22 h hw => ?_)
  refine W.eq (g2 := F0 m 179 ls []) rfl ?_
  refine W.widen (k := 21) (n := 4260) (Nat.le_of_ble_eq_true rfl) (Nat.le_of_ble_eq_true rfl) ?_
  refine lv_aload_n C.1.1 C.1.2.1 dX7_init_179 rfl (lv_at hl 0 rfl) ?_
  refine lv_sipush (v := 1200) C.1.1 C.1.2.1 dX7_init_180 (by decide) ?_
  refine r_na (atype := .int) (ty := .int) (t := 8) (N := 1200) (n := 22) (kl' := [(7, 55), (10, 1220), (10, 1200), (9, 10), (9, 50), (8, 10), (8, 10), (8, 50), (8, 32), (8, 32), (8, 160), (8, 160), (8, 2), (8, 2), (8, 2), (8, 20), (8, 20), (8, 20), (8, 20), (8, 20), (8, 20), (8, 1200), (8, 1200)]) C hw h0 hL (by rfl) rfl (Or.inl ⟨rfl, rfl⟩) kz197 (by rfl) (by rfl) (by decide) (by decide) (by decide) (by decide) (Nat.le_of_ble_eq_true rfl) (Nat.le_of_ble_eq_true rfl) fX7_260 rfl (fun _ => ⟨rfl, rfl⟩) (Or.inr ⟨rfl, rfl⟩) (by decide) dX7_init_183 dX7_init_185 (fun hr ad H locs h0 hL hw => ?_)
  refine lt_gen (P := fun g => WS D cA ev hr ad A ([(7, 55), (10, 1220), (10, 1200), (9, 10), (9, 50), (8, 10), (8, 10), (8, 50), (8, 32), (8, 32), (8, 160), (8, 160), (8, 2), (8, 2), (8, 2), (8, 20), (8, 20), (8, 20), (8, 20), (8, 20), (8, 20), (8, 1200), (8, 1200)]) s H locs g) h hw (fun g_23 h hw => ?_)
  refine W.eq (g2 := F0 m 188 ls []) rfl ?_
  refine W.widen (k := 22) (n := 5460) (Nat.le_of_ble_eq_true rfl) (Nat.le_of_ble_eq_true rfl) ?_
  refine lv_aload_n C.1.1 C.1.2.1 dX7_init_188 rfl (lv_at hl 0 rfl) ?_
  refine lv_bipush (v := 80) C.1.1 C.1.2.1 dX7_init_189 (by decide) ?_
  refine r_na (atype := .int) (ty := .int) (t := 8) (N := 80) (n := 23) (kl' := [(7, 55), (10, 1220), (10, 1200), (9, 10), (9, 50), (8, 10), (8, 10), (8, 50), (8, 32), (8, 32), (8, 160), (8, 160), (8, 2), (8, 2), (8, 2), (8, 20), (8, 20), (8, 20), (8, 20), (8, 20), (8, 20), (8, 1200), (8, 1200), (8, 80)]) C hw h0 hL (by rfl) rfl (Or.inl ⟨rfl, rfl⟩) kz197 (by rfl) (by rfl) (by decide) (by decide) (by decide) (by decide) (Nat.le_of_ble_eq_true rfl) (Nat.le_of_ble_eq_true rfl) fX7_287 rfl (fun _ => ⟨rfl, rfl⟩) (Or.inr ⟨rfl, rfl⟩) (by decide) dX7_init_191 dX7_init_193 (fun hr ad H locs h0 hL hw => ?_)
  refine lt_gen (P := fun g => WS D cA ev hr ad A ([(7, 55), (10, 1220), (10, 1200), (9, 10), (9, 50), (8, 10), (8, 10), (8, 50), (8, 32), (8, 32), (8, 160), (8, 160), (8, 2), (8, 2), (8, 2), (8, 20), (8, 20), (8, 20), (8, 20), (8, 20), (8, 20), (8, 1200), (8, 1200), (8, 80)]) s H locs g) h hw (fun g_24 h hw => ?_)
  refine W.eq (g2 := F0 m 196 ls []) rfl ?_
  refine W.widen (k := 23) (n := 5540) (Nat.le_of_ble_eq_true rfl) (Nat.le_of_ble_eq_true rfl) ?_
  refine lv_aload_n C.1.1 C.1.2.1 dX7_init_196 rfl (lv_at hl 0 rfl) ?_
  refine lv_bipush (v := 80) C.1.1 C.1.2.1 dX7_init_197 (by decide) ?_
  refine r_na (atype := .int) (ty := .int) (t := 8) (N := 80) (n := 24) (kl' := [(7, 55), (10, 1220), (10, 1200), (9, 10), (9, 50), (8, 10), (8, 10), (8, 50), (8, 32), (8, 32), (8, 160), (8, 160), (8, 2), (8, 2), (8, 2), (8, 20), (8, 20), (8, 20), (8, 20), (8, 20), (8, 20), (8, 1200), (8, 1200), (8, 80), (8, 80)]) C hw h0 hL (by rfl) rfl (Or.inl ⟨rfl, rfl⟩) kz197 (by rfl) (by rfl) (by decide) (by decide) (by decide) (by decide) (Nat.le_of_ble_eq_true rfl) (Nat.le_of_ble_eq_true rfl) fX7_293 rfl (fun _ => ⟨rfl, rfl⟩) (Or.inr ⟨rfl, rfl⟩) (by decide) dX7_init_199 dX7_init_201 (fun hr ad H locs h0 hL hw => ?_)
  refine lt_gen (P := fun g => WS D cA ev hr ad A ([(7, 55), (10, 1220), (10, 1200), (9, 10), (9, 50), (8, 10), (8, 10), (8, 50), (8, 32), (8, 32), (8, 160), (8, 160), (8, 2), (8, 2), (8, 2), (8, 20), (8, 20), (8, 20), (8, 20), (8, 20), (8, 20), (8, 1200), (8, 1200), (8, 80), (8, 80)]) s H locs g) h hw (fun g_25 h hw => ?_)
  refine W.eq (g2 := F0 m 204 ls []) rfl ?_
  refine W.widen (k := 24) (n := 5620) (Nat.le_of_ble_eq_true rfl) (Nat.le_of_ble_eq_true rfl) ?_
  refine lv_aload_n C.1.1 C.1.2.1 dX7_init_204 rfl (lv_at hl 0 rfl) ?_
  refine lv_sipush (v := 320) C.1.1 C.1.2.1 dX7_init_205 (by decide) ?_
  refine r_na (atype := .int) (ty := .int) (t := 8) (N := 320) (n := 25) (kl' := [(7, 55), (10, 1220), (10, 1200), (9, 10), (9, 50), (8, 10), (8, 10), (8, 50), (8, 32), (8, 32), (8, 160), (8, 160), (8, 2), (8, 2), (8, 2), (8, 20), (8, 20), (8, 20), (8, 20), (8, 20), (8, 20), (8, 1200), (8, 1200), (8, 80), (8, 80), (8, 320)]) C hw h0 hL (by rfl) rfl (Or.inl ⟨rfl, rfl⟩) kz197 (by rfl) (by rfl) (by decide) (by decide) (by decide) (by decide) (Nat.le_of_ble_eq_true rfl) (Nat.le_of_ble_eq_true rfl) fX7_290 rfl (fun _ => ⟨rfl, rfl⟩) (Or.inr ⟨rfl, rfl⟩) (by decide) dX7_init_208 dX7_init_210 (fun hr ad H locs h0 hL hw => ?_)
  refine lt_gen (P := fun g => WS D cA ev hr ad A ([(7, 55), (10, 1220), (10, 1200), (9, 10), (9, 50), (8, 10), (8, 10), (8, 50), (8, 32), (8, 32), (8, 160), (8, 160), (8, 2), (8, 2), (8, 2), (8, 20), (8, 20), (8, 20), (8, 20), (8, 20), (8, 20), (8, 1200), (8, 1200), (8, 80), (8, 80), (8, 320)]) s H locs g) h hw (fun g_26 h hw => ?_)
  refine W.eq (g2 := F0 m 213 ls []) rfl ?_
  refine W.widen (k := 25) (n := 5940) (Nat.le_of_ble_eq_true rfl) (Nat.le_of_ble_eq_true rfl) ?_
  refine lv_aload_n C.1.1 C.1.2.1 dX7_init_213 rfl (lv_at hl 0 rfl) ?_
  refine lv_bipush (v := 60) C.1.1 C.1.2.1 dX7_init_214 (by decide) ?_
  refine r_na (atype := .int) (ty := .int) (t := 8) (N := 60) (n := 26) (kl' := [(7, 55), (10, 1220), (10, 1200), (9, 10), (9, 50), (8, 10), (8, 10), (8, 50), (8, 32), (8, 32), (8, 160), (8, 160), (8, 2), (8, 2), (8, 2), (8, 20), (8, 20), (8, 20), (8, 20), (8, 20), (8, 20), (8, 1200), (8, 1200), (8, 80), (8, 80), (8, 320), (8, 60)]) C hw h0 hL (by rfl) rfl (Or.inl ⟨rfl, rfl⟩) kz197 (by rfl) (by rfl) (by decide) (by decide) (by decide) (by decide) (Nat.le_of_ble_eq_true rfl) (Nat.le_of_ble_eq_true rfl) fX7_263 rfl (fun _ => ⟨rfl, rfl⟩) (Or.inr ⟨rfl, rfl⟩) (by decide) dX7_init_216 dX7_init_218 (fun hr ad H locs h0 hL hw => ?_)
  refine lt_gen (P := fun g => WS D cA ev hr ad A ([(7, 55), (10, 1220), (10, 1200), (9, 10), (9, 50), (8, 10), (8, 10), (8, 50), (8, 32), (8, 32), (8, 160), (8, 160), (8, 2), (8, 2), (8, 2), (8, 20), (8, 20), (8, 20), (8, 20), (8, 20), (8, 20), (8, 1200), (8, 1200), (8, 80), (8, 80), (8, 320), (8, 60)]) s H locs g) h hw (fun g_27 h hw => ?_)
  refine W.eq (g2 := F0 m 221 ls []) rfl ?_
  refine W.widen (k := 26) (n := 6000) (Nat.le_of_ble_eq_true rfl) (Nat.le_of_ble_eq_true rfl) ?_
  refine lv_aload_n C.1.1 C.1.2.1 dX7_init_221 rfl (lv_at hl 0 rfl) ?_
  refine lv_bipush (v := 50) C.1.1 C.1.2.1 dX7_init_222 (by decide) ?_
  refine r_na (atype := .boolean) (ty := .boolean) (t := 11) (N := 50) (n := 27) (kl' := [(7, 55), (10, 1220), (10, 1200), (9, 10), (9, 50), (8, 10), (8, 10), (8, 50), (8, 32), (8, 32), (8, 160), (8, 160), (8, 2), (8, 2), (8, 2), (8, 20), (8, 20), (8, 20), (8, 20), (8, 20), (8, 20), (8, 1200), (8, 1200), (8, 80), (8, 80), (8, 320), (8, 60), (11, 50)]) C hw h0 hL (by rfl) rfl (Or.inr (Or.inr (Or.inr ⟨rfl, rfl⟩))) kz235 (by rfl) (by rfl) (by decide) (by decide) (by decide) (by decide) (Nat.le_of_ble_eq_true rfl) (Nat.le_of_ble_eq_true rfl) fX7_299 rfl (fun _ => ⟨rfl, rfl⟩) (Or.inr ⟨rfl, rfl⟩) (by decide) dX7_init_224 dX7_init_226 (fun hr ad H locs h0 hL hw => ?_)
  refine lt_gen (P := fun g => WS D cA ev hr ad A ([(7, 55), (10, 1220), (10, 1200), (9, 10), (9, 50), (8, 10), (8, 10), (8, 50), (8, 32), (8, 32), (8, 160), (8, 160), (8, 2), (8, 2), (8, 2), (8, 20), (8, 20), (8, 20), (8, 20), (8, 20), (8, 20), (8, 1200), (8, 1200), (8, 80), (8, 80), (8, 320), (8, 60), (11, 50)]) s H locs g) h hw (fun g_28 h hw => ?_)
  refine W.eq (g2 := F0 m 229 ls []) rfl ?_
  refine W.widen (k := 27) (n := 6050) (Nat.le_of_ble_eq_true rfl) (Nat.le_of_ble_eq_true rfl) ?_
  refine lv_aload_n C.1.1 C.1.2.1 dX7_init_229 rfl (lv_at hl 0 rfl) ?_
  refine lv_bipush (v := 16) C.1.1 C.1.2.1 dX7_init_230 (by decide) ?_
  refine r_na (atype := .int) (ty := .int) (t := 8) (N := 16) (n := 28) (kl' := [(7, 55), (10, 1220), (10, 1200), (9, 10), (9, 50), (8, 10), (8, 10), (8, 50), (8, 32), (8, 32), (8, 160), (8, 160), (8, 2), (8, 2), (8, 2), (8, 20), (8, 20), (8, 20), (8, 20), (8, 20), (8, 20), (8, 1200), (8, 1200), (8, 80), (8, 80), (8, 320), (8, 60), (11, 50), (8, 16)]) C hw h0 hL (by rfl) rfl (Or.inl ⟨rfl, rfl⟩) kz197 (by rfl) (by rfl) (by decide) (by decide) (by decide) (by decide) (Nat.le_of_ble_eq_true rfl) (Nat.le_of_ble_eq_true rfl) fX7_310 rfl (fun _ => ⟨rfl, rfl⟩) (Or.inr ⟨rfl, rfl⟩) (by decide) dX7_init_232 dX7_init_234 (fun hr ad H locs h0 hL hw => ?_)
  refine lt_gen (P := fun g => WS D cA ev hr ad A ([(7, 55), (10, 1220), (10, 1200), (9, 10), (9, 50), (8, 10), (8, 10), (8, 50), (8, 32), (8, 32), (8, 160), (8, 160), (8, 2), (8, 2), (8, 2), (8, 20), (8, 20), (8, 20), (8, 20), (8, 20), (8, 20), (8, 1200), (8, 1200), (8, 80), (8, 80), (8, 320), (8, 60), (11, 50), (8, 16)]) s H locs g) h hw (fun g_29 h hw => ?_)
  refine W.eq (g2 := F0 m 237 ls []) rfl ?_
  refine W.widen (k := 28) (n := 6066) (Nat.le_of_ble_eq_true rfl) (Nat.le_of_ble_eq_true rfl) ?_
  refine lv_aload_n C.1.1 C.1.2.1 dX7_init_237 rfl (lv_at hl 0 rfl) ?_
  refine lv_bipush (v := 10) C.1.1 C.1.2.1 dX7_init_238 (by decide) ?_
  refine r_na (atype := .int) (ty := .int) (t := 8) (N := 10) (n := 29) (kl' := [(7, 55), (10, 1220), (10, 1200), (9, 10), (9, 50), (8, 10), (8, 10), (8, 50), (8, 32), (8, 32), (8, 160), (8, 160), (8, 2), (8, 2), (8, 2), (8, 20), (8, 20), (8, 20), (8, 20), (8, 20), (8, 20), (8, 1200), (8, 1200), (8, 80), (8, 80), (8, 320), (8, 60), (11, 50), (8, 16), (8, 10)]) C hw h0 hL (by rfl) rfl (Or.inl ⟨rfl, rfl⟩) kz197 (by rfl) (by rfl) (by decide) (by decide) (by decide) (by decide) (Nat.le_of_ble_eq_true rfl) (Nat.le_of_ble_eq_true rfl) fX7_316 rfl (fun _ => ⟨rfl, rfl⟩) (Or.inr ⟨rfl, rfl⟩) (by decide) dX7_init_240 dX7_init_242 (fun hr ad H locs h0 hL hw => ?_)
  refine lt_gen (P := fun g => WS D cA ev hr ad A ([(7, 55), (10, 1220), (10, 1200), (9, 10), (9, 50), (8, 10), (8, 10), (8, 50), (8, 32), (8, 32), (8, 160), (8, 160), (8, 2), (8, 2), (8, 2), (8, 20), (8, 20), (8, 20), (8, 20), (8, 20), (8, 20), (8, 1200), (8, 1200), (8, 80), (8, 80), (8, 320), (8, 60), (11, 50), (8, 16), (8, 10)]) s H locs g) h hw (fun g_30 h hw => ?_)
  refine W.eq (g2 := F0 m 245 ls []) rfl ?_
  refine W.widen (k := 29) (n := 6076) (Nat.le_of_ble_eq_true rfl) (Nat.le_of_ble_eq_true rfl) ?_
  refine lv_aload_n C.1.1 C.1.2.1 dX7_init_245 rfl (lv_at hl 0 rfl) ?_
  refine lv_sipush (v := 160) C.1.1 C.1.2.1 dX7_init_246 (by decide) ?_
  refine r_na (atype := .int) (ty := .int) (t := 8) (N := 160) (n := 30) (kl' := [(7, 55), (10, 1220), (10, 1200), (9, 10), (9, 50), (8, 10), (8, 10), (8, 50), (8, 32), (8, 32), (8, 160), (8, 160), (8, 2), (8, 2), (8, 2), (8, 20), (8, 20), (8, 20), (8, 20), (8, 20), (8, 20), (8, 1200), (8, 1200), (8, 80), (8, 80), (8, 320), (8, 60), (11, 50), (8, 16), (8, 10), (8, 160)]) C hw h0 hL (by rfl) rfl (Or.inl ⟨rfl, rfl⟩) kz197 (by rfl) (by rfl) (by decide) (by decide) (by decide) (by decide) (Nat.le_of_ble_eq_true rfl) (Nat.le_of_ble_eq_true rfl) fX7_319 rfl (fun _ => ⟨rfl, rfl⟩) (Or.inr ⟨rfl, rfl⟩) (by decide) dX7_init_249 dX7_init_251 (fun hr ad H locs h0 hL hw => ?_)
  refine lt_gen (P := fun g => WS D cA ev hr ad A ([(7, 55), (10, 1220), (10, 1200), (9, 10), (9, 50), (8, 10), (8, 10), (8, 50), (8, 32), (8, 32), (8, 160), (8, 160), (8, 2), (8, 2), (8, 2), (8, 20), (8, 20), (8, 20), (8, 20), (8, 20), (8, 20), (8, 1200), (8, 1200), (8, 80), (8, 80), (8, 320), (8, 60), (11, 50), (8, 16), (8, 10), (8, 160)]) s H locs g) h hw (fun g_31 h hw => ?_)
  refine W.eq (g2 := F0 m 254 ls []) rfl ?_
  refine W.widen (k := 30) (n := 6236) (Nat.le_of_ble_eq_true rfl) (Nat.le_of_ble_eq_true rfl) ?_
  refine lv_aload_n C.1.1 C.1.2.1 dX7_init_254 rfl (lv_at hl 0 rfl) ?_
  refine lv_bipush (v := 16) C.1.1 C.1.2.1 dX7_init_255 (by decide) ?_
  refine r_na (atype := .int) (ty := .int) (t := 8) (N := 16) (n := 31) (kl' := [(7, 55), (10, 1220), (10, 1200), (9, 10), (9, 50), (8, 10), (8, 10), (8, 50), (8, 32), (8, 32), (8, 160), (8, 160), (8, 2), (8, 2), (8, 2), (8, 20), (8, 20), (8, 20), (8, 20), (8, 20), (8, 20), (8, 1200), (8, 1200), (8, 80), (8, 80), (8, 320), (8, 60), (11, 50), (8, 16), (8, 10), (8, 160), (8, 16)]) C hw h0 hL (by rfl) rfl (Or.inl ⟨rfl, rfl⟩) kz197 (by rfl) (by rfl) (by decide) (by decide) (by decide) (by decide) (Nat.le_of_ble_eq_true rfl) (Nat.le_of_ble_eq_true rfl) fX7_343 rfl (fun _ => ⟨rfl, rfl⟩) (Or.inr ⟨rfl, rfl⟩) (by decide) dX7_init_257 dX7_init_259 (fun hr ad H locs h0 hL hw => ?_)
  refine lt_gen (P := fun g => WS D cA ev hr ad A ([(7, 55), (10, 1220), (10, 1200), (9, 10), (9, 50), (8, 10), (8, 10), (8, 50), (8, 32), (8, 32), (8, 160), (8, 160), (8, 2), (8, 2), (8, 2), (8, 20), (8, 20), (8, 20), (8, 20), (8, 20), (8, 20), (8, 1200), (8, 1200), (8, 80), (8, 80), (8, 320), (8, 60), (11, 50), (8, 16), (8, 10), (8, 160), (8, 16)]) s H locs g) h hw (fun g_32 h hw => ?_)
  refine W.eq (g2 := F0 m 262 ls []) rfl ?_
  refine W.widen (k := 31) (n := 6252) (Nat.le_of_ble_eq_true rfl) (Nat.le_of_ble_eq_true rfl) ?_
  refine lv_aload_n C.1.1 C.1.2.1 dX7_init_262 rfl (lv_at hl 0 rfl) ?_
  refine lv_bipush (v := 25) C.1.1 C.1.2.1 dX7_init_263 (by decide) ?_
  refine r_na (atype := .int) (ty := .int) (t := 8) (N := 25) (n := 32) (kl' := KM) C hw h0 hL (by rfl) rfl (Or.inl ⟨rfl, rfl⟩) kz197 (by rfl) (by rfl) (by decide) (by decide) (by decide) (by decide) (Nat.le_of_ble_eq_true rfl) (Nat.le_of_ble_eq_true rfl) fX7_150 rfl (fun _ => ⟨rfl, rfl⟩) (Or.inr ⟨rfl, rfl⟩) (by decide) dX7_init_265 dX7_init_267 (fun hr ad H locs h0 hL hw => ?_)
  refine lt_gen (P := fun g => WS D cA ev hr ad A KM s H locs g) h hw (fun g_33 h hw => ?_)
  refine W.eq (g2 := F0 m 270 ls []) rfl ?_
  refine W.widen (k := 32) (n := 6277) (Nat.le_of_ble_eq_true rfl) (Nat.le_of_ble_eq_true rfl) ?_
  refine lv_iconst (v := 0) C.1.1 C.1.2.1 dX7_init_270 (by decide) ?_
  refine lv_istore_n (lv' := [(1, .int 0), (0, .ref a)]) C.1.1 C.1.2.1 dX7_init_271 rfl hl (by decide) rfl (fun ls hl => ?_)
  exact wl_X7_init_272L C ⟨hm_of hL, h0, hL⟩ FU _ _ _ _ _ hw (by rw [← h0] at hl; exact lv_sub hl [1, 0] rfl) h
theorem c_X7_init {a : Nat} (h0 : ad 0 = a) {g gz : GM} (h : F_X7_init g = some gz) (sz : Nat) : Met l yX7_init (WSX yX7_init cX7_init 2 none) (RM 3 32 6277) (va_Pc [.ref a] (PX D cA ev hr ad [(7, 55)] g sz)) (QVH D cA ev a 33 HLMf (AX ad 1 sz) KM gz) 32 6277 (AX ad 1 sz) :=
  met_of (kl := [(7, 55)]) (own := RX7) pnX7 rfl (Nat.le_of_ble_eq_true rfl) (fun p e s m below meth c ls C hw hsz hl => w_X7_init_0 C hw h0 hl h)
end WX7i

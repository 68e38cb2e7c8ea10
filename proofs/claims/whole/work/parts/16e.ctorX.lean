def HLXf : List (Nat × Nat × Nat) := [(0, 6, 35), (35, 1, 36), (35, 2, 37), (35, 3, 38), (35, 5, 39), (35, 6, 40), (35, 7, 41), (0, 5, 28), (28, 1, 29), (28, 2, 30), (28, 3, 31), (28, 5, 32), (28, 6, 33), (28, 7, 34), (0, 4, 17), (17, 1, 18), (17, 2, 19), (17, 3, 20), (17, 4, 21), (17, 5, 22), (17, 7, 23), (17, 8, 24), (17, 9, 25), (17, 10, 26), (17, 11, 27), (0, 3, 6), (6, 1, 7), (6, 2, 8), (6, 3, 9), (6, 4, 10), (6, 5, 11), (6, 7, 12), (6, 8, 13), (6, 9, 14), (6, 10, 15), (6, 11, 16), (0, 2, 5), (0, 1, 4), (0, 0, 1), (1, 0, 2), (1, 1, 3)]
theorem hx_of {hr : Nat → Nat → Value} {ad : Nat → Nat} (h : HF hr ad 42 HLXf) : HX hr ad := by
  intro q hq
  have h1 : ∀ q ∈ HLX, q ∈ HLXf := by decide
  exact (h _ (h1 q hq)).2.2
theorem fac_1 (hr : Nat → Nat → Value) (a : Nat → Nat) : (∀ i, i < 1 → hr_X4_init_1 hr a i = hr i) ∧ HF (hr_X4_init_1 hr a) a 4 [(1, 0, 2), (1, 1, 3)] := by
  refine ⟨fun i hi => ?_, ?_⟩
  · funext k
    simp only [hr_X4_init_1, ur, un]
    repeat rw [if_neg (by omega)]
  · exact List.forall_mem_cons.mpr ⟨⟨by decide, by decide, rfl⟩, List.forall_mem_cons.mpr ⟨⟨by decide, by decide, rfl⟩, HF.nil⟩⟩
theorem fac_6 (hr : Nat → Nat → Value) (a : Nat → Nat) : (∀ i, i < 6 → hr_X2_init_6 hr a i = hr i) ∧ HF (hr_X2_init_6 hr a) a 17 [(6, 1, 7), (6, 2, 8), (6, 3, 9), (6, 4, 10), (6, 5, 11), (6, 7, 12), (6, 8, 13), (6, 9, 14), (6, 10, 15), (6, 11, 16)] := by
  refine ⟨fun i hi => ?_, ?_⟩
  · funext k
    simp only [hr_X2_init_6, ur, un]
    repeat rw [if_neg (by omega)]
  · exact List.forall_mem_cons.mpr ⟨⟨by decide, by decide, rfl⟩, List.forall_mem_cons.mpr ⟨⟨by decide, by decide, rfl⟩, List.forall_mem_cons.mpr ⟨⟨by decide, by decide, rfl⟩, List.forall_mem_cons.mpr ⟨⟨by decide, by decide, rfl⟩, List.forall_mem_cons.mpr ⟨⟨by decide, by decide, rfl⟩, List.forall_mem_cons.mpr ⟨⟨by decide, by decide, rfl⟩, List.forall_mem_cons.mpr ⟨⟨by decide, by decide, rfl⟩, List.forall_mem_cons.mpr ⟨⟨by decide, by decide, rfl⟩, List.forall_mem_cons.mpr ⟨⟨by decide, by decide, rfl⟩, List.forall_mem_cons.mpr ⟨⟨by decide, by decide, rfl⟩, HF.nil⟩⟩⟩⟩⟩⟩⟩⟩⟩⟩
theorem fac_17 (hr : Nat → Nat → Value) (a : Nat → Nat) : (∀ i, i < 17 → hr_X2_init_17 hr a i = hr i) ∧ HF (hr_X2_init_17 hr a) a 28 [(17, 1, 18), (17, 2, 19), (17, 3, 20), (17, 4, 21), (17, 5, 22), (17, 7, 23), (17, 8, 24), (17, 9, 25), (17, 10, 26), (17, 11, 27)] := by
  refine ⟨fun i hi => ?_, ?_⟩
  · funext k
    simp only [hr_X2_init_17, ur, un]
    repeat rw [if_neg (by omega)]
  · exact List.forall_mem_cons.mpr ⟨⟨by decide, by decide, rfl⟩, List.forall_mem_cons.mpr ⟨⟨by decide, by decide, rfl⟩, List.forall_mem_cons.mpr ⟨⟨by decide, by decide, rfl⟩, List.forall_mem_cons.mpr ⟨⟨by decide, by decide, rfl⟩, List.forall_mem_cons.mpr ⟨⟨by decide, by decide, rfl⟩, List.forall_mem_cons.mpr ⟨⟨by decide, by decide, rfl⟩, List.forall_mem_cons.mpr ⟨⟨by decide, by decide, rfl⟩, List.forall_mem_cons.mpr ⟨⟨by decide, by decide, rfl⟩, List.forall_mem_cons.mpr ⟨⟨by decide, by decide, rfl⟩, List.forall_mem_cons.mpr ⟨⟨by decide, by decide, rfl⟩, HF.nil⟩⟩⟩⟩⟩⟩⟩⟩⟩⟩
theorem fac_28 (hr : Nat → Nat → Value) (a : Nat → Nat) : (∀ i, i < 28 → hr_X1_init_28 hr a i = hr i) ∧ HF (hr_X1_init_28 hr a) a 35 [(28, 1, 29), (28, 2, 30), (28, 3, 31), (28, 5, 32), (28, 6, 33), (28, 7, 34)] := by
  refine ⟨fun i hi => ?_, ?_⟩
  · funext k
    simp only [hr_X1_init_28, ur, un]
    repeat rw [if_neg (by omega)]
  · exact List.forall_mem_cons.mpr ⟨⟨by decide, by decide, rfl⟩, List.forall_mem_cons.mpr ⟨⟨by decide, by decide, rfl⟩, List.forall_mem_cons.mpr ⟨⟨by decide, by decide, rfl⟩, List.forall_mem_cons.mpr ⟨⟨by decide, by decide, rfl⟩, List.forall_mem_cons.mpr ⟨⟨by decide, by decide, rfl⟩, List.forall_mem_cons.mpr ⟨⟨by decide, by decide, rfl⟩, HF.nil⟩⟩⟩⟩⟩⟩
theorem fac_35 (hr : Nat → Nat → Value) (a : Nat → Nat) : (∀ i, i < 35 → hr_X1_init_35 hr a i = hr i) ∧ HF (hr_X1_init_35 hr a) a 42 [(35, 1, 36), (35, 2, 37), (35, 3, 38), (35, 5, 39), (35, 6, 40), (35, 7, 41)] := by
  refine ⟨fun i hi => ?_, ?_⟩
  · funext k
    simp only [hr_X1_init_35, ur, un]
    repeat rw [if_neg (by omega)]
  · exact List.forall_mem_cons.mpr ⟨⟨by decide, by decide, rfl⟩, List.forall_mem_cons.mpr ⟨⟨by decide, by decide, rfl⟩, List.forall_mem_cons.mpr ⟨⟨by decide, by decide, rfl⟩, List.forall_mem_cons.mpr ⟨⟨by decide, by decide, rfl⟩, List.forall_mem_cons.mpr ⟨⟨by decide, by decide, rfl⟩, List.forall_mem_cons.mpr ⟨⟨by decide, by decide, rfl⟩, HF.nil⟩⟩⟩⟩⟩⟩
def F_X6_init (g : GM) : Option GM :=
  (F_X4_init_1 (zi g 1)).bind fun g_1 =>
  lt (zi g_1 4) fun g_2 =>
  lt (zi g_2 5) fun g_3 =>
  (F_X2_init_6 (zi g_3 6)).bind fun g_4 =>
  (F_X2_init_17 (zi g_4 17)).bind fun g_5 =>
  (F_X1_init_28 (zi g_5 28)).bind fun g_6 =>
  (F_X1_init_35 (zi g_6 35)).bind fun g_7 =>
  (F_J7_fill_53178_4 (-1) g_7).bind fun g_8 =>
  some g_8
section WX6i
variable {p : Program} {l : Launch} {e : Env} {s : State} {m : MethodId} {args : Array Value} {below : List Frame} {meth : Method} {c : Code} {D : va_G} {cA : Nat → ClassId} {ev : EVa} {hr : Nat → Nat → Value} {ad : Nat → Nat} {A : Nat → Prop} {a : Nat}
set_option maxHeartbeats 4000000 in
set_option maxRecDepth 100000 in
theorem w_X6_init_0 (C : CX p s m args meth c RX6 yX6_init cX6_init 1 none D cA) {a : Nat} {H : Heap} {locs : List Loc} {g : GM} (hw : WS D cA ev hr ad A [(6, 14)] s H locs g) (h0 : ad 0 = a) {ls : Array Slot} (hl : lv_has ls 1 [(0, .ref a)]) {gz : GM} (h : F_X6_init g = some gz) : W p l e (RM 12 41 2869) s m args below meth c H locs 0 0 (MQ below (QVH D cA ev a 42 HLXf A (KX ++ []) gz) args s 41 2869 A) (F0 m 0 ls []) := by
  have hL : HF hr ad 1 [] := HF.nil
  unfold F_X6_init at h
  refine lv_aload_n C.1.1 C.1.2.1 dX6_init_0 rfl (lv_at hl 0 rfl) ?_
  refine r_obj C kz22 hl.1 dX6_init_1 (Nat.le_of_ble_eq_true rfl) (Nat.le_of_ble_eq_true rfl) ?_
  refine lv_aload_n C.1.1 C.1.2.1 dX6_init_4 rfl (lv_at hl 0 rfl) ?_
  obtain ⟨g_1, hc, h⟩ := bnd_some h
  refine r_nc (c1 := 4) (n := 1) (kl1 := [(6, 14), (4, 11)]) (kl2 := [(6, 14), (4, 11), (10, 1200), (9, 11)]) (n2 := 4) (hrf := hr_X4_init_1) (dc := 8) C hw h0 hL (by decide) kz25 kz26 kz2 (by rfl) (by rfl) (by decide) iX6_9 (fun q sz => c_X4_init_1 hc sz) fac_1 (by decide) (by rfl) fX6_10 rfl (fun _ => ⟨rfl, rfl⟩) (Or.inr ⟨rfl, rfl⟩) (by decide) (by decide) hl.1 (Nat.le_of_ble_eq_true rfl) (by decide) (by decide) dX6_init_5 dX6_init_8 dX6_init_9 dX6_init_12 (fun hr ad H locs h0 hL hw => ?_)
  refine W.eq (g2 := F0 m 15 ls []) rfl ?_
  refine W.widen (k := 3) (n := 1222) (Nat.le_of_ble_eq_true rfl) (Nat.le_of_ble_eq_true rfl) ?_
  refine lv_aload_n C.1.1 C.1.2.1 dX6_init_15 rfl (lv_at hl 0 rfl) ?_
  refine lv_bipush (v := 25) C.1.1 C.1.2.1 dX6_init_16 (by decide) ?_
  refine r_na (atype := .int) (ty := .int) (t := 8) (N := 25) (n := 4) (kl' := [(6, 14), (4, 11), (10, 1200), (9, 11), (8, 25)]) C hw h0 hL (by rfl) rfl (Or.inl ⟨rfl, rfl⟩) kz197 (by rfl) (by rfl) (by decide) (by decide) (by decide) (by decide) (Nat.le_of_ble_eq_true rfl) (Nat.le_of_ble_eq_true rfl) fX6_16 rfl (fun _ => ⟨rfl, rfl⟩) (Or.inr ⟨rfl, rfl⟩) (by decide) dX6_init_18 dX6_init_20 (fun hr ad H locs h0 hL hw => ?_)
  refine lt_gen (P := fun g => WS D cA ev hr ad A ([(6, 14), (4, 11), (10, 1200), (9, 11), (8, 25)]) s H locs g) h hw (fun g_2 h hw => ?_)
  refine W.eq (g2 := F0 m 23 ls []) rfl ?_
  refine W.widen (k := 4) (n := 1247) (Nat.le_of_ble_eq_true rfl) (Nat.le_of_ble_eq_true rfl) ?_
  refine lv_aload_n C.1.1 C.1.2.1 dX6_init_23 rfl (lv_at hl 0 rfl) ?_
  refine lv_bipush (v := 16) C.1.1 C.1.2.1 dX6_init_24 (by decide) ?_
  refine r_na (atype := .int) (ty := .int) (t := 8) (N := 16) (n := 5) (kl' := [(6, 14), (4, 11), (10, 1200), (9, 11), (8, 25), (8, 16)]) C hw h0 hL (by rfl) rfl (Or.inl ⟨rfl, rfl⟩) kz197 (by rfl) (by rfl) (by decide) (by decide) (by decide) (by decide) (Nat.le_of_ble_eq_true rfl) (Nat.le_of_ble_eq_true rfl) fX6_20 rfl (fun _ => ⟨rfl, rfl⟩) (Or.inr ⟨rfl, rfl⟩) (by decide) dX6_init_26 dX6_init_28 (fun hr ad H locs h0 hL hw => ?_)
  refine lt_gen (P := fun g => WS D cA ev hr ad A ([(6, 14), (4, 11), (10, 1200), (9, 11), (8, 25), (8, 16)]) s H locs g) h hw (fun g_3 h hw => ?_)
  refine W.eq (g2 := F0 m 31 ls []) rfl ?_
  refine W.widen (k := 5) (n := 1263) (Nat.le_of_ble_eq_true rfl) (Nat.le_of_ble_eq_true rfl) ?_
  refine lv_aload_n C.1.1 C.1.2.1 dX6_init_31 rfl (lv_at hl 0 rfl) ?_
  obtain ⟨g_4, hc, h⟩ := bnd_some h
  refine r_nc (c1 := 2) (n := 6) (kl1 := [(6, 14), (4, 11), (10, 1200), (9, 11), (8, 25), (8, 16), (2, 12)]) (kl2 := [(6, 14), (4, 11), (10, 1200), (9, 11), (8, 25), (8, 16), (2, 12), (9, 5), (8, 5), (8, 5), (9, 25), (8, 25), (8, 16), (8, 16), (8, 80), (8, 80), (8, 16)]) (n2 := 17) (hrf := hr_X2_init_6) (dc := 2) C hw h0 hL (by decide) kz131 kz132 kz7 (by rfl) (by rfl) (by decide) iX6_25 (fun q sz => c_X2_init_6 hc sz) fac_6 (by decide) (by rfl) fX6_26 rfl (fun _ => ⟨rfl, rfl⟩) (Or.inl rfl) (by decide) (by decide) hl.1 (Nat.le_of_ble_eq_true rfl) (by decide) (by decide) dX6_init_32 dX6_init_35 dX6_init_36 dX6_init_39 (fun hr ad H locs h0 hL hw => ?_)
  refine W.eq (g2 := F0 m 42 ls []) rfl ?_
  refine W.widen (k := 16) (n := 1548) (Nat.le_of_ble_eq_true rfl) (Nat.le_of_ble_eq_true rfl) ?_
  refine lv_aload_n C.1.1 C.1.2.1 dX6_init_42 rfl (lv_at hl 0 rfl) ?_
  obtain ⟨g_5, hc, h⟩ := bnd_some h
  refine r_nc (c1 := 2) (n := 17) (kl1 := [(6, 14), (4, 11), (10, 1200), (9, 11), (8, 25), (8, 16), (2, 12), (9, 5), (8, 5), (8, 5), (9, 25), (8, 25), (8, 16), (8, 16), (8, 80), (8, 80), (8, 16), (2, 12)]) (kl2 := [(6, 14), (4, 11), (10, 1200), (9, 11), (8, 25), (8, 16), (2, 12), (9, 5), (8, 5), (8, 5), (9, 25), (8, 25), (8, 16), (8, 16), (8, 80), (8, 80), (8, 16), (2, 12), (9, 5), (8, 5), (8, 5), (9, 25), (8, 25), (8, 16), (8, 16), (8, 80), (8, 80), (8, 16)]) (n2 := 28) (hrf := hr_X2_init_17) (dc := 2) C hw h0 hL (by decide) kz131 kz132 kz7 (by rfl) (by rfl) (by decide) iX6_25 (fun q sz => c_X2_init_17 hc sz) fac_17 (by decide) (by rfl) fX6_30 rfl (fun _ => ⟨rfl, rfl⟩) (Or.inl rfl) (by decide) (by decide) hl.1 (Nat.le_of_ble_eq_true rfl) (by decide) (by decide) dX6_init_43 dX6_init_46 dX6_init_47 dX6_init_50 (fun hr ad H locs h0 hL hw => ?_)
  refine W.eq (g2 := F0 m 53 ls []) rfl ?_
  refine W.widen (k := 27) (n := 1833) (Nat.le_of_ble_eq_true rfl) (Nat.le_of_ble_eq_true rfl) ?_
  refine lv_aload_n C.1.1 C.1.2.1 dX6_init_53 rfl (lv_at hl 0 rfl) ?_
  obtain ⟨g_6, hc, h⟩ := bnd_some h
  refine r_nc (c1 := 1) (n := 28) (kl1 := [(6, 14), (4, 11), (10, 1200), (9, 11), (8, 25), (8, 16), (2, 12), (9, 5), (8, 5), (8, 5), (9, 25), (8, 25), (8, 16), (8, 16), (8, 80), (8, 80), (8, 16), (2, 12), (9, 5), (8, 5), (8, 5), (9, 25), (8, 25), (8, 16), (8, 16), (8, 80), (8, 80), (8, 16), (1, 8)]) (kl2 := [(6, 14), (4, 11), (10, 1200), (9, 11), (8, 25), (8, 16), (2, 12), (9, 5), (8, 5), (8, 5), (9, 25), (8, 25), (8, 16), (8, 16), (8, 80), (8, 80), (8, 16), (2, 12), (9, 5), (8, 5), (8, 5), (9, 25), (8, 25), (8, 16), (8, 16), (8, 80), (8, 80), (8, 16), (1, 8), (11, 10), (8, 10), (8, 10), (8, 160), (8, 160), (8, 160)]) (n2 := 35) (hrf := hr_X1_init_28) (dc := 2) C hw h0 hL (by decide) kz198 kz199 kz8 (by rfl) (by rfl) (by decide) iX6_35 (fun q sz => c_X1_init_28 hc sz) fac_28 (by decide) (by rfl) fX6_36 rfl (fun _ => ⟨rfl, rfl⟩) (Or.inl rfl) (by decide) (by decide) hl.1 (Nat.le_of_ble_eq_true rfl) (by decide) (by decide) dX6_init_54 dX6_init_57 dX6_init_58 dX6_init_61 (fun hr ad H locs h0 hL hw => ?_)
  refine W.eq (g2 := F0 m 64 ls []) rfl ?_
  refine W.widen (k := 34) (n := 2351) (Nat.le_of_ble_eq_true rfl) (Nat.le_of_ble_eq_true rfl) ?_
  refine lv_aload_n C.1.1 C.1.2.1 dX6_init_64 rfl (lv_at hl 0 rfl) ?_
  obtain ⟨g_7, hc, h⟩ := bnd_some h
  refine r_nc (c1 := 1) (n := 35) (kl1 := [(6, 14), (4, 11), (10, 1200), (9, 11), (8, 25), (8, 16), (2, 12), (9, 5), (8, 5), (8, 5), (9, 25), (8, 25), (8, 16), (8, 16), (8, 80), (8, 80), (8, 16), (2, 12), (9, 5), (8, 5), (8, 5), (9, 25), (8, 25), (8, 16), (8, 16), (8, 80), (8, 80), (8, 16), (1, 8), (11, 10), (8, 10), (8, 10), (8, 160), (8, 160), (8, 160), (1, 8)]) (kl2 := KX ++ []) (n2 := 42) (hrf := hr_X1_init_35) (dc := 2) C hw h0 hL (by decide) kz198 kz199 kz8 (by rfl) (by rfl) (by decide) iX6_35 (fun q sz => c_X1_init_35 hc sz) fac_35 (by decide) (by rfl) fX6_40 rfl (fun _ => ⟨rfl, rfl⟩) (Or.inl rfl) (by decide) (by decide) hl.1 (Nat.le_of_ble_eq_true rfl) (by decide) (by decide) dX6_init_65 dX6_init_68 dX6_init_69 dX6_init_72 (fun hr ad H locs h0 hL hw => ?_)
  refine W.eq (g2 := F0 m 75 ls []) rfl ?_
  refine W.widen (k := 41) (n := 2869) (Nat.le_of_ble_eq_true rfl) (Nat.le_of_ble_eq_true rfl) ?_
  refine lv_aload_n C.1.1 C.1.2.1 dX6_init_75 rfl (lv_at hl 0 rfl) ?_
  have hx := hx_of hL
  refine r_getRa (i := 0) (v := .ref (ad 4)) C hw h0 (by rfl) fX6_16 rfl (hx0_1 hx) dX6_init_76 ?_
  refine lv_iconst (v := (-1)) C.1.1 C.1.2.1 dX6_init_79 (by decide) ?_
  obtain ⟨g_8, hc, h⟩ := bnd_some h
  refine r_sV (dc := 1) (As := [.ref (ad 4), .int (-1)]) (rest := []) C hw sX6_43 (fun sz => c_J7_fill_53178_4 hx hc sz) (by decide) rfl rfl hl.1 (Nat.le_of_ble_eq_true rfl) dX6_init_80 (by decide) (fun H locs hw => ?_)
  cases h
  exact r_vretH C hw h0 hL rfl dX6_init_83
theorem c_X6_init {a : Nat} (h0 : ad 0 = a) {g gz : GM} (h : F_X6_init g = some gz) (sz : Nat) : Met l yX6_init (WSX yX6_init cX6_init 1 none) (RM 12 41 2869) (va_Pc [.ref a] (PX D cA ev hr ad [(6, 14)] g sz)) (QVH D cA ev a 42 HLXf (AX ad 1 sz) (KX ++ []) gz) 41 2869 (AX ad 1 sz) :=
  met_of (kl := [(6, 14)]) (own := RX6) pnX6 rfl (Nat.le_of_ble_eq_true rfl) (fun p e s m below meth c ls C hw hsz hl => w_X6_init_0 C hw h0 hl h)
end WX6i

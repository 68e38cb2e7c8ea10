theorem kc603 : Cond.constant RJ6 265 (1431655765) ∈ lw_ok := ok_t3 (i := 123) ⟨rfl, rfl⟩
theorem kc604 : Cond.constant RJ6 266 (858993459) ∈ lw_ok := ok_t3 (i := 124) ⟨rfl, rfl⟩
theorem kc605 : Cond.constant RJ6 267 (252645135) ∈ lw_ok := ok_t3 (i := 125) ⟨rfl, rfl⟩
def F_J9_max_7cf53 (a0 : Int32) (a1 : Int32) : Option (Int32) :=
  if a0 < a1 then
    some a1
  else
    some a0

def F_J9_min_7cf53 (a0 : Int32) (a1 : Int32) : Option (Int32) :=
  if a1 < a0 then
    some a1
  else
    some a0

def F_J6_bitCount_0f7a4 (a0 : Int32) : Option (Int32) :=
  lt (a0 - (((a0.toUInt32 >>> ((1 : Int32).toUInt32 &&& Int32.toUInt32 31)).toInt32) &&& 1431655765)) fun x0_1 =>
  lt ((x0_1 &&& 858993459) + (((x0_1.toUInt32 >>> ((2 : Int32).toUInt32 &&& Int32.toUInt32 31)).toInt32) &&& 858993459)) fun x0_2 =>
  lt ((x0_2 + ((x0_2.toUInt32 >>> ((4 : Int32).toUInt32 &&& Int32.toUInt32 31)).toInt32)) &&& 252645135) fun x0_3 =>
  lt (x0_3 + ((x0_3.toUInt32 >>> ((8 : Int32).toUInt32 &&& Int32.toUInt32 31)).toInt32)) fun x0_4 =>
  lt (x0_4 + ((x0_4.toUInt32 >>> ((16 : Int32).toUInt32 &&& Int32.toUInt32 31)).toInt32)) fun x0_5 =>
  some (x0_5 &&& 63)

def F_J1_canEncode_9a6ad_15 : Option (Int32) :=
  some 0
def F_J1_canEncode_9a6ad (a0 : Int32) : Option (Int32) :=
  if a0 < 0 then
    F_J1_canEncode_9a6ad_15
  else
    if 255 < a0 then
      F_J1_canEncode_9a6ad_15
    else
      some 1

def F_J0_isLatin1_aae02_17 (j : Nat) : Option (Int32) :=
  some 0
def F_J0_isLatin1_aae02 (j : Nat) : Option (Int32) :=
  if (1 : Int32) = 0 then
    F_J0_isLatin1_aae02_17 j
  else
    if (0 : Int32) = 0 then
      some 1
    else
      F_J0_isLatin1_aae02_17 j

def F_J0_coder_7d493 (j : Nat) : Option (Int32) :=
  if (1 : Int32) = 0 then
    some 1
  else
    some 0

def F_J0_length_8abf5 (j : Nat) : Option (Int32) :=
  (F_J0_coder_7d493 j).bind fun r_1 =>
  some ((nI (SLEN.getD j 0)) >>> (r_1 &&& 31))

def F_J1_indexOfChar_4cfef_7B (j : Nat) (x3 : Int32) (x4 : Int32) (kb7 : Int32 → Option (Int32)) : Int32 → Option (Int32) := fun x5 =>
  if x3 ≤ x5 then
    some ((-1))
  else
    ckB (inB x5 (SLEN.getD j 0)) <|
    if ((SBYT.getD j []).getD x5.toNatClampNeg 0) = x4 then
      some x5
    else
      lt (x5 + 1) fun x5_1 =>
      kb7 x5_1
def F_J1_indexOfChar_4cfef (j : Nat) (a1 : Int32) (a2 : Int32) (a3 : Int32) : Option (Int32) :=
  lt a1.toInt8.toInt32 fun x4_2 =>
  fixN (F_J1_indexOfChar_4cfef_7B j a3 x4_2) FU a2

def F_J1_indexOf_4cfef (j : Nat) (a1 : Int32) (a2 : Int32) (a3 : Int32) : Option (Int32) :=
  (F_J1_canEncode_9a6ad a1).bind fun r_1 =>
  if r_1 = 0 then
    some ((-1))
  else
    (F_J9_max_7cf53 a2 0).bind fun r_2 =>
    lt r_2 fun x2_3 =>
    (F_J9_min_7cf53 a3 (nI (SLEN.getD j 0))).bind fun r_4 =>
    lt r_4 fun x3_5 =>
    if x2_3 < x3_5 then
      (F_J1_indexOfChar_4cfef j a1 x2_3 x3_5).bind fun r_6 =>
      some r_6
    else
      some ((-1))

def F_J0_indexOf_7cf53 (j : Nat) (a1 : Int32) (a2 : Int32) : Option (Int32) :=
  (F_J0_isLatin1_aae02 j).bind fun r_1 =>
  if r_1 = 0 then
    (F_J0_length_8abf5 j).bind fun r_2 =>
    none
  else
    (F_J0_length_8abf5 j).bind fun r_3 =>
    (F_J1_indexOf_4cfef j a1 a2 r_3).bind fun r_4 =>
    some r_4

def F_J0_indexOf_0f7a4 (j : Nat) (a1 : Int32) : Option (Int32) :=
  (F_J0_indexOf_7cf53 j a1 0).bind fun r_1 =>
  some r_1

def F_J3_checkIndex_8e157_n_9 (x0 : Int32) (x1 : Int32) : Option (Int32) :=
  none
def F_J3_checkIndex_8e157_n (a0 : Int32) (a1 : Int32) : Option (Int32) :=
  if a0 < 0 then
    F_J3_checkIndex_8e157_n_9 a0 a1
  else
    if a0 < a1 then
      some a0
    else
      F_J3_checkIndex_8e157_n_9 a0 a1

def F_J3_checkIndex_8e157_r_9 (x0 : Int32) (x1 : Int32) : Option (Int32) :=
  none
def F_J3_checkIndex_8e157_r (a0 : Int32) (a1 : Int32) : Option (Int32) :=
  if a0 < 0 then
    F_J3_checkIndex_8e157_r_9 a0 a1
  else
    if a0 < a1 then
      some a0
    else
      F_J3_checkIndex_8e157_r_9 a0 a1

def F_J0_checkIndex_df160 (a0 : Int32) (a1 : Int32) : Option (Unit) := (F_J3_checkIndex_8e157_n a0 a1).bind fun _ => some ()

def F_J1_charAt_3b067 (j : Nat) (a1 : Int32) : Option (Int32) :=
  (F_J0_checkIndex_df160 a1 (nI (SLEN.getD j 0))).bind fun _ =>
  ckB (inB a1 (SLEN.getD j 0)) <|
  ckB (chB (((((SBYT.getD j []).getD a1.toNatClampNeg 0) &&& 255).toUInt32 % 65536).toInt32)) <|
  some (((((SBYT.getD j []).getD a1.toNatClampNeg 0) &&& 255).toUInt32 % 65536).toInt32)

def F_J0_charAt_5068e (j : Nat) (a1 : Int32) : Option (Int32) :=
  (F_J0_isLatin1_aae02 j).bind fun r_1 =>
  if r_1 = 0 then
    none
  else
    (F_J1_charAt_3b067 j a1).bind fun r_2 =>
    ckB (chB r_2) <|
    some r_2

section WJ
variable {p : Program} {l : Launch} {e : Env} {s : State} {m : MethodId} {args : Array Value} {below : List Frame} {meth : Method} {c : Code} {D : va_G} {cA : Nat → ClassId} {ev : EVa} {hr : Nat → Nat → Value} {ad : Nat → Nat} {A : Nat → Prop} {kl : List (Nat × Nat)} {j q : Nat}
set_option maxHeartbeats 4000000 in
set_option maxRecDepth 100000 in
theorem w_J9_max_7cf53_0 (C : CX p s m args meth c RJ9 yJ9_max_7cf53 cJ9_max_7cf53 2 (some .int) D cA) (hx : True) {H : Heap} {locs : List Loc} {g : GM} (hw : WS D cA ev hr ad A kl s H locs g) {a0 : Int32} {a1 : Int32} {ls : Array Slot} (hl : lv_has ls 2 [(0, .int a0), (1, .int a1)]) {r : Int32} (h : F_J9_max_7cf53 a0 a1 = some r) : W p l e (RM 1 0 0) s m args below meth c H locs 0 0 (MQ below (QI D cA ev hr ad A kl r g) args s 0 0 A) (F0 m 0 ls []) := by
  refine lv_iload_n C.1.1 C.1.2.1 dJ9_max_7cf53_0 rfl (lv_at hl 0 rfl) ?_
  refine lv_iload_n C.1.1 C.1.2.1 dJ9_max_7cf53_1 rfl (lv_at hl 1 rfl) ?_
  refine lv_icmp_lt (tgt := 9) C.1.1 C.1.2.1 dJ9_max_7cf53_2 (by decide) (fun hc => ?_) (fun hc => ?_)
  · replace h := ite_pos' h hc
    refine lv_iload_n C.1.1 C.1.2.1 dJ9_max_7cf53_9 rfl (lv_at hl 1 rfl) ?_
    cases h
    exact r_iret C hw (Or.inl rfl) dJ9_max_7cf53_10
  · replace h := ite_neg' h hc
    refine lv_iload_n C.1.1 C.1.2.1 dJ9_max_7cf53_5 rfl (lv_at hl 0 rfl) ?_
    refine lv_goto (tgt := 10) C.1.1 C.1.2.1 dJ9_max_7cf53_6 (by decide) ?_
    cases h
    exact r_iret C hw (Or.inl rfl) dJ9_max_7cf53_10
set_option maxHeartbeats 4000000 in
set_option maxRecDepth 100000 in
theorem c_J9_max_7cf53 (hx : True) {a0 : Int32} {a1 : Int32} {g : GM} {r : Int32} (h : F_J9_max_7cf53 a0 a1 = some r) (sz : Nat) : Met l yJ9_max_7cf53 (WSX yJ9_max_7cf53 cJ9_max_7cf53 2 (some .int)) (RM 1 0 0) (va_Pc [.int a0, .int a1] (PX D cA ev hr ad kl g sz)) (QI D cA ev hr ad (AX ad kl.length sz) kl r g) 0 0 (AX ad kl.length sz) :=
  met_ofF (own := RJ9) (by decide +kernel) rfl (Nat.le_of_ble_eq_true rfl) (fun p e s m below meth c ls C hw hsz hl => w_J9_max_7cf53_0 C hx hw hl h)
set_option maxHeartbeats 4000000 in
set_option maxRecDepth 100000 in
theorem w_J9_min_7cf53_0 (C : CX p s m args meth c RJ9 yJ9_min_7cf53 cJ9_min_7cf53 2 (some .int) D cA) (hx : True) {H : Heap} {locs : List Loc} {g : GM} (hw : WS D cA ev hr ad A kl s H locs g) {a0 : Int32} {a1 : Int32} {ls : Array Slot} (hl : lv_has ls 2 [(0, .int a0), (1, .int a1)]) {r : Int32} (h : F_J9_min_7cf53 a0 a1 = some r) : W p l e (RM 1 0 0) s m args below meth c H locs 0 0 (MQ below (QI D cA ev hr ad A kl r g) args s 0 0 A) (F0 m 0 ls []) := by
  refine lv_iload_n C.1.1 C.1.2.1 dJ9_min_7cf53_0 rfl (lv_at hl 0 rfl) ?_
  refine lv_iload_n C.1.1 C.1.2.1 dJ9_min_7cf53_1 rfl (lv_at hl 1 rfl) ?_
  refine lv_icmp_gt (tgt := 9) C.1.1 C.1.2.1 dJ9_min_7cf53_2 (by decide) (fun hc => ?_) (fun hc => ?_)
  · replace h := ite_pos' h hc
    refine lv_iload_n C.1.1 C.1.2.1 dJ9_min_7cf53_9 rfl (lv_at hl 1 rfl) ?_
    cases h
    exact r_iret C hw (Or.inl rfl) dJ9_min_7cf53_10
  · replace h := ite_neg' h hc
    refine lv_iload_n C.1.1 C.1.2.1 dJ9_min_7cf53_5 rfl (lv_at hl 0 rfl) ?_
    refine lv_goto (tgt := 10) C.1.1 C.1.2.1 dJ9_min_7cf53_6 (by decide) ?_
    cases h
    exact r_iret C hw (Or.inl rfl) dJ9_min_7cf53_10
set_option maxHeartbeats 4000000 in
set_option maxRecDepth 100000 in
theorem c_J9_min_7cf53 (hx : True) {a0 : Int32} {a1 : Int32} {g : GM} {r : Int32} (h : F_J9_min_7cf53 a0 a1 = some r) (sz : Nat) : Met l yJ9_min_7cf53 (WSX yJ9_min_7cf53 cJ9_min_7cf53 2 (some .int)) (RM 1 0 0) (va_Pc [.int a0, .int a1] (PX D cA ev hr ad kl g sz)) (QI D cA ev hr ad (AX ad kl.length sz) kl r g) 0 0 (AX ad kl.length sz) :=
  met_ofF (own := RJ9) (by decide +kernel) rfl (Nat.le_of_ble_eq_true rfl) (fun p e s m below meth c ls C hw hsz hl => w_J9_min_7cf53_0 C hx hw hl h)
set_option maxHeartbeats 4000000 in
set_option maxRecDepth 100000 in
theorem w_J6_bitCount_0f7a4_0 (C : CX p s m args meth c RJ6 yJ6_bitCount_0f7a4 cJ6_bitCount_0f7a4 1 (some .int) D cA) (hx : True) {H : Heap} {locs : List Loc} {g : GM} (hw : WS D cA ev hr ad A kl s H locs g) {a0 : Int32} {ls : Array Slot} (hl : lv_has ls 1 [(0, .int a0)]) {r : Int32} (h : F_J6_bitCount_0f7a4 a0 = some r) : W p l e (RM 1 0 0) s m args below meth c H locs 0 0 (MQ below (QI D cA ev hr ad A kl r g) args s 0 0 A) (F0 m 0 ls []) := by
  refine lv_iload_n C.1.1 C.1.2.1 dJ6_bitCount_0f7a4_0 rfl (lv_at hl 0 rfl) ?_
  refine lv_iload_n C.1.1 C.1.2.1 dJ6_bitCount_0f7a4_1 rfl (lv_at hl 0 rfl) ?_
  refine lv_iconst (v := 1) C.1.1 C.1.2.1 dJ6_bitCount_0f7a4_2 (by decide) ?_
  refine lv_iushr (v := (a0.toUInt32 >>> ((1 : Int32).toUInt32 &&& Int32.toUInt32 31)).toInt32) C.1.1 C.1.2.1 dJ6_bitCount_0f7a4_3 rfl ?_
  refine lv_ldcw (v := 1431655765) C.1.1 C.1.2.1 C.1.2.2.2.1 (C.w kc603) dJ6_bitCount_0f7a4_4 ?_
  refine lv_iand C.1.1 C.1.2.1 dJ6_bitCount_0f7a4_7 ?_
  refine lv_isub C.1.1 C.1.2.1 dJ6_bitCount_0f7a4_8 ?_
  refine lv_istore_n (lv' := [(0, .int (a0 - (((a0.toUInt32 >>> ((1 : Int32).toUInt32 &&& Int32.toUInt32 31)).toInt32) &&& 1431655765)))]) C.1.1 C.1.2.1 dJ6_bitCount_0f7a4_9 rfl hl (by decide) rfl (fun ls hl => ?_)
  refine lt_gen (P := fun x => lv_has ls 1 [(0, .int x)]) h hl (fun x0_1 h hl => ?_)
  refine lv_iload_n C.1.1 C.1.2.1 dJ6_bitCount_0f7a4_10 rfl (lv_at hl 0 rfl) ?_
  refine lv_ldcw (v := 858993459) C.1.1 C.1.2.1 C.1.2.2.2.1 (C.w kc604) dJ6_bitCount_0f7a4_11 ?_
  refine lv_iand C.1.1 C.1.2.1 dJ6_bitCount_0f7a4_14 ?_
  refine lv_iload_n C.1.1 C.1.2.1 dJ6_bitCount_0f7a4_15 rfl (lv_at hl 0 rfl) ?_
  refine lv_iconst (v := 2) C.1.1 C.1.2.1 dJ6_bitCount_0f7a4_16 (by decide) ?_
  refine lv_iushr (v := (x0_1.toUInt32 >>> ((2 : Int32).toUInt32 &&& Int32.toUInt32 31)).toInt32) C.1.1 C.1.2.1 dJ6_bitCount_0f7a4_17 rfl ?_
  refine lv_ldcw (v := 858993459) C.1.1 C.1.2.1 C.1.2.2.2.1 (C.w kc604) dJ6_bitCount_0f7a4_18 ?_
  refine lv_iand C.1.1 C.1.2.1 dJ6_bitCount_0f7a4_21 ?_
  refine lv_iadd C.1.1 C.1.2.1 dJ6_bitCount_0f7a4_22 ?_
  refine lv_istore_n (lv' := [(0, .int ((x0_1 &&& 858993459) + (((x0_1.toUInt32 >>> ((2 : Int32).toUInt32 &&& Int32.toUInt32 31)).toInt32) &&& 858993459)))]) C.1.1 C.1.2.1 dJ6_bitCount_0f7a4_23 rfl hl (by decide) rfl (fun ls hl => ?_)
  refine lt_gen (P := fun x => lv_has ls 1 [(0, .int x)]) h hl (fun x0_2 h hl => ?_)
  refine lv_iload_n C.1.1 C.1.2.1 dJ6_bitCount_0f7a4_24 rfl (lv_at hl 0 rfl) ?_
  refine lv_iload_n C.1.1 C.1.2.1 dJ6_bitCount_0f7a4_25 rfl (lv_at hl 0 rfl) ?_
  refine lv_iconst (v := 4) C.1.1 C.1.2.1 dJ6_bitCount_0f7a4_26 (by decide) ?_
  refine lv_iushr (v := (x0_2.toUInt32 >>> ((4 : Int32).toUInt32 &&& Int32.toUInt32 31)).toInt32) C.1.1 C.1.2.1 dJ6_bitCount_0f7a4_27 rfl ?_
  refine lv_iadd C.1.1 C.1.2.1 dJ6_bitCount_0f7a4_28 ?_
  refine lv_ldcw (v := 252645135) C.1.1 C.1.2.1 C.1.2.2.2.1 (C.w kc605) dJ6_bitCount_0f7a4_29 ?_
  refine lv_iand C.1.1 C.1.2.1 dJ6_bitCount_0f7a4_32 ?_
  refine lv_istore_n (lv' := [(0, .int ((x0_2 + ((x0_2.toUInt32 >>> ((4 : Int32).toUInt32 &&& Int32.toUInt32 31)).toInt32)) &&& 252645135))]) C.1.1 C.1.2.1 dJ6_bitCount_0f7a4_33 rfl hl (by decide) rfl (fun ls hl => ?_)
  refine lt_gen (P := fun x => lv_has ls 1 [(0, .int x)]) h hl (fun x0_3 h hl => ?_)
  refine lv_iload_n C.1.1 C.1.2.1 dJ6_bitCount_0f7a4_34 rfl (lv_at hl 0 rfl) ?_
  refine lv_iload_n C.1.1 C.1.2.1 dJ6_bitCount_0f7a4_35 rfl (lv_at hl 0 rfl) ?_
  refine lv_bipush (v := 8) C.1.1 C.1.2.1 dJ6_bitCount_0f7a4_36 (by decide) ?_
  refine lv_iushr (v := (x0_3.toUInt32 >>> ((8 : Int32).toUInt32 &&& Int32.toUInt32 31)).toInt32) C.1.1 C.1.2.1 dJ6_bitCount_0f7a4_38 rfl ?_
  refine lv_iadd C.1.1 C.1.2.1 dJ6_bitCount_0f7a4_39 ?_
  refine lv_istore_n (lv' := [(0, .int (x0_3 + ((x0_3.toUInt32 >>> ((8 : Int32).toUInt32 &&& Int32.toUInt32 31)).toInt32)))]) C.1.1 C.1.2.1 dJ6_bitCount_0f7a4_40 rfl hl (by decide) rfl (fun ls hl => ?_)
  refine lt_gen (P := fun x => lv_has ls 1 [(0, .int x)]) h hl (fun x0_4 h hl => ?_)
  refine lv_iload_n C.1.1 C.1.2.1 dJ6_bitCount_0f7a4_41 rfl (lv_at hl 0 rfl) ?_
  refine lv_iload_n C.1.1 C.1.2.1 dJ6_bitCount_0f7a4_42 rfl (lv_at hl 0 rfl) ?_
  refine lv_bipush (v := 16) C.1.1 C.1.2.1 dJ6_bitCount_0f7a4_43 (by decide) ?_
  refine lv_iushr (v := (x0_4.toUInt32 >>> ((16 : Int32).toUInt32 &&& Int32.toUInt32 31)).toInt32) C.1.1 C.1.2.1 dJ6_bitCount_0f7a4_45 rfl ?_
  refine lv_iadd C.1.1 C.1.2.1 dJ6_bitCount_0f7a4_46 ?_
  refine lv_istore_n (lv' := [(0, .int (x0_4 + ((x0_4.toUInt32 >>> ((16 : Int32).toUInt32 &&& Int32.toUInt32 31)).toInt32)))]) C.1.1 C.1.2.1 dJ6_bitCount_0f7a4_47 rfl hl (by decide) rfl (fun ls hl => ?_)
  refine lt_gen (P := fun x => lv_has ls 1 [(0, .int x)]) h hl (fun x0_5 h hl => ?_)
  refine lv_iload_n C.1.1 C.1.2.1 dJ6_bitCount_0f7a4_48 rfl (lv_at hl 0 rfl) ?_
  refine lv_bipush (v := 63) C.1.1 C.1.2.1 dJ6_bitCount_0f7a4_49 (by decide) ?_
  refine lv_iand C.1.1 C.1.2.1 dJ6_bitCount_0f7a4_51 ?_
  cases h
  exact r_iret C hw (Or.inl rfl) dJ6_bitCount_0f7a4_52
set_option maxHeartbeats 4000000 in
set_option maxRecDepth 100000 in
theorem c_J6_bitCount_0f7a4 (hx : True) {a0 : Int32} {g : GM} {r : Int32} (h : F_J6_bitCount_0f7a4 a0 = some r) (sz : Nat) : Met l yJ6_bitCount_0f7a4 (WSX yJ6_bitCount_0f7a4 cJ6_bitCount_0f7a4 1 (some .int)) (RM 1 0 0) (va_Pc [.int a0] (PX D cA ev hr ad kl g sz)) (QI D cA ev hr ad (AX ad kl.length sz) kl r g) 0 0 (AX ad kl.length sz) :=
  met_ofF (own := RJ6) (by decide +kernel) rfl (Nat.le_of_ble_eq_true rfl) (fun p e s m below meth c ls C hw hsz hl => w_J6_bitCount_0f7a4_0 C hx hw hl h)
set_option maxHeartbeats 4000000 in
set_option maxRecDepth 100000 in
theorem w_J1_canEncode_9a6ad_15 {g : GM} {r : Int32} (C : CX p s m args meth c RJ1 yJ1_canEncode_9a6ad cJ1_canEncode_9a6ad 1 (some .boolean) D cA) (hx : True) {H : Heap} {locs : List Loc} (hw : WS D cA ev hr ad A kl s H locs g) {ls : Array Slot} (hl : lv_has ls 1 []) (h : F_J1_canEncode_9a6ad_15 = some r) : W p l e (RM 1 0 0) s m args below meth c H locs 0 0 (MQ below (QI D cA ev hr ad A kl r g) args s 0 0 A) (F0 m 15 ls []) := by
  refine lv_iconst (v := 0) C.1.1 C.1.2.1 dJ1_canEncode_9a6ad_15 (by decide) ?_
  cases h
  exact r_iret C hw (Or.inr ⟨rfl, Or.inl rfl⟩) dJ1_canEncode_9a6ad_16
set_option maxHeartbeats 4000000 in
set_option maxRecDepth 100000 in
theorem w_J1_canEncode_9a6ad_0 (C : CX p s m args meth c RJ1 yJ1_canEncode_9a6ad cJ1_canEncode_9a6ad 1 (some .boolean) D cA) (hx : True) {H : Heap} {locs : List Loc} {g : GM} (hw : WS D cA ev hr ad A kl s H locs g) {a0 : Int32} {ls : Array Slot} (hl : lv_has ls 1 [(0, .int a0)]) {r : Int32} (h : F_J1_canEncode_9a6ad a0 = some r) : W p l e (RM 1 0 0) s m args below meth c H locs 0 0 (MQ below (QI D cA ev hr ad A kl r g) args s 0 0 A) (F0 m 0 ls []) := by
  refine lv_iload_n C.1.1 C.1.2.1 dJ1_canEncode_9a6ad_0 rfl (lv_at hl 0 rfl) ?_
  refine lv_if_lt (tgt := 15) C.1.1 C.1.2.1 dJ1_canEncode_9a6ad_1 (by decide) (fun hc => ?_) (fun hc => ?_)
  · replace h := ite_pos' h hc
    exact w_J1_canEncode_9a6ad_15 C hx hw (lv_sub hl [] rfl) h
  · replace h := ite_neg' h hc
    refine lv_iload_n C.1.1 C.1.2.1 dJ1_canEncode_9a6ad_4 rfl (lv_at hl 0 rfl) ?_
    refine lv_sipush (v := 255) C.1.1 C.1.2.1 dJ1_canEncode_9a6ad_5 (by decide) ?_
    refine lv_icmp_gt (tgt := 15) C.1.1 C.1.2.1 dJ1_canEncode_9a6ad_8 (by decide) (fun hc => ?_) (fun hc => ?_)
    · replace h := ite_pos' h hc
      exact w_J1_canEncode_9a6ad_15 C hx hw (lv_sub hl [] rfl) h
    · replace h := ite_neg' h hc
      refine lv_iconst (v := 1) C.1.1 C.1.2.1 dJ1_canEncode_9a6ad_11 (by decide) ?_
      refine lv_goto (tgt := 16) C.1.1 C.1.2.1 dJ1_canEncode_9a6ad_12 (by decide) ?_
      cases h
      exact r_iret C hw (Or.inr ⟨rfl, Or.inr rfl⟩) dJ1_canEncode_9a6ad_16
set_option maxHeartbeats 4000000 in
set_option maxRecDepth 100000 in
theorem c_J1_canEncode_9a6ad (hx : True) {a0 : Int32} {g : GM} {r : Int32} (h : F_J1_canEncode_9a6ad a0 = some r) (sz : Nat) : Met l yJ1_canEncode_9a6ad (WSX yJ1_canEncode_9a6ad cJ1_canEncode_9a6ad 1 (some .boolean)) (RM 1 0 0) (va_Pc [.int a0] (PX D cA ev hr ad kl g sz)) (QI D cA ev hr ad (AX ad kl.length sz) kl r g) 0 0 (AX ad kl.length sz) :=
  met_ofF (own := RJ1) (by decide +kernel) rfl (Nat.le_of_ble_eq_true rfl) (fun p e s m below meth c ls C hw hsz hl => w_J1_canEncode_9a6ad_0 C hx hw hl h)
set_option maxHeartbeats 4000000 in
set_option maxRecDepth 100000 in
theorem w_J0_isLatin1_aae02_17 {g : GM} {r : Int32} (C : CX p s m args meth c RJ0 yJ0_isLatin1_aae02 cJ0_isLatin1_aae02 1 (some .boolean) D cA) (hx : j < 3) {H : Heap} {locs : List Loc} (hw : WS D cA ev hr ad A kl s H locs g) {ls : Array Slot} (hl : lv_has ls 1 []) (h : F_J0_isLatin1_aae02_17 j = some r) : W p l e (RM 1 0 0) s m args below meth c H locs 0 0 (MQ below (QI D cA ev hr ad A kl r g) args s 0 0 A) (F0 m 17 ls []) := by
  refine lv_iconst (v := 0) C.1.1 C.1.2.1 dJ0_isLatin1_aae02_17 (by decide) ?_
  cases h
  exact r_iret C hw (Or.inr ⟨rfl, Or.inl rfl⟩) dJ0_isLatin1_aae02_18
set_option maxHeartbeats 4000000 in
set_option maxRecDepth 100000 in
theorem w_J0_isLatin1_aae02_0 (C : CX p s m args meth c RJ0 yJ0_isLatin1_aae02 cJ0_isLatin1_aae02 1 (some .boolean) D cA) (hx : j < 3) {H : Heap} {locs : List Loc} {g : GM} (hw : WS D cA ev hr ad A kl s H locs g) {ls : Array Slot} (hl : lv_has ls 1 [(0, .ref (ev.1 j))]) {r : Int32} (h : F_J0_isLatin1_aae02 j = some r) : W p l e (RM 1 0 0) s m args below meth c H locs 0 0 (MQ below (QI D cA ev hr ad A kl r g) args s 0 0 A) (F0 m 0 ls []) := by
  refine r_sCS C hw dJ0_isLatin1_aae02_0 ?_
  refine lv_if_eq (tgt := 17) C.1.1 C.1.2.1 dJ0_isLatin1_aae02_3 (by decide) (fun hc => ?_) (fun hc => ?_)
  · replace h := ite_pos' h hc
    exact w_J0_isLatin1_aae02_17 C hx hw (lv_sub hl [] rfl) h
  · replace h := ite_neg' h hc
    refine lv_aload_n C.1.1 C.1.2.1 dJ0_isLatin1_aae02_6 rfl (lv_at hl 0 rfl) ?_
    refine r_sCo C hw hx dJ0_isLatin1_aae02_7 ?_
    refine lv_if_ne (tgt := 17) C.1.1 C.1.2.1 dJ0_isLatin1_aae02_10 (by decide) (fun hc => ?_) (fun hc => ?_)
    · replace h := ite_neg' h hc
      exact w_J0_isLatin1_aae02_17 C hx hw (lv_sub hl [] rfl) h
    · replace h := ite_pos' h hc
      refine lv_iconst (v := 1) C.1.1 C.1.2.1 dJ0_isLatin1_aae02_13 (by decide) ?_
      refine lv_goto (tgt := 18) C.1.1 C.1.2.1 dJ0_isLatin1_aae02_14 (by decide) ?_
      cases h
      exact r_iret C hw (Or.inr ⟨rfl, Or.inr rfl⟩) dJ0_isLatin1_aae02_18
set_option maxHeartbeats 4000000 in
set_option maxRecDepth 100000 in
theorem c_J0_isLatin1_aae02 (hx : j < 3) {g : GM} {r : Int32} (h : F_J0_isLatin1_aae02 j = some r) (sz : Nat) : Met l yJ0_isLatin1_aae02 (WSX yJ0_isLatin1_aae02 cJ0_isLatin1_aae02 1 (some .boolean)) (RM 1 0 0) (va_Pc [.ref (ev.1 j)] (PX D cA ev hr ad kl g sz)) (QI D cA ev hr ad (AX ad kl.length sz) kl r g) 0 0 (AX ad kl.length sz) :=
  met_ofF (own := RJ0) (by decide +kernel) rfl (Nat.le_of_ble_eq_true rfl) (fun p e s m below meth c ls C hw hsz hl => w_J0_isLatin1_aae02_0 C hx hw hl h)
set_option maxHeartbeats 4000000 in
set_option maxRecDepth 100000 in
theorem w_J0_coder_7d493_0 (C : CX p s m args meth c RJ0 yJ0_coder_7d493 cJ0_coder_7d493 1 (some .byte) D cA) (hx : j < 3) {H : Heap} {locs : List Loc} {g : GM} (hw : WS D cA ev hr ad A kl s H locs g) {ls : Array Slot} (hl : lv_has ls 1 [(0, .ref (ev.1 j))]) {r : Int32} (h : F_J0_coder_7d493 j = some r) : W p l e (RM 1 0 0) s m args below meth c H locs 0 0 (MQ below (QI D cA ev hr ad A kl r g) args s 0 0 A) (F0 m 0 ls []) := by
  refine r_sCS C hw dJ0_coder_7d493_0 ?_
  refine lv_if_eq (tgt := 13) C.1.1 C.1.2.1 dJ0_coder_7d493_3 (by decide) (fun hc => ?_) (fun hc => ?_)
  · replace h := ite_pos' h hc
    refine lv_iconst (v := 1) C.1.1 C.1.2.1 dJ0_coder_7d493_13 (by decide) ?_
    cases h
    exact r_retG C hw rfl rfl dJ0_coder_7d493_14
  · replace h := ite_neg' h hc
    refine lv_aload_n C.1.1 C.1.2.1 dJ0_coder_7d493_6 rfl (lv_at hl 0 rfl) ?_
    refine r_sCo C hw hx dJ0_coder_7d493_7 ?_
    refine lv_goto (tgt := 14) C.1.1 C.1.2.1 dJ0_coder_7d493_10 (by decide) ?_
    cases h
    exact r_retG C hw rfl rfl dJ0_coder_7d493_14
set_option maxHeartbeats 4000000 in
set_option maxRecDepth 100000 in
theorem c_J0_coder_7d493 (hx : j < 3) {g : GM} {r : Int32} (h : F_J0_coder_7d493 j = some r) (sz : Nat) : Met l yJ0_coder_7d493 (WSX yJ0_coder_7d493 cJ0_coder_7d493 1 (some .byte)) (RM 1 0 0) (va_Pc [.ref (ev.1 j)] (PX D cA ev hr ad kl g sz)) (QI D cA ev hr ad (AX ad kl.length sz) kl r g) 0 0 (AX ad kl.length sz) :=
  met_ofF (own := RJ0) (by decide +kernel) rfl (Nat.le_of_ble_eq_true rfl) (fun p e s m below meth c ls C hw hsz hl => w_J0_coder_7d493_0 C hx hw hl h)
set_option maxHeartbeats 4000000 in
set_option maxRecDepth 100000 in
theorem w_J0_length_8abf5_0 (C : CX p s m args meth c RJ0 yJ0_length_8abf5 cJ0_length_8abf5 1 (some .int) D cA) (hx : j < 3) {H : Heap} {locs : List Loc} {g : GM} (hw : WS D cA ev hr ad A kl s H locs g) {ls : Array Slot} (hl : lv_has ls 1 [(0, .ref (ev.1 j))]) {r : Int32} (h : F_J0_length_8abf5 j = some r) : W p l e (RM 2 0 0) s m args below meth c H locs 0 0 (MQ below (QI D cA ev hr ad A kl r g) args s 0 0 A) (F0 m 0 ls []) := by
  refine lv_aload_n C.1.1 C.1.2.1 dJ0_length_8abf5_0 rfl (lv_at hl 0 rfl) ?_
  refine r_sVa C hw hx dJ0_length_8abf5_1 ?_
  refine r_sLen C hw hx dJ0_length_8abf5_4 ?_
  refine lv_aload_n C.1.1 C.1.2.1 dJ0_length_8abf5_5 rfl (lv_at hl 0 rfl) ?_
  obtain ⟨r_1, hc, h⟩ := bnd_some h
  refine r_strI (dc := 1) (As := []) (rest := [.int (nI (SLEN.getD j 0))]) C hw vJ0_335 hx rfl (fun sz => c_J0_coder_7d493 hx hc sz) (by decide) rfl rfl hl.1 (Nat.le_of_ble_eq_true rfl) dJ0_length_8abf5_6 ⟨Nat.le_refl _, Nat.le_refl _⟩ (fun H locs hw => ?_)
  refine lv_ishr C.1.1 C.1.2.1 dJ0_length_8abf5_9 ?_
  cases h
  exact r_iret C hw (Or.inl rfl) dJ0_length_8abf5_10
set_option maxHeartbeats 4000000 in
set_option maxRecDepth 100000 in
theorem c_J0_length_8abf5 (hx : j < 3) {g : GM} {r : Int32} (h : F_J0_length_8abf5 j = some r) (sz : Nat) : Met l yJ0_length_8abf5 (WSX yJ0_length_8abf5 cJ0_length_8abf5 1 (some .int)) (RM 2 0 0) (va_Pc [.ref (ev.1 j)] (PX D cA ev hr ad kl g sz)) (QI D cA ev hr ad (AX ad kl.length sz) kl r g) 0 0 (AX ad kl.length sz) :=
  met_ofF (own := RJ0) (by decide +kernel) rfl (Nat.le_of_ble_eq_true rfl) (fun p e s m below meth c ls C hw hsz hl => w_J0_length_8abf5_0 C hx hw hl h)
set_option maxHeartbeats 4000000 in
set_option maxRecDepth 100000 in
theorem w_J1_indexOfChar_4cfef_7 {x3 : Int32} {x4 : Int32} {g : GM} {r : Int32} (kb7 : Int32 → Option (Int32)) (hk7 : ∀ (x5 : Int32) (H : Heap) (locs : List Loc) (ls : Array Slot), WS D cA ev hr ad A kl s H locs g → lv_has ls 6 [(0, .ref (ev.2.1 j)), (3, .int x3), (4, .int x4), (5, .int x5)] → kb7 x5 = some r → W p l e (RM 1 0 0) s m args below meth c H locs 0 0 (MQ below (QI D cA ev hr ad A kl r g) args s 0 0 A) (F0 m 7 ls [])) (C : CX p s m args meth c RJ1 yJ1_indexOfChar_4cfef cJ1_indexOfChar_4cfef 6 (some .int) D cA) (hx : j < 3) {H : Heap} {locs : List Loc} {x5 : Int32} (hw : WS D cA ev hr ad A kl s H locs g) {ls : Array Slot} (hl : lv_has ls 6 [(0, .ref (ev.2.1 j)), (3, .int x3), (4, .int x4), (5, .int x5)]) (h : F_J1_indexOfChar_4cfef_7B j x3 x4 kb7 x5 = some r) : W p l e (RM 1 0 0) s m args below meth c H locs 0 0 (MQ below (QI D cA ev hr ad A kl r g) args s 0 0 A) (F0 m 7 ls []) := by
  refine lv_iload C.1.1 C.1.2.1 dJ1_indexOfChar_4cfef_7 (lv_at hl 3 rfl) ?_
  refine lv_iload_n C.1.1 C.1.2.1 dJ1_indexOfChar_4cfef_9 rfl (lv_at hl 1 rfl) ?_
  refine lv_icmp_ge (tgt := 31) C.1.1 C.1.2.1 dJ1_indexOfChar_4cfef_10 (by decide) (fun hc => ?_) (fun hc => ?_)
  · replace h := ite_pos' h hc
    refine lv_iconst (v := (-1)) C.1.1 C.1.2.1 dJ1_indexOfChar_4cfef_31 (by decide) ?_
    cases h
    exact r_iret C hw (Or.inl rfl) dJ1_indexOfChar_4cfef_32
  · replace h := ite_neg' h hc
    refine lv_aload_n C.1.1 C.1.2.1 dJ1_indexOfChar_4cfef_13 rfl (lv_at hl 0 rfl) ?_
    refine lv_iload C.1.1 C.1.2.1 dJ1_indexOfChar_4cfef_14 (lv_at hl 3 rfl) ?_
    obtain ⟨hz, h⟩ := ck_some h
    refine r_sBy C hw hx (inB_in hz) dJ1_indexOfChar_4cfef_16 ?_
    refine lv_iload C.1.1 C.1.2.1 dJ1_indexOfChar_4cfef_17 (lv_at hl 2 rfl) ?_
    refine lv_icmp_ne (tgt := 25) C.1.1 C.1.2.1 dJ1_indexOfChar_4cfef_19 (by decide) (fun hc => ?_) (fun hc => ?_)
    · replace h := ite_neg' h hc
      refine lv_iinc (v := x5 + 1) (lv' := [(5, .int (x5 + 1)), (0, .ref (ev.2.1 j)), (3, .int x3), (4, .int x4)]) C.1.1 C.1.2.1 dJ1_indexOfChar_4cfef_25 hl (k := 3) rfl rfl (by decide) rfl (fun ls hl => ?_)
      refine lt_gen (P := fun x => lv_has ls 6 [(5, .int x), (0, .ref (ev.2.1 j)), (3, .int x3), (4, .int x4)]) h hl (fun x5_1 h hl => ?_)
      refine lv_goto (tgt := 7) C.1.1 C.1.2.1 dJ1_indexOfChar_4cfef_28 (by decide) ?_
      exact hk7 _ _ _ _ hw (lv_sub hl [1, 2, 3, 0] rfl) h
    · replace h := ite_pos' h hc
      refine lv_iload C.1.1 C.1.2.1 dJ1_indexOfChar_4cfef_22 (lv_at hl 3 rfl) ?_
      cases h
      exact r_iret C hw (Or.inl rfl) dJ1_indexOfChar_4cfef_24
set_option maxHeartbeats 4000000 in
set_option maxRecDepth 100000 in
theorem w_J1_indexOfChar_4cfef_7L {x3 : Int32} {x4 : Int32} {g : GM} {r : Int32} (C : CX p s m args meth c RJ1 yJ1_indexOfChar_4cfef cJ1_indexOfChar_4cfef 6 (some .int) D cA) (hx : j < 3) : ∀ (n : Nat) (x5 : Int32) (H : Heap) (locs : List Loc) (ls : Array Slot), WS D cA ev hr ad A kl s H locs g → lv_has ls 6 [(0, .ref (ev.2.1 j)), (3, .int x3), (4, .int x4), (5, .int x5)] → fixN (F_J1_indexOfChar_4cfef_7B j x3 x4) n x5 = some r → W p l e (RM 1 0 0) s m args below meth c H locs 0 0 (MQ below (QI D cA ev hr ad A kl r g) args s 0 0 A) (F0 m 7 ls []) := by
  intro n
  induction n with
  | zero => intro x5 H locs ls hw hl h; exact (fix_zero h).elim
  | succ n ih => intro x5 H locs ls hw hl h; exact w_J1_indexOfChar_4cfef_7 (fixN (F_J1_indexOfChar_4cfef_7B j x3 x4) n) ih C hx hw hl h
set_option maxHeartbeats 4000000 in
set_option maxRecDepth 100000 in
theorem w_J1_indexOfChar_4cfef_0 (C : CX p s m args meth c RJ1 yJ1_indexOfChar_4cfef cJ1_indexOfChar_4cfef 6 (some .int) D cA) (hx : j < 3) {H : Heap} {locs : List Loc} {g : GM} (hw : WS D cA ev hr ad A kl s H locs g) {a1 : Int32} {a2 : Int32} {a3 : Int32} {ls : Array Slot} (hl : lv_has ls 6 [(0, .ref (ev.2.1 j)), (1, .int a1), (2, .int a2), (3, .int a3)]) {r : Int32} (h : F_J1_indexOfChar_4cfef j a1 a2 a3 = some r) : W p l e (RM 1 0 0) s m args below meth c H locs 0 0 (MQ below (QI D cA ev hr ad A kl r g) args s 0 0 A) (F0 m 0 ls []) := by
  refine lv_iload_n C.1.1 C.1.2.1 dJ1_indexOfChar_4cfef_0 rfl (lv_at hl 1 rfl) ?_
  refine lv_i2b (v := a1.toInt8.toInt32) C.1.1 C.1.2.1 dJ1_indexOfChar_4cfef_1 rfl ?_
  refine lv_istore (lv' := [(4, .int a1.toInt8.toInt32), (0, .ref (ev.2.1 j)), (1, .int a1), (2, .int a2), (3, .int a3)]) C.1.1 C.1.2.1 dJ1_indexOfChar_4cfef_2 hl (by decide) rfl (fun ls hl => ?_)
  refine lt_gen (P := fun x => lv_has ls 6 [(4, .int x), (0, .ref (ev.2.1 j)), (1, .int a1), (2, .int a2), (3, .int a3)]) h hl (fun x4_2 h hl => ?_)
  refine lv_iload_n C.1.1 C.1.2.1 dJ1_indexOfChar_4cfef_4 rfl (lv_at hl 3 rfl) ?_
  refine lv_istore (lv' := [(5, .int a2), (4, .int x4_2), (0, .ref (ev.2.1 j)), (1, .int a1), (2, .int a2), (3, .int a3)]) C.1.1 C.1.2.1 dJ1_indexOfChar_4cfef_5 hl (by decide) rfl (fun ls hl => ?_)
  exact w_J1_indexOfChar_4cfef_7L C hx FU _ _ _ _ hw (lv_sub hl [2, 5, 1, 0] rfl) h
set_option maxHeartbeats 4000000 in
set_option maxRecDepth 100000 in
theorem c_J1_indexOfChar_4cfef (hx : j < 3) {a1 : Int32} {a2 : Int32} {a3 : Int32} {g : GM} {r : Int32} (h : F_J1_indexOfChar_4cfef j a1 a2 a3 = some r) (sz : Nat) : Met l yJ1_indexOfChar_4cfef (WSX yJ1_indexOfChar_4cfef cJ1_indexOfChar_4cfef 6 (some .int)) (RM 1 0 0) (va_Pc [.ref (ev.2.1 j), .int a1, .int a2, .int a3] (PX D cA ev hr ad kl g sz)) (QI D cA ev hr ad (AX ad kl.length sz) kl r g) 0 0 (AX ad kl.length sz) :=
  met_ofF (own := RJ1) (by decide +kernel) rfl (Nat.le_of_ble_eq_true rfl) (fun p e s m below meth c ls C hw hsz hl => w_J1_indexOfChar_4cfef_0 C hx hw hl h)
set_option maxHeartbeats 4000000 in
set_option maxRecDepth 100000 in
theorem w_J1_indexOf_4cfef_0 (C : CX p s m args meth c RJ1 yJ1_indexOf_4cfef cJ1_indexOf_4cfef 4 (some .int) D cA) (hx : j < 3) {H : Heap} {locs : List Loc} {g : GM} (hw : WS D cA ev hr ad A kl s H locs g) {a1 : Int32} {a2 : Int32} {a3 : Int32} {ls : Array Slot} (hl : lv_has ls 4 [(0, .ref (ev.2.1 j)), (1, .int a1), (2, .int a2), (3, .int a3)]) {r : Int32} (h : F_J1_indexOf_4cfef j a1 a2 a3 = some r) : W p l e (RM 2 0 0) s m args below meth c H locs 0 0 (MQ below (QI D cA ev hr ad A kl r g) args s 0 0 A) (F0 m 0 ls []) := by
  refine lv_iload_n C.1.1 C.1.2.1 dJ1_indexOf_4cfef_0 rfl (lv_at hl 1 rfl) ?_
  obtain ⟨r_1, hc, h⟩ := bnd_some h
  refine r_sI (dc := 1) (As := [.int a1]) (rest := []) C hw sJ1_88 (fun sz => c_J1_canEncode_9a6ad trivial hc sz) (by decide) rfl rfl hl.1 (Nat.le_of_ble_eq_true rfl) dJ1_indexOf_4cfef_1 ⟨Nat.le_refl _, Nat.le_refl _⟩ (fun H locs hw => ?_)
  refine lv_if_ne (tgt := 9) C.1.1 C.1.2.1 dJ1_indexOf_4cfef_4 (by decide) (fun hc => ?_) (fun hc => ?_)
  · replace h := ite_neg' h hc
    refine lv_iload_n C.1.1 C.1.2.1 dJ1_indexOf_4cfef_9 rfl (lv_at hl 2 rfl) ?_
    refine lv_iconst (v := 0) C.1.1 C.1.2.1 dJ1_indexOf_4cfef_10 (by decide) ?_
    obtain ⟨r_2, hc, h⟩ := bnd_some h
    refine r_sI (dc := 1) (As := [.int a2, .int 0]) (rest := []) C hw sJ1_92 (fun sz => c_J9_max_7cf53 trivial hc sz) (by decide) rfl rfl hl.1 (Nat.le_of_ble_eq_true rfl) dJ1_indexOf_4cfef_11 ⟨Nat.le_refl _, Nat.le_refl _⟩ (fun H locs hw => ?_)
    refine lv_istore_n (lv' := [(2, .int r_2), (0, .ref (ev.2.1 j)), (1, .int a1), (3, .int a3)]) C.1.1 C.1.2.1 dJ1_indexOf_4cfef_14 rfl hl (by decide) rfl (fun ls hl => ?_)
    refine lt_gen (P := fun x => lv_has ls 4 [(2, .int x), (0, .ref (ev.2.1 j)), (1, .int a1), (3, .int a3)]) h hl (fun x2_3 h hl => ?_)
    refine lv_iload_n C.1.1 C.1.2.1 dJ1_indexOf_4cfef_15 rfl (lv_at hl 3 rfl) ?_
    refine lv_aload_n C.1.1 C.1.2.1 dJ1_indexOf_4cfef_16 rfl (lv_at hl 1 rfl) ?_
    refine r_sLen C hw hx dJ1_indexOf_4cfef_17 ?_
    obtain ⟨r_4, hc, h⟩ := bnd_some h
    refine r_sI (dc := 1) (As := [.int a3, .int (nI (SLEN.getD j 0))]) (rest := []) C hw sJ1_38 (fun sz => c_J9_min_7cf53 trivial hc sz) (by decide) rfl rfl hl.1 (Nat.le_of_ble_eq_true rfl) dJ1_indexOf_4cfef_18 ⟨Nat.le_refl _, Nat.le_refl _⟩ (fun H locs hw => ?_)
    refine lv_istore_n (lv' := [(3, .int r_4), (2, .int x2_3), (0, .ref (ev.2.1 j)), (1, .int a1)]) C.1.1 C.1.2.1 dJ1_indexOf_4cfef_21 rfl hl (by decide) rfl (fun ls hl => ?_)
    refine lt_gen (P := fun x => lv_has ls 4 [(3, .int x), (2, .int x2_3), (0, .ref (ev.2.1 j)), (1, .int a1)]) h hl (fun x3_5 h hl => ?_)
    refine lv_iload_n C.1.1 C.1.2.1 dJ1_indexOf_4cfef_22 rfl (lv_at hl 1 rfl) ?_
    refine lv_iload_n C.1.1 C.1.2.1 dJ1_indexOf_4cfef_23 rfl (lv_at hl 0 rfl) ?_
    refine lv_icmp_lt (tgt := 29) C.1.1 C.1.2.1 dJ1_indexOf_4cfef_24 (by decide) (fun hc => ?_) (fun hc => ?_)
    · replace h := ite_pos' h hc
      refine lv_aload_n C.1.1 C.1.2.1 dJ1_indexOf_4cfef_29 rfl (lv_at hl 2 rfl) ?_
      refine lv_iload_n C.1.1 C.1.2.1 dJ1_indexOf_4cfef_30 rfl (lv_at hl 3 rfl) ?_
      refine lv_iload_n C.1.1 C.1.2.1 dJ1_indexOf_4cfef_31 rfl (lv_at hl 1 rfl) ?_
      refine lv_iload_n C.1.1 C.1.2.1 dJ1_indexOf_4cfef_32 rfl (lv_at hl 0 rfl) ?_
      obtain ⟨r_6, hc, h⟩ := bnd_some h
      refine r_sI (dc := 1) (As := [.ref (ev.2.1 j), .int a1, .int x2_3, .int x3_5]) (rest := []) C hw sJ1_95 (fun sz => c_J1_indexOfChar_4cfef hx hc sz) (by decide) rfl rfl hl.1 (Nat.le_of_ble_eq_true rfl) dJ1_indexOf_4cfef_33 ⟨Nat.le_refl _, Nat.le_refl _⟩ (fun H locs hw => ?_)
      cases h
      exact r_iret C hw (Or.inl rfl) dJ1_indexOf_4cfef_36
    · replace h := ite_neg' h hc
      refine lv_iconst (v := (-1)) C.1.1 C.1.2.1 dJ1_indexOf_4cfef_27 (by decide) ?_
      cases h
      exact r_iret C hw (Or.inl rfl) dJ1_indexOf_4cfef_28
  · replace h := ite_pos' h hc
    refine lv_iconst (v := (-1)) C.1.1 C.1.2.1 dJ1_indexOf_4cfef_7 (by decide) ?_
    cases h
    exact r_iret C hw (Or.inl rfl) dJ1_indexOf_4cfef_8
set_option maxHeartbeats 4000000 in
set_option maxRecDepth 100000 in
theorem c_J1_indexOf_4cfef (hx : j < 3) {a1 : Int32} {a2 : Int32} {a3 : Int32} {g : GM} {r : Int32} (h : F_J1_indexOf_4cfef j a1 a2 a3 = some r) (sz : Nat) : Met l yJ1_indexOf_4cfef (WSX yJ1_indexOf_4cfef cJ1_indexOf_4cfef 4 (some .int)) (RM 2 0 0) (va_Pc [.ref (ev.2.1 j), .int a1, .int a2, .int a3] (PX D cA ev hr ad kl g sz)) (QI D cA ev hr ad (AX ad kl.length sz) kl r g) 0 0 (AX ad kl.length sz) :=
  met_ofF (own := RJ1) (by decide +kernel) rfl (Nat.le_of_ble_eq_true rfl) (fun p e s m below meth c ls C hw hsz hl => w_J1_indexOf_4cfef_0 C hx hw hl h)
set_option maxHeartbeats 4000000 in
set_option maxRecDepth 100000 in
theorem w_J0_indexOf_7cf53_0 (C : CX p s m args meth c RJ0 yJ0_indexOf_7cf53 cJ0_indexOf_7cf53 3 (some .int) D cA) (hx : j < 3) {H : Heap} {locs : List Loc} {g : GM} (hw : WS D cA ev hr ad A kl s H locs g) {a1 : Int32} {a2 : Int32} {ls : Array Slot} (hl : lv_has ls 3 [(0, .ref (ev.1 j)), (1, .int a1), (2, .int a2)]) {r : Int32} (h : F_J0_indexOf_7cf53 j a1 a2 = some r) : W p l e (RM 6 0 0) s m args below meth c H locs 0 0 (MQ below (QI D cA ev hr ad A kl r g) args s 0 0 A) (F0 m 0 ls []) := by
  refine lv_aload_n C.1.1 C.1.2.1 dJ0_indexOf_7cf53_0 rfl (lv_at hl 0 rfl) ?_
  obtain ⟨r_1, hc, h⟩ := bnd_some h
  refine r_strI (dc := 1) (As := []) (rest := []) C hw vJ0_492 hx rfl (fun sz => c_J0_isLatin1_aae02 hx hc sz) (by decide) rfl rfl hl.1 (Nat.le_of_ble_eq_true rfl) dJ0_indexOf_7cf53_1 ⟨Nat.le_refl _, Nat.le_refl _⟩ (fun H locs hw => ?_)
  refine lv_if_eq (tgt := 23) C.1.1 C.1.2.1 dJ0_indexOf_7cf53_4 (by decide) (fun hc => ?_) (fun hc => ?_)
  · replace h := ite_pos' h hc
    refine lv_aload_n C.1.1 C.1.2.1 dJ0_indexOf_7cf53_23 rfl (lv_at hl 0 rfl) ?_
    refine r_sVa C hw hx dJ0_indexOf_7cf53_24 ?_
    refine lv_iload_n C.1.1 C.1.2.1 dJ0_indexOf_7cf53_27 rfl (lv_at hl 1 rfl) ?_
    refine lv_iload_n C.1.1 C.1.2.1 dJ0_indexOf_7cf53_28 rfl (lv_at hl 2 rfl) ?_
    refine lv_aload_n C.1.1 C.1.2.1 dJ0_indexOf_7cf53_29 rfl (lv_at hl 0 rfl) ?_
    obtain ⟨r_2, hc, h⟩ := bnd_some h
    refine r_strI (dc := 2) (As := []) (rest := [.int a2, .int a1, .ref (ev.2.1 j)]) C hw vJ0_505 hx rfl (fun sz => c_J0_length_8abf5 hx hc sz) (by decide) rfl rfl hl.1 (Nat.le_of_ble_eq_true rfl) dJ0_indexOf_7cf53_30 ⟨Nat.le_refl _, Nat.le_refl _⟩ (fun H locs hw => ?_)
    exact (none_ne h).elim
  · replace h := ite_neg' h hc
    refine lv_aload_n C.1.1 C.1.2.1 dJ0_indexOf_7cf53_7 rfl (lv_at hl 0 rfl) ?_
    refine r_sVa C hw hx dJ0_indexOf_7cf53_8 ?_
    refine lv_iload_n C.1.1 C.1.2.1 dJ0_indexOf_7cf53_11 rfl (lv_at hl 1 rfl) ?_
    refine lv_iload_n C.1.1 C.1.2.1 dJ0_indexOf_7cf53_12 rfl (lv_at hl 2 rfl) ?_
    refine lv_aload_n C.1.1 C.1.2.1 dJ0_indexOf_7cf53_13 rfl (lv_at hl 0 rfl) ?_
    obtain ⟨r_3, hc, h⟩ := bnd_some h
    refine r_strI (dc := 2) (As := []) (rest := [.int a2, .int a1, .ref (ev.2.1 j)]) C hw vJ0_505 hx rfl (fun sz => c_J0_length_8abf5 hx hc sz) (by decide) rfl rfl hl.1 (Nat.le_of_ble_eq_true rfl) dJ0_indexOf_7cf53_14 ⟨Nat.le_refl _, Nat.le_refl _⟩ (fun H locs hw => ?_)
    obtain ⟨r_4, hc, h⟩ := bnd_some h
    refine r_sI (dc := 2) (As := [.ref (ev.2.1 j), .int a1, .int a2, .int r_3]) (rest := []) C hw sJ0_637 (fun sz => c_J1_indexOf_4cfef hx hc sz) (by decide) rfl rfl hl.1 (Nat.le_of_ble_eq_true rfl) dJ0_indexOf_7cf53_17 ⟨Nat.le_refl _, Nat.le_refl _⟩ (fun H locs hw => ?_)
    refine lv_goto (tgt := 36) C.1.1 C.1.2.1 dJ0_indexOf_7cf53_20 (by decide) ?_
    cases h
    exact r_iret C hw (Or.inl rfl) dJ0_indexOf_7cf53_36
set_option maxHeartbeats 4000000 in
set_option maxRecDepth 100000 in
theorem c_J0_indexOf_7cf53 (hx : j < 3) {a1 : Int32} {a2 : Int32} {g : GM} {r : Int32} (h : F_J0_indexOf_7cf53 j a1 a2 = some r) (sz : Nat) : Met l yJ0_indexOf_7cf53 (WSX yJ0_indexOf_7cf53 cJ0_indexOf_7cf53 3 (some .int)) (RM 6 0 0) (va_Pc [.ref (ev.1 j), .int a1, .int a2] (PX D cA ev hr ad kl g sz)) (QI D cA ev hr ad (AX ad kl.length sz) kl r g) 0 0 (AX ad kl.length sz) :=
  met_ofF (own := RJ0) (by decide +kernel) rfl (Nat.le_of_ble_eq_true rfl) (fun p e s m below meth c ls C hw hsz hl => w_J0_indexOf_7cf53_0 C hx hw hl h)
set_option maxHeartbeats 4000000 in
set_option maxRecDepth 100000 in
theorem w_J0_indexOf_0f7a4_0 (C : CX p s m args meth c RJ0 yJ0_indexOf_0f7a4 cJ0_indexOf_0f7a4 2 (some .int) D cA) (hx : j < 3) {H : Heap} {locs : List Loc} {g : GM} (hw : WS D cA ev hr ad A kl s H locs g) {a1 : Int32} {ls : Array Slot} (hl : lv_has ls 2 [(0, .ref (ev.1 j)), (1, .int a1)]) {r : Int32} (h : F_J0_indexOf_0f7a4 j a1 = some r) : W p l e (RM 7 0 0) s m args below meth c H locs 0 0 (MQ below (QI D cA ev hr ad A kl r g) args s 0 0 A) (F0 m 0 ls []) := by
  refine lv_aload_n C.1.1 C.1.2.1 dJ0_indexOf_0f7a4_0 rfl (lv_at hl 0 rfl) ?_
  refine lv_iload_n C.1.1 C.1.2.1 dJ0_indexOf_0f7a4_1 rfl (lv_at hl 1 rfl) ?_
  refine lv_iconst (v := 0) C.1.1 C.1.2.1 dJ0_indexOf_0f7a4_2 (by decide) ?_
  obtain ⟨r_1, hc, h⟩ := bnd_some h
  refine r_strI (dc := 6) (As := [.int a1, .int 0]) (rest := []) C hw vJ0_633 hx rfl (fun sz => c_J0_indexOf_7cf53 hx hc sz) (by decide) rfl rfl hl.1 (Nat.le_of_ble_eq_true rfl) dJ0_indexOf_0f7a4_3 ⟨Nat.le_refl _, Nat.le_refl _⟩ (fun H locs hw => ?_)
  cases h
  exact r_iret C hw (Or.inl rfl) dJ0_indexOf_0f7a4_6
set_option maxHeartbeats 4000000 in
set_option maxRecDepth 100000 in
theorem c_J0_indexOf_0f7a4 (hx : j < 3) {a1 : Int32} {g : GM} {r : Int32} (h : F_J0_indexOf_0f7a4 j a1 = some r) (sz : Nat) : Met l yJ0_indexOf_0f7a4 (WSX yJ0_indexOf_0f7a4 cJ0_indexOf_0f7a4 2 (some .int)) (RM 7 0 0) (va_Pc [.ref (ev.1 j), .int a1] (PX D cA ev hr ad kl g sz)) (QI D cA ev hr ad (AX ad kl.length sz) kl r g) 0 0 (AX ad kl.length sz) :=
  met_ofF (own := RJ0) (by decide +kernel) rfl (Nat.le_of_ble_eq_true rfl) (fun p e s m below meth c ls C hw hsz hl => w_J0_indexOf_0f7a4_0 C hx hw hl h)
set_option maxHeartbeats 4000000 in
set_option maxRecDepth 100000 in
theorem w_J3_checkIndex_8e157_n_9 {x0 : Int32} {x1 : Int32} {g : GM} {r : Int32} (C : CX p s m args meth c RJ3 yJ3_checkIndex_8e157 cJ3_checkIndex_8e157 3 (some .int) D cA) (hx : True) {H : Heap} {locs : List Loc} (hw : WS D cA ev hr ad A kl s H locs g) {ls : Array Slot} (hl : lv_has ls 3 [(0, .int x0), (1, .int x1), (2, .null)]) (h : F_J3_checkIndex_8e157_n_9 x0 x1 = some r) : W p l e (RM 1 0 0) s m args below meth c H locs 0 0 (MQ below (QI D cA ev hr ad A kl r g) args s 0 0 A) (F0 m 9 ls []) := by
  exact (none_ne h).elim
set_option maxHeartbeats 4000000 in
set_option maxRecDepth 100000 in
theorem w_J3_checkIndex_8e157_n_0 (C : CX p s m args meth c RJ3 yJ3_checkIndex_8e157 cJ3_checkIndex_8e157 3 (some .int) D cA) (hx : True) {H : Heap} {locs : List Loc} {g : GM} (hw : WS D cA ev hr ad A kl s H locs g) {a0 : Int32} {a1 : Int32} {ls : Array Slot} (hl : lv_has ls 3 [(0, .int a0), (1, .int a1), (2, .null)]) {r : Int32} (h : F_J3_checkIndex_8e157_n a0 a1 = some r) : W p l e (RM 1 0 0) s m args below meth c H locs 0 0 (MQ below (QI D cA ev hr ad A kl r g) args s 0 0 A) (F0 m 0 ls []) := by
  refine lv_iload_n C.1.1 C.1.2.1 dJ3_checkIndex_8e157_0 rfl (lv_at hl 0 rfl) ?_
  refine lv_if_lt (tgt := 9) C.1.1 C.1.2.1 dJ3_checkIndex_8e157_1 (by decide) (fun hc => ?_) (fun hc => ?_)
  · replace h := ite_pos' h hc
    exact w_J3_checkIndex_8e157_n_9 C hx hw hl h
  · replace h := ite_neg' h hc
    refine lv_iload_n C.1.1 C.1.2.1 dJ3_checkIndex_8e157_4 rfl (lv_at hl 0 rfl) ?_
    refine lv_iload_n C.1.1 C.1.2.1 dJ3_checkIndex_8e157_5 rfl (lv_at hl 1 rfl) ?_
    refine lv_icmp_lt (tgt := 16) C.1.1 C.1.2.1 dJ3_checkIndex_8e157_6 (by decide) (fun hc => ?_) (fun hc => ?_)
    · replace h := ite_pos' h hc
      refine lv_iload_n C.1.1 C.1.2.1 dJ3_checkIndex_8e157_16 rfl (lv_at hl 0 rfl) ?_
      cases h
      exact r_iret C hw (Or.inl rfl) dJ3_checkIndex_8e157_17
    · replace h := ite_neg' h hc
      exact w_J3_checkIndex_8e157_n_9 C hx hw hl h
set_option maxHeartbeats 4000000 in
set_option maxRecDepth 100000 in
theorem c_J3_checkIndex_8e157_n (hx : True) {a0 : Int32} {a1 : Int32} {g : GM} {r : Int32} (h : F_J3_checkIndex_8e157_n a0 a1 = some r) (sz : Nat) : Met l yJ3_checkIndex_8e157 (WSX yJ3_checkIndex_8e157 cJ3_checkIndex_8e157 3 (some .int)) (RM 1 0 0) (va_Pc [.int a0, .int a1, .null] (PX D cA ev hr ad kl g sz)) (QI D cA ev hr ad (AX ad kl.length sz) kl r g) 0 0 (AX ad kl.length sz) :=
  met_ofF (own := RJ3) (by decide +kernel) rfl (Nat.le_of_ble_eq_true rfl) (fun p e s m below meth c ls C hw hsz hl => w_J3_checkIndex_8e157_n_0 C hx hw hl h)
set_option maxHeartbeats 4000000 in
set_option maxRecDepth 100000 in
theorem w_J3_checkIndex_8e157_r_9 {x0 : Int32} {x1 : Int32} {g : GM} {r : Int32} (C : CX p s m args meth c RJ3 yJ3_checkIndex_8e157 cJ3_checkIndex_8e157 3 (some .int) D cA) (hx : True) {H : Heap} {locs : List Loc} (hw : WS D cA ev hr ad A kl s H locs g) {ls : Array Slot} (hl : lv_has ls 3 [(0, .int x0), (1, .int x1), (2, .ref q)]) (h : F_J3_checkIndex_8e157_r_9 x0 x1 = some r) : W p l e (RM 1 0 0) s m args below meth c H locs 0 0 (MQ below (QI D cA ev hr ad A kl r g) args s 0 0 A) (F0 m 9 ls []) := by
  exact (none_ne h).elim
set_option maxHeartbeats 4000000 in
set_option maxRecDepth 100000 in
theorem w_J3_checkIndex_8e157_r_0 (C : CX p s m args meth c RJ3 yJ3_checkIndex_8e157 cJ3_checkIndex_8e157 3 (some .int) D cA) (hx : True) {H : Heap} {locs : List Loc} {g : GM} (hw : WS D cA ev hr ad A kl s H locs g) {a0 : Int32} {a1 : Int32} {ls : Array Slot} (hl : lv_has ls 3 [(0, .int a0), (1, .int a1), (2, .ref q)]) {r : Int32} (h : F_J3_checkIndex_8e157_r a0 a1 = some r) : W p l e (RM 1 0 0) s m args below meth c H locs 0 0 (MQ below (QI D cA ev hr ad A kl r g) args s 0 0 A) (F0 m 0 ls []) := by
  refine lv_iload_n C.1.1 C.1.2.1 dJ3_checkIndex_8e157_0 rfl (lv_at hl 0 rfl) ?_
  refine lv_if_lt (tgt := 9) C.1.1 C.1.2.1 dJ3_checkIndex_8e157_1 (by decide) (fun hc => ?_) (fun hc => ?_)
  · replace h := ite_pos' h hc
    exact w_J3_checkIndex_8e157_r_9 C hx hw hl h
  · replace h := ite_neg' h hc
    refine lv_iload_n C.1.1 C.1.2.1 dJ3_checkIndex_8e157_4 rfl (lv_at hl 0 rfl) ?_
    refine lv_iload_n C.1.1 C.1.2.1 dJ3_checkIndex_8e157_5 rfl (lv_at hl 1 rfl) ?_
    refine lv_icmp_lt (tgt := 16) C.1.1 C.1.2.1 dJ3_checkIndex_8e157_6 (by decide) (fun hc => ?_) (fun hc => ?_)
    · replace h := ite_pos' h hc
      refine lv_iload_n C.1.1 C.1.2.1 dJ3_checkIndex_8e157_16 rfl (lv_at hl 0 rfl) ?_
      cases h
      exact r_iret C hw (Or.inl rfl) dJ3_checkIndex_8e157_17
    · replace h := ite_neg' h hc
      exact w_J3_checkIndex_8e157_r_9 C hx hw hl h
set_option maxHeartbeats 4000000 in
set_option maxRecDepth 100000 in
theorem c_J3_checkIndex_8e157_r (hx : True) {a0 : Int32} {a1 : Int32} {g : GM} {r : Int32} (h : F_J3_checkIndex_8e157_r a0 a1 = some r) (sz : Nat) : Met l yJ3_checkIndex_8e157 (WSX yJ3_checkIndex_8e157 cJ3_checkIndex_8e157 3 (some .int)) (RM 1 0 0) (va_Pc [.int a0, .int a1, .ref q] (PX D cA ev hr ad kl g sz)) (QI D cA ev hr ad (AX ad kl.length sz) kl r g) 0 0 (AX ad kl.length sz) :=
  met_ofF (own := RJ3) (by decide +kernel) rfl (Nat.le_of_ble_eq_true rfl) (fun p e s m below meth c ls C hw hsz hl => w_J3_checkIndex_8e157_r_0 C hx hw hl h)
set_option maxHeartbeats 4000000 in
theorem w_J0_checkIndex_df160_0 (C : CX p s m args meth c RJ0 yJ0_checkIndex_df160 cJ0_checkIndex_df160 2 none D cA) {H : Heap} {locs : List Loc} {g : GM} (hw : WS D cA ev hr ad A kl s H locs g) {a0 a1 : Int32} {ls : Array Slot} (hl : lv_has ls 2 [(0, .int a0), (1, .int a1)]) (h : F_J0_checkIndex_df160 a0 a1 = some ()) : W p l e (RM 2 0 0) s m args below meth c H locs 0 0 (MQ below (QV D cA ev hr ad A kl g) args s 0 0 A) (F0 m 0 ls []) := by
  refine lv_iload_n C.1.1 C.1.2.1 dJ0_checkIndex_df160_0 rfl (lv_at hl 0 rfl) ?_
  refine lv_iload_n C.1.1 C.1.2.1 dJ0_checkIndex_df160_1 rfl (lv_at hl 1 rfl) ?_
  refine r_sFm C hw dJ0_checkIndex_df160_2 ?_
  obtain ⟨r_1, hc, h⟩ := bnd_some h
  rcases hq : ev.2.2 with _ | q
  · refine r_sI (dc := 1) (As := [.int a0, .int a1, .null]) (rest := []) C hw sJ0_1059 (fun sz => c_J3_checkIndex_8e157_n trivial hc sz) (by decide) rfl rfl hl.1 (Nat.le_of_ble_eq_true rfl) dJ0_checkIndex_df160_5 ⟨Nat.le_refl _, Nat.le_refl _⟩ (fun H locs hw => ?_)
    refine lv_pop C.1.1 C.1.2.1 dJ0_checkIndex_df160_8 rfl ?_
    exact r_vret C hw rfl dJ0_checkIndex_df160_9
  · refine r_sI (dc := 1) (As := [.int a0, .int a1, .ref q]) (rest := []) C hw sJ0_1059 (fun sz => c_J3_checkIndex_8e157_r trivial hc sz) (by decide) rfl rfl hl.1 (Nat.le_of_ble_eq_true rfl) dJ0_checkIndex_df160_5 ⟨Nat.le_refl _, Nat.le_refl _⟩ (fun H locs hw => ?_)
    refine lv_pop C.1.1 C.1.2.1 dJ0_checkIndex_df160_8 rfl ?_
    exact r_vret C hw rfl dJ0_checkIndex_df160_9
theorem c_J0_checkIndex_df160 (hx : True) {a0 a1 : Int32} {g : GM} (h : F_J0_checkIndex_df160 a0 a1 = some ()) (sz : Nat) : Met l yJ0_checkIndex_df160 (WSX yJ0_checkIndex_df160 cJ0_checkIndex_df160 2 none) (RM 2 0 0) (va_Pc [.int a0, .int a1] (PX D cA ev hr ad kl g sz)) (QV D cA ev hr ad (AX ad kl.length sz) kl g) 0 0 (AX ad kl.length sz) :=
  met_ofF (own := RJ0) (by decide +kernel) rfl (Nat.le_of_ble_eq_true rfl) (fun p e s m below meth c ls C hw hsz hl => w_J0_checkIndex_df160_0 C hw hl h)
set_option maxHeartbeats 4000000 in
set_option maxRecDepth 100000 in
theorem w_J1_charAt_3b067_0 (C : CX p s m args meth c RJ1 yJ1_charAt_3b067 cJ1_charAt_3b067 2 (some .char) D cA) (hx : j < 3) {H : Heap} {locs : List Loc} {g : GM} (hw : WS D cA ev hr ad A kl s H locs g) {a1 : Int32} {ls : Array Slot} (hl : lv_has ls 2 [(0, .ref (ev.2.1 j)), (1, .int a1)]) {r : Int32} (h : F_J1_charAt_3b067 j a1 = some r) : W p l e (RM 3 0 0) s m args below meth c H locs 0 0 (MQ below (QI D cA ev hr ad A kl r g) args s 0 0 A) (F0 m 0 ls []) := by
  refine lv_iload_n C.1.1 C.1.2.1 dJ1_charAt_3b067_0 rfl (lv_at hl 1 rfl) ?_
  refine lv_aload_n C.1.1 C.1.2.1 dJ1_charAt_3b067_1 rfl (lv_at hl 0 rfl) ?_
  refine r_sLen C hw hx dJ1_charAt_3b067_2 ?_
  obtain ⟨_, hc, h⟩ := bnd_some h
  refine r_sV (dc := 2) (As := [.int a1, .int (nI (SLEN.getD j 0))]) (rest := []) C hw sJ1_9 (fun sz => c_J0_checkIndex_df160 trivial hc sz) (by decide) rfl rfl hl.1 (Nat.le_of_ble_eq_true rfl) dJ1_charAt_3b067_3 ⟨Nat.le_refl _, Nat.le_refl _⟩ (fun H locs hw => ?_)
  refine lv_aload_n C.1.1 C.1.2.1 dJ1_charAt_3b067_6 rfl (lv_at hl 0 rfl) ?_
  refine lv_iload_n C.1.1 C.1.2.1 dJ1_charAt_3b067_7 rfl (lv_at hl 1 rfl) ?_
  obtain ⟨hz, h⟩ := ck_some h
  refine r_sBy C hw hx (inB_in hz) dJ1_charAt_3b067_8 ?_
  refine lv_sipush (v := 255) C.1.1 C.1.2.1 dJ1_charAt_3b067_9 (by decide) ?_
  refine lv_iand C.1.1 C.1.2.1 dJ1_charAt_3b067_12 ?_
  refine lv_i2c (v := ((((SBYT.getD j []).getD a1.toNatClampNeg 0) &&& 255).toUInt32 % 65536).toInt32) C.1.1 C.1.2.1 dJ1_charAt_3b067_13 rfl ?_
  obtain ⟨hz, h⟩ := ck_some h
  cases h
  exact r_retG C hw rfl (chB_n hz) dJ1_charAt_3b067_14
set_option maxHeartbeats 4000000 in
set_option maxRecDepth 100000 in
theorem c_J1_charAt_3b067 (hx : j < 3) {a1 : Int32} {g : GM} {r : Int32} (h : F_J1_charAt_3b067 j a1 = some r) (sz : Nat) : Met l yJ1_charAt_3b067 (WSX yJ1_charAt_3b067 cJ1_charAt_3b067 2 (some .char)) (RM 3 0 0) (va_Pc [.ref (ev.2.1 j), .int a1] (PX D cA ev hr ad kl g sz)) (QI D cA ev hr ad (AX ad kl.length sz) kl r g) 0 0 (AX ad kl.length sz) :=
  met_ofF (own := RJ1) (by decide +kernel) rfl (Nat.le_of_ble_eq_true rfl) (fun p e s m below meth c ls C hw hsz hl => w_J1_charAt_3b067_0 C hx hw hl h)
set_option maxHeartbeats 4000000 in
set_option maxRecDepth 100000 in
theorem w_J0_charAt_5068e_0 (C : CX p s m args meth c RJ0 yJ0_charAt_5068e cJ0_charAt_5068e 2 (some .char) D cA) (hx : j < 3) {H : Heap} {locs : List Loc} {g : GM} (hw : WS D cA ev hr ad A kl s H locs g) {a1 : Int32} {ls : Array Slot} (hl : lv_has ls 2 [(0, .ref (ev.1 j)), (1, .int a1)]) {r : Int32} (h : F_J0_charAt_5068e j a1 = some r) : W p l e (RM 5 0 0) s m args below meth c H locs 0 0 (MQ below (QI D cA ev hr ad A kl r g) args s 0 0 A) (F0 m 0 ls []) := by
  refine lv_aload_n C.1.1 C.1.2.1 dJ0_charAt_5068e_0 rfl (lv_at hl 0 rfl) ?_
  obtain ⟨r_1, hc, h⟩ := bnd_some h
  refine r_strI (dc := 1) (As := []) (rest := []) C hw vJ0_492 hx rfl (fun sz => c_J0_isLatin1_aae02 hx hc sz) (by decide) rfl rfl hl.1 (Nat.le_of_ble_eq_true rfl) dJ0_charAt_5068e_1 ⟨Nat.le_refl _, Nat.le_refl _⟩ (fun H locs hw => ?_)
  refine lv_if_eq (tgt := 16) C.1.1 C.1.2.1 dJ0_charAt_5068e_4 (by decide) (fun hc => ?_) (fun hc => ?_)
  · replace h := ite_pos' h hc
    refine lv_aload_n C.1.1 C.1.2.1 dJ0_charAt_5068e_16 rfl (lv_at hl 0 rfl) ?_
    refine r_sVa C hw hx dJ0_charAt_5068e_17 ?_
    refine lv_iload_n C.1.1 C.1.2.1 dJ0_charAt_5068e_20 rfl (lv_at hl 1 rfl) ?_
    exact (none_ne h).elim
  · replace h := ite_neg' h hc
    refine lv_aload_n C.1.1 C.1.2.1 dJ0_charAt_5068e_7 rfl (lv_at hl 0 rfl) ?_
    refine r_sVa C hw hx dJ0_charAt_5068e_8 ?_
    refine lv_iload_n C.1.1 C.1.2.1 dJ0_charAt_5068e_11 rfl (lv_at hl 1 rfl) ?_
    obtain ⟨r_2, hc, h⟩ := bnd_some h
    refine r_sI (dc := 3) (As := [.ref (ev.2.1 j), .int a1]) (rest := []) C hw sJ0_495 (fun sz => c_J1_charAt_3b067 hx hc sz) (by decide) rfl rfl hl.1 (Nat.le_of_ble_eq_true rfl) dJ0_charAt_5068e_12 ⟨Nat.le_refl _, Nat.le_refl _⟩ (fun H locs hw => ?_)
    obtain ⟨hz, h⟩ := ck_some h
    cases h
    exact r_retG C hw rfl (chB_n hz) dJ0_charAt_5068e_15
set_option maxHeartbeats 4000000 in
set_option maxRecDepth 100000 in
theorem c_J0_charAt_5068e (hx : j < 3) {a1 : Int32} {g : GM} {r : Int32} (h : F_J0_charAt_5068e j a1 = some r) (sz : Nat) : Met l yJ0_charAt_5068e (WSX yJ0_charAt_5068e cJ0_charAt_5068e 2 (some .char)) (RM 5 0 0) (va_Pc [.ref (ev.1 j), .int a1] (PX D cA ev hr ad kl g sz)) (QI D cA ev hr ad (AX ad kl.length sz) kl r g) 0 0 (AX ad kl.length sz) :=
  met_ofF (own := RJ0) (by decide +kernel) rfl (Nat.le_of_ble_eq_true rfl) (fun p e s m below meth c ls C hw hsz hl => w_J0_charAt_5068e_0 C hx hw hl h)

def ixS (s c : Int32) : Option Int32 := if s = 0 then none else F_J0_indexOf_0f7a4 (if s = 1 then 0 else 2) c
theorem r_ixS {H : Heap} {locs : List Loc} {cells slots mc ms d pc idx nL : Nat} {Q : State → Prop} {own : String} {y : MethodName} {cc : ByteArray} {ret : Option FieldType} {g : GM} {ls : Array Slot} {rest : List Value} {sx x r : Int32} (C : CX p s m args meth c own y cc nL ret D cA) (hw : WS D cA ev hr ad A kl s H locs g) (hcv : CV own idx yJ0_indexOf_0f7a4 cJ0_indexOf_0f7a4 2 1 (some .int)) (hc : ixS sx x = some r) (hdd : 7 + 1 ≤ d) (hls : ls.size = nL) (hro : (rest.map fun v => v.category).sum ≤ 8) (hd : decode cc pc = .ok (.invokevirtual idx, 3))
    (hf : cells ≤ mc ∧ slots ≤ ms) (kk : ∀ (H1 : Heap) (locs1 : List Loc), WS D cA ev hr ad A kl s H1 locs1 g → W p l e (RM d mc ms) s m args below meth c H1 locs1 cells slots Q (F0 m (pc + 3) ls (.int r :: rest))) : W p l e (RM d mc ms) s m args below meth c H locs cells slots Q (F0 m pc ls (.int x :: svK ev sx :: rest)) := by
  unfold ixS at hc
  by_cases h0 : sx = 0
  · rw [if_pos h0] at hc; cases hc
  · rw [if_neg h0] at hc
    have hj : (if sx = 1 then 0 else 2) < 3 := by split <;> decide
    have e : svK ev sx = .ref (ev.1 (if sx = 1 then 0 else 2)) := by simp [svK, h0]
    rw [e]
    exact r_strI (dc := 7) (As := [.int x]) (rest := rest) C hw hcv hj rfl (fun sz => c_J0_indexOf_0f7a4 hj hc sz) hdd rfl rfl hls hro hd hf (fun H1 locs1 h => kk H1 locs1 h)
theorem r_ldS1 {H : Heap} {locs : List Loc} {cells slots pc nL : Nat} {R : Room} {Q : State → Prop} {y : MethodName} {cc : ByteArray} {ret : Option FieldType} {g : GM} {ls : Array Slot} {rest : List Value} (C : CX p s m args meth c RX4 y cc nL ret D cA) (hw : WS D cA ev hr ad A kl s H locs g) (hd : decode cc pc = .ok (.ldc 19, 2))
    (kk : W p l e R s m args below meth c H locs cells slots Q (F0 m (pc + 2) ls (svK ev 1 :: rest))) : W p l e R s m args below meth c H locs cells slots Q (F0 m pc ls rest) :=
  va_ldcS C.1.1 C.1.2.1 C.1.2.2.2.1 hw.2.2.2.2.2.2.1.1 hd (by simpa [svK] using kk)
theorem r_ldS2 {H : Heap} {locs : List Loc} {cells slots pc nL : Nat} {R : Room} {Q : State → Prop} {y : MethodName} {cc : ByteArray} {ret : Option FieldType} {g : GM} {ls : Array Slot} {rest : List Value} (C : CX p s m args meth c RX4 y cc nL ret D cA) (hw : WS D cA ev hr ad A kl s H locs g) (hd : decode cc pc = .ok (.ldc 45, 2))
    (kk : W p l e R s m args below meth c H locs cells slots Q (F0 m (pc + 2) ls (svK ev 2 :: rest))) : W p l e R s m args below meth c H locs cells slots Q (F0 m pc ls rest) :=
  va_ldcS C.1.1 C.1.2.1 C.1.2.2.2.1 hw.2.2.2.2.2.2.1.2.2 hd (by simpa [svK] using kk)
theorem r_ldS3 {H : Heap} {locs : List Loc} {cells slots pc nL : Nat} {R : Room} {Q : State → Prop} {y : MethodName} {cc : ByteArray} {ret : Option FieldType} {g : GM} {ls : Array Slot} {rest : List Value} (C : CX p s m args meth c RX4 y cc nL ret D cA) (hw : WS D cA ev hr ad A kl s H locs g) (hd : decode cc pc = .ok (.ldc 29, 2))
    (kk : W p l e R s m args below meth c H locs cells slots Q (F0 m (pc + 2) ls (.ref (ev.1 1) :: rest))) : W p l e R s m args below meth c H locs cells slots Q (F0 m pc ls rest) :=
  va_ldcS C.1.1 C.1.2.1 C.1.2.2.2.1 hw.2.2.2.2.2.2.1.2.1 hd kk
theorem r_putSg {H : Heap} {locs : List Loc} {cells slots pc nL : Nat} {R : Room} {Q : State → Prop} {own : String} {y : MethodName} {cc : ByteArray} {ret : Option FieldType} {g : GM} {ls : Array Slot} {rest : List Value} {v : Int32} (C : CX p s m args meth c own y cc nL ret D cA) (hw : WS D cA ev hr ad A kl s H locs g) {i k idx : Nat} (hk : kl[i]? = some (4, NN 4)) (hf : FL own idx 4 k) (ht : fk 4 k = 3) (hz : ¬ v = 0) (hfin : (TT 4 k).2.2.2 = false ∨ (y.name = "<init>" ∧ (TT 4 k).1 = own)) (hd : decode cc pc = .ok (.putfield idx, 3))
    (kk : ∀ (H1 : Heap) (locs1 : List Loc), WS D cA ev hr ad A kl s H1 locs1 (si g i k v) → W p l e R s m args below meth c H1 locs1 cells slots Q (F0 m (pc + 3) ls rest)) : W p l e R s m args below meth c H locs cells slots Q (F0 m pc ls (svK ev v :: .ref (ad i) :: rest)) := by
  have e : svK ev v = .ref (ev.1 (if v = 1 then 0 else 2)) := by simp [svK, hz]
  have hk3 : k = 3 := by
    have hb := hf.1.2
    match k, ht, hb with
    | 3, _, _ => rfl
    | 0, h, _ | 1, h, _ | 2, h, _ | 4, h, _ | 5, h, _ | 6, h, _ | 7, h, _ | 8, h, _ | 9, h, _ | 10, h, _ => exact absurd h (by decide)
    | n + 11, _, h => exact absurd h (by show ¬ (n + 11 < 11); omega)
  subst hk3
  rw [e]
  exact r_putS C hw hk hf ht e rfl rfl hfin hd kk
end WJ

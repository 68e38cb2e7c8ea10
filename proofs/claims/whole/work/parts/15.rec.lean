-- X0_search 
def F_X0_searchR_59 (rc : Int32 → Int32 → Int32 → GM → Option (Int32)) (x3 : Int32) (x4 : Int32) (x5 : Int32) (g : GM) : Option (Int32) :=
  if x5 < (gi g 6 6) then
    (rc (x5 + 1) (x4 ||| (1 <<< (x5 &&& 31))) x3 g).bind fun r_1 =>
    lt r_1 fun x6_2 =>
    if x6_2 = ((-1)) then
      (rc (x5 + 1) x4 (x3 ||| (1 <<< (x5 &&& 31))) g).bind fun r_3 =>
      some r_3
    else
      some x6_2
  else
    some x4
def F_X0_searchR_29B (rc : Int32 → Int32 → Int32 → GM → Option (Int32)) (x3 : Int32) (x4 : Int32) (g : GM) (kb29 : Int32 → Option (Int32)) : Int32 → Option (Int32) := fun x5 =>
  if (gi g 6 6) ≤ x5 then
    F_X0_searchR_59 rc x3 x4 x5 g
  else
    (F_X6_has (x4 ||| x3) x5).bind fun r_4 =>
    if r_4 = 0 then
      F_X0_searchR_59 rc x3 x4 x5 g
    else
      lt (x5 + 1) fun x5_5 =>
      kb29 x5_5
def F_X0_searchR (rc : Int32 → Int32 → Int32 → GM → Option (Int32)) (a1 : Int32) (a2 : Int32) (a3 : Int32) (g : GM) : Option (Int32) :=
  (F_X0_settled a2 a3 g).bind fun r_6 =>
  lt r_6 fun x4_7 =>
  if x4_7 = ((-1)) then
    some ((-1))
  else
    (F_X0_isWithinLimits x4_7 a3 g).bind fun r_8 =>
    if r_8 = 0 then
      some ((-1))
    else
      fixN (F_X0_searchR_29B rc a3 x4_7 g) FU a1

-- X0_search glue

def F_X0_search : Nat → Int32 → Int32 → Int32 → GM → Option Int32
  | 0 => fun _ _ _ _ => none
  | n + 1 => F_X0_searchR (F_X0_search n)

-- X0_cut 
def F_X0_cut_133 (x1 : Int32) (x3 : Int32) (g : GM) : Option (Int32 × GM) :=
  if x3 = ((-1)) then
    some (x1, g)
  else
    some (x3, g)
def F_X0_cut_99B (x1 : Int32) (x2 : Int32) (kb99 : Int32 × Int32 × GM → Option (Int32 × GM)) : Int32 × Int32 × GM → Option (Int32 × GM) := fun (x3, x4, g) =>
  if x2 < x4 then
    F_X0_cut_133 x1 x3 g
  else
    if x3 = ((-1)) then
      lt (si g 42 5 x4) fun g_1 =>
      (F_X0_search 20 0 0 (gi g_1 42 2) g_1).bind fun r_2 =>
      lt r_2 fun x3_3 =>
      lt (x4 + 1) fun x4_4 =>
      kb99 (x3_3, x4_4, g_1)
    else
      F_X0_cut_133 x1 x3 g
def F_X0_cut_93 (x1 : Int32) (s0 : Int32) (g : GM) : Option (Int32 × GM) :=
  fixN (F_X0_cut_99B x1 s0) FU ((-1), 0, g)
def F_X0_cut_76 (x1 : Int32) (g : GM) : Option (Int32 × GM) :=
  if (gi g 42 3) = 0 then
    F_X0_cut_93 x1 ((-1)) g
  else
    (F_J6_bitCount_0f7a4 x1).bind fun r_5 =>
    F_X0_cut_93 x1 (r_5 - 1) g
def F_X0_cut_38B (kb38 : Int32 × Int32 × GM → Option (Int32 × GM)) : Int32 × Int32 × GM → Option (Int32 × GM) := fun (x1, x2, g) =>
  if (gi g 6 6) < x2 then
    F_X0_cut_76 x1 g
  else
    if x1 = ((-1)) then
      lt (si g 42 4 x2) fun g_6 =>
      (F_X0_search 20 0 0 (gi g_6 42 2) g_6).bind fun r_7 =>
      lt r_7 fun x1_8 =>
      lt (x2 + 1) fun x2_9 =>
      kb38 (x1_8, x2_9, g_6)
    else
      F_X0_cut_76 x1 g
def F_X0_cut (g : GM) : Option (Int32 × GM) :=
  (F_X2_allRows_s g).bind fun r_10 =>
  (F_X0_isPiece (r_10 &&& ((gi g 42 2) ^^^ ((-1)))) g).bind fun r_11 =>
  if r_11 = 0 then
    some ((-1), g)
  else
    lt (si g 42 5 (gi g 6 6)) fun g_12 =>
    fixN (F_X0_cut_38B) FU ((-1), 0, g_12)

-- X5_readEither 
def F_X5_readEitherR_82 (rc : Int32 → GM → Option (Int32 × GM)) (kb7 : Int32 × Int32 × Int32 × GM → Option (Int32 × GM)) (x1 : Int32) (x2 : Int32) (x3 : Int32) (x4 : Int32) (g : GM) : Option (Int32 × GM) :=
  (F_X4_advance g).bind fun g_1 =>
  lt (x4 + 1) fun x4_2 =>
  kb7 (x2, x3, x4_2, g_1)
def F_X5_readEitherR_63 (rc : Int32 → GM → Option (Int32 × GM)) (kb7 : Int32 × Int32 × Int32 × GM → Option (Int32 × GM)) (x1 : Int32) (x2 : Int32) (x3 : Int32) (x4 : Int32) (x5 : Int32) (g : GM) : Option (Int32 × GM) :=
  if x5 = 0 then
    if (gi g 1 5) = 14 then
      F_X5_readEitherR_82 rc kb7 x1 x2 x3 x4 g
    else
      some (x2, g)
  else
    F_X5_readEitherR_82 rc kb7 x1 x2 x3 x4 g
def F_X5_readEitherR_50 (rc : Int32 → GM → Option (Int32 × GM)) (kb7 : Int32 × Int32 × Int32 × GM → Option (Int32 × GM)) (x1 : Int32) (x2 : Int32) (x3 : Int32) (x4 : Int32) (s0 : Int32) (g : GM) : Option (Int32 × GM) :=
  if s0 = 0 then
    lt (x2 ||| x3) fun x2_3 =>
    F_X5_readEitherR_63 rc kb7 x1 x2_3 ((-1)) x4 s0 g
  else
    F_X5_readEitherR_63 rc kb7 x1 x2 x3 x4 s0 g
def F_X5_readEitherR_7B (rc : Int32 → GM → Option (Int32 × GM)) (x1 : Int32) (kb7 : Int32 × Int32 × Int32 × GM → Option (Int32 × GM)) : Int32 × Int32 × Int32 × GM → Option (Int32 × GM) := fun (x2, x3, x4, g) =>
  if 600 < x4 then
    some (x2, g)
  else
    if (gi g 1 9) = 0 then
      (rc x1 g).bind fun (r_4, g_5) =>
      lt (x3 &&& r_4) fun x3_6 =>
      if (gi g_5 1 5) = 13 then
        F_X5_readEitherR_50 rc kb7 x1 x2 x3_6 x4 1 g_5
      else
        F_X5_readEitherR_50 rc kb7 x1 x2 x3_6 x4 0 g_5
    else
      some (x2, g)
def F_X5_readEitherR (rc : Int32 → GM → Option (Int32 × GM)) (a1 : Int32) (g : GM) : Option (Int32 × GM) :=
  fixN (F_X5_readEitherR_7B rc a1) FU (0, (-1), 0, g)

-- X5_readOne 
def F_X5_readOneR (rc : Int32 → GM → Option (Int32 × GM)) (rd : Int32 → GM → Option (Int32 × GM)) (a1 : Int32) (g : GM) : Option (Int32 × GM) :=
  if (gi g 1 9) = 0 then
    if a1 < 6 then
      if (gi g 1 5) = 12 then
        (F_X4_advance g).bind fun g_10 =>
        (rc (a1 + 1) g_10).bind fun (r_11, g_12) =>
        some (r_11 ^^^ ((-1)), g_12)
      else
        if (gi g 1 5) = 40 then
          (F_X4_advance g).bind fun g_4 =>
          (rd (a1 + 1) g_4).bind fun (r_5, g_6) =>
          lt r_5 fun x2_7 =>
          (F_X4_take 41 g_6).bind fun (r_8, g_9) =>
          some (x2_7, g_9)
        else
          (F_X5_readPath g).bind fun g_1 =>
          (F_X5_readComparison g_1).bind fun (r_2, g_3) =>
          some (r_2, g_3)
    else
      (F_X4_refuseToken g).bind fun g_13 =>
      some (0, g_13)
  else
    some (0, g)

-- X5_readOne glue

def F_X5_readOne : Nat → Int32 → GM → Option (Int32 × GM)
  | 0 => fun _ _ => none
  | n + 1 => F_X5_readOneR (F_X5_readOne n) (F_X5_readEitherR (F_X5_readOne n))
def F_X5_readEither (a1 : Int32) (g : GM) : Option (Int32 × GM) := F_X5_readEitherR (F_X5_readOne 16) a1 g

-- X5_readWish 
def F_X5_readWish_77 (x1 : Int32) (x2 : Int32) (g : GM) : Option (GM) :=
  (F_X4_take 59 g).bind fun (r_1, g_2) =>
  if r_1 = 0 then
    some g_2
  else
    (F_X1_addWish_e (gi g_2 42 6) x1 x2 g_2).bind fun g_3 =>
    some g_3
def F_X5_readWish (g : GM) : Option (GM) :=
  (F_X4_advance g).bind fun g_4 =>
  (F_X5_readNeed g_4).bind fun (r_5, g_6) =>
  lt r_5 fun x1_7 =>
  (F_X4_takeTable_s g_6).bind fun (r_8, g_9) =>
  lt (si g_9 42 6 r_8) fun g_10 =>
  if (gi g_10 1 9) = 0 then
    (F_X2_rowsOf_s (gi g_10 42 6) g_10).bind fun r_11 =>
    lt r_11 fun x2_12 =>
    if (gi g_10 1 5) = 9 then
      (F_X4_advance g_10).bind fun g_13 =>
      (F_X5_readEither 0 g_13).bind fun (r_14, g_15) =>
      lt (x2_12 &&& r_14) fun x2_16 =>
      F_X5_readWish_77 x1_7 x2_16 g_15
    else
      F_X5_readWish_77 x1_7 x2_12 g_10
  else
    some g_10

-- X5_readAll 
def F_X5_readAll_106 (g : GM) : Option (Int32 × GM) :=
  if (gi g 1 9) = 0 then
    some (1, g)
  else
    some (0, g)
def F_X5_readAll_100 (kb17 : Int32 × GM → Option (Int32 × GM)) (x1 : Int32) (g : GM) : Option (Int32 × GM) :=
  lt (x1 + 1) fun x1_1 =>
  kb17 (x1_1, g)
def F_X5_readAll_93 (kb17 : Int32 × GM → Option (Int32 × GM)) (x1 : Int32) (g : GM) : Option (Int32 × GM) :=
  (F_X4_refuseToken g).bind fun g_2 =>
  F_X5_readAll_100 kb17 x1 g_2
def F_X5_readAll_68 (kb17 : Int32 × GM → Option (Int32 × GM)) (x1 : Int32) (g : GM) : Option (Int32 × GM) :=
  if (gi g 1 5) = 8 then
    if 10 ≤ x1 then
      F_X5_readAll_93 kb17 x1 g
    else
      (F_X5_readLaw g).bind fun g_3 =>
      F_X5_readAll_100 kb17 x1 g_3
  else
    F_X5_readAll_93 kb17 x1 g
def F_X5_readAll_17B (kb17 : Int32 × GM → Option (Int32 × GM)) : Int32 × GM → Option (Int32 × GM) := fun (x1, g) =>
  if 10 < x1 then
    F_X5_readAll_106 g
  else
    if (gi g 1 9) = 0 then
      if (gi g 1 5) = 0 then
        F_X5_readAll_106 g
      else
        if (gi g 1 5) = 7 then
          if 10 ≤ x1 then
            F_X5_readAll_68 kb17 x1 g
          else
            (F_X5_readWish g).bind fun g_4 =>
            F_X5_readAll_100 kb17 x1 g_4
        else
          F_X5_readAll_68 kb17 x1 g
    else
      F_X5_readAll_106 g
def F_X5_readAll (g : GM) : Option (Int32 × GM) :=
  (F_X1_clear_e g).bind fun g_5 =>
  (F_X4_open 1 g_5).bind fun g_6 =>
  fixN (F_X5_readAll_17B) FU (0, g_6)

section WXR
variable {p : Program} {l : Launch} {e : Env} {s : State} {m : MethodId} {args : Array Value} {below : List Frame} {meth : Method} {c : Code} {D : va_G} {cA : Nat → ClassId} {ev : EVa} {hr : Nat → Nat → Value} {ad : Nat → Nat} {A : Nat → Prop} {tl : List (Nat × Nat)}
set_option maxHeartbeats 4000000 in
set_option maxRecDepth 100000 in
theorem w_X0_search_59 {dd : Nat} (rc : Int32 → Int32 → Int32 → GM → Option (Int32)) (hrc : ∀ (x1 x2 x3 : Int32) (g : GM) (r : Int32), rc x1 x2 x3 g = some r → ∀ sz : Nat, Met l yX0_search (WSX yX0_search cX0_search 7 (some .int)) (RM dd 0 0) (va_Pc [.ref (ad 42), .int x1, .int x2, .int x3] (PX D cA ev hr ad (KX ++ [(0, 6)]) g sz)) (QI D cA ev hr ad (AX ad (KX ++ [(0, 6)]).length sz) (KX ++ [(0, 6)]) r g) 0 0 (AX ad (KX ++ [(0, 6)]).length sz)) {x3 : Int32} {x4 : Int32} {x5 : Int32} {g : GM} {r : Int32} (C : CX p s m args meth c RX0 yX0_search cX0_search 7 (some .int) D cA) (hx : HC hr ad) {H : Heap} {locs : List Loc} (hw : WS D cA ev hr ad A (KX ++ [(0, 6)]) s H locs g) {ls : Array Slot} (hl : lv_has ls 7 [(0, .ref (ad 42)), (3, .int x3), (4, .int x4), (5, .int x5)]) (h : F_X0_searchR_59 rc x3 x4 x5 g = some r) : W p l e (RM (dd + 12) 0 0) s m args below meth c H locs 0 0 (MQ below (QI D cA ev hr ad A (KX ++ [(0, 6)]) r g) args s 0 0 A) (F0 m 59 ls []) := by
  refine lv_iload C.1.1 C.1.2.1 dX0_search_59 (lv_at hl 3 rfl) ?_
  refine lv_aload_n C.1.1 C.1.2.1 dX0_search_61 rfl (lv_at hl 0 rfl) ?_
  refine r_getR (v := .ref (ad 6)) C hw kLC42 fX0_9 rfl hx.2.1 dX0_search_62 ?_
  refine r_getI C hw (kx6 _) fX0_26 rfl dX0_search_65 ?_
  refine lv_icmp_lt (tgt := 74) C.1.1 C.1.2.1 dX0_search_68 (by decide) (fun hc => ?_) (fun hc => ?_)
  · replace h := ite_pos' h hc
    refine lv_aload_n C.1.1 C.1.2.1 dX0_search_74 rfl (lv_at hl 0 rfl) ?_
    refine lv_iload C.1.1 C.1.2.1 dX0_search_75 (lv_at hl 3 rfl) ?_
    refine lv_iconst (v := 1) C.1.1 C.1.2.1 dX0_search_77 (by decide) ?_
    refine lv_iadd C.1.1 C.1.2.1 dX0_search_78 ?_
    refine lv_iload C.1.1 C.1.2.1 dX0_search_79 (lv_at hl 2 rfl) ?_
    refine lv_iconst (v := 1) C.1.1 C.1.2.1 dX0_search_81 (by decide) ?_
    refine lv_iload C.1.1 C.1.2.1 dX0_search_82 (lv_at hl 3 rfl) ?_
    refine lv_ishl C.1.1 C.1.2.1 dX0_search_84 ?_
    refine lv_ior C.1.1 C.1.2.1 dX0_search_85 ?_
    refine lv_iload_n C.1.1 C.1.2.1 dX0_search_86 rfl (lv_at hl 1 rfl) ?_
    obtain ⟨r_1, hc, h⟩ := bnd_some h
    refine r_vI (dc := dd) (As := [.int (x5 + 1), .int (x4 ||| (1 <<< (x5 &&& 31))), .int x3]) (rest := []) C hw vX0_73 kLC42 (by decide) rfl (fun sz => hrc _ _ _ _ _ hc sz) (by omega) rfl rfl hl.1 (Nat.le_of_ble_eq_true rfl) dX0_search_87 ⟨Nat.le_refl _, Nat.le_refl _⟩ (fun H locs hw => ?_)
    refine lv_istore (lv' := [(6, .int r_1), (0, .ref (ad 42)), (3, .int x3), (4, .int x4), (5, .int x5)]) C.1.1 C.1.2.1 dX0_search_90 hl (by decide) rfl (fun ls hl => ?_)
    refine lt_gen (P := fun x => lv_has ls 7 [(6, .int x), (0, .ref (ad 42)), (3, .int x3), (4, .int x4), (5, .int x5)]) h hl (fun x6_2 h hl => ?_)
    refine lv_iload C.1.1 C.1.2.1 dX0_search_92 (lv_at hl 0 rfl) ?_
    refine lv_iconst (v := (-1)) C.1.1 C.1.2.1 dX0_search_94 (by decide) ?_
    refine lv_icmp_eq (tgt := 103) C.1.1 C.1.2.1 dX0_search_95 (by decide) (fun hc => ?_) (fun hc => ?_)
    · replace h := ite_pos' h hc
      refine lv_aload_n C.1.1 C.1.2.1 dX0_search_103 rfl (lv_at hl 1 rfl) ?_
      refine lv_iload C.1.1 C.1.2.1 dX0_search_104 (lv_at hl 4 rfl) ?_
      refine lv_iconst (v := 1) C.1.1 C.1.2.1 dX0_search_106 (by decide) ?_
      refine lv_iadd C.1.1 C.1.2.1 dX0_search_107 ?_
      refine lv_iload C.1.1 C.1.2.1 dX0_search_108 (lv_at hl 3 rfl) ?_
      refine lv_iload_n C.1.1 C.1.2.1 dX0_search_110 rfl (lv_at hl 2 rfl) ?_
      refine lv_iconst (v := 1) C.1.1 C.1.2.1 dX0_search_111 (by decide) ?_
      refine lv_iload C.1.1 C.1.2.1 dX0_search_112 (lv_at hl 4 rfl) ?_
      refine lv_ishl C.1.1 C.1.2.1 dX0_search_114 ?_
      refine lv_ior C.1.1 C.1.2.1 dX0_search_115 ?_
      obtain ⟨r_3, hc, h⟩ := bnd_some h
      refine r_vI (dc := dd) (As := [.int (x5 + 1), .int x4, .int (x3 ||| (1 <<< (x5 &&& 31)))]) (rest := []) C hw vX0_73 kLC42 (by decide) rfl (fun sz => hrc _ _ _ _ _ hc sz) (by omega) rfl rfl hl.1 (Nat.le_of_ble_eq_true rfl) dX0_search_116 ⟨Nat.le_refl _, Nat.le_refl _⟩ (fun H locs hw => ?_)
      cases h
      exact r_iret C hw (Or.inl rfl) dX0_search_119
    · replace h := ite_neg' h hc
      refine lv_iload C.1.1 C.1.2.1 dX0_search_98 (lv_at hl 0 rfl) ?_
      refine lv_goto (tgt := 119) C.1.1 C.1.2.1 dX0_search_100 (by decide) ?_
      cases h
      exact r_iret C hw (Or.inl rfl) dX0_search_119
  · replace h := ite_neg' h hc
    refine lv_iload C.1.1 C.1.2.1 dX0_search_71 (lv_at hl 2 rfl) ?_
    cases h
    exact r_iret C hw (Or.inl rfl) dX0_search_73
set_option maxHeartbeats 4000000 in
set_option maxRecDepth 100000 in
theorem w_X0_search_29 {dd : Nat} (rc : Int32 → Int32 → Int32 → GM → Option (Int32)) (hrc : ∀ (x1 x2 x3 : Int32) (g : GM) (r : Int32), rc x1 x2 x3 g = some r → ∀ sz : Nat, Met l yX0_search (WSX yX0_search cX0_search 7 (some .int)) (RM dd 0 0) (va_Pc [.ref (ad 42), .int x1, .int x2, .int x3] (PX D cA ev hr ad (KX ++ [(0, 6)]) g sz)) (QI D cA ev hr ad (AX ad (KX ++ [(0, 6)]).length sz) (KX ++ [(0, 6)]) r g) 0 0 (AX ad (KX ++ [(0, 6)]).length sz)) {x3 : Int32} {x4 : Int32} {g : GM} {r : Int32} (kb29 : Int32 → Option (Int32)) (hk29 : ∀ (x5 : Int32) (H : Heap) (locs : List Loc) (ls : Array Slot), WS D cA ev hr ad A (KX ++ [(0, 6)]) s H locs g → lv_has ls 7 [(0, .ref (ad 42)), (3, .int x3), (4, .int x4), (5, .int x5)] → kb29 x5 = some r → W p l e (RM (dd + 12) 0 0) s m args below meth c H locs 0 0 (MQ below (QI D cA ev hr ad A (KX ++ [(0, 6)]) r g) args s 0 0 A) (F0 m 29 ls [])) (C : CX p s m args meth c RX0 yX0_search cX0_search 7 (some .int) D cA) (hx : HC hr ad) {H : Heap} {locs : List Loc} {x5 : Int32} (hw : WS D cA ev hr ad A (KX ++ [(0, 6)]) s H locs g) {ls : Array Slot} (hl : lv_has ls 7 [(0, .ref (ad 42)), (3, .int x3), (4, .int x4), (5, .int x5)]) (h : F_X0_searchR_29B rc x3 x4 g kb29 x5 = some r) : W p l e (RM (dd + 12) 0 0) s m args below meth c H locs 0 0 (MQ below (QI D cA ev hr ad A (KX ++ [(0, 6)]) r g) args s 0 0 A) (F0 m 29 ls []) := by
  refine lv_iload C.1.1 C.1.2.1 dX0_search_29 (lv_at hl 3 rfl) ?_
  refine lv_aload_n C.1.1 C.1.2.1 dX0_search_31 rfl (lv_at hl 0 rfl) ?_
  refine r_getR (v := .ref (ad 6)) C hw kLC42 fX0_9 rfl hx.2.1 dX0_search_32 ?_
  refine r_getI C hw (kx6 _) fX0_26 rfl dX0_search_35 ?_
  refine lv_icmp_ge (tgt := 59) C.1.1 C.1.2.1 dX0_search_38 (by decide) (fun hc => ?_) (fun hc => ?_)
  · replace h := ite_pos' h hc
    exact w_X0_search_59 rc hrc C hx hw hl h
  · replace h := ite_neg' h hc
    refine lv_iload C.1.1 C.1.2.1 dX0_search_41 (lv_at hl 2 rfl) ?_
    refine lv_iload_n C.1.1 C.1.2.1 dX0_search_43 rfl (lv_at hl 1 rfl) ?_
    refine lv_ior C.1.1 C.1.2.1 dX0_search_44 ?_
    refine lv_iload C.1.1 C.1.2.1 dX0_search_45 (lv_at hl 3 rfl) ?_
    obtain ⟨r_4, hc, h⟩ := bnd_some h
    refine r_nI (dc := 1) (As := [.int (x4 ||| x3), .int x5]) (rest := []) C hw nX0_31 (fun sz => c_X6_has hx.1 hc sz) (by omega) rfl rfl hl.1 (Nat.le_of_ble_eq_true rfl) dX0_search_47 ⟨Nat.le_refl _, Nat.le_refl _⟩ (fun H locs hw => ?_)
    refine lv_if_eq (tgt := 59) C.1.1 C.1.2.1 dX0_search_50 (by decide) (fun hc => ?_) (fun hc => ?_)
    · replace h := ite_pos' h hc
      exact w_X0_search_59 rc hrc C hx hw hl h
    · replace h := ite_neg' h hc
      refine lv_iinc (v := x5 + 1) (lv' := [(5, .int (x5 + 1)), (0, .ref (ad 42)), (3, .int x3), (4, .int x4)]) C.1.1 C.1.2.1 dX0_search_53 hl (k := 3) rfl rfl (by decide) rfl (fun ls hl => ?_)
      refine lt_gen (P := fun x => lv_has ls 7 [(5, .int x), (0, .ref (ad 42)), (3, .int x3), (4, .int x4)]) h hl (fun x5_5 h hl => ?_)
      refine lv_goto (tgt := 29) C.1.1 C.1.2.1 dX0_search_56 (by decide) ?_
      exact hk29 _ _ _ _ hw (lv_sub hl [1, 2, 3, 0] rfl) h
set_option maxHeartbeats 4000000 in
set_option maxRecDepth 100000 in
theorem w_X0_search_29L {dd : Nat} (rc : Int32 → Int32 → Int32 → GM → Option (Int32)) (hrc : ∀ (x1 x2 x3 : Int32) (g : GM) (r : Int32), rc x1 x2 x3 g = some r → ∀ sz : Nat, Met l yX0_search (WSX yX0_search cX0_search 7 (some .int)) (RM dd 0 0) (va_Pc [.ref (ad 42), .int x1, .int x2, .int x3] (PX D cA ev hr ad (KX ++ [(0, 6)]) g sz)) (QI D cA ev hr ad (AX ad (KX ++ [(0, 6)]).length sz) (KX ++ [(0, 6)]) r g) 0 0 (AX ad (KX ++ [(0, 6)]).length sz)) {x3 : Int32} {x4 : Int32} {g : GM} {r : Int32} (C : CX p s m args meth c RX0 yX0_search cX0_search 7 (some .int) D cA) (hx : HC hr ad) : ∀ (n : Nat) (x5 : Int32) (H : Heap) (locs : List Loc) (ls : Array Slot), WS D cA ev hr ad A (KX ++ [(0, 6)]) s H locs g → lv_has ls 7 [(0, .ref (ad 42)), (3, .int x3), (4, .int x4), (5, .int x5)] → fixN (F_X0_searchR_29B rc x3 x4 g) n x5 = some r → W p l e (RM (dd + 12) 0 0) s m args below meth c H locs 0 0 (MQ below (QI D cA ev hr ad A (KX ++ [(0, 6)]) r g) args s 0 0 A) (F0 m 29 ls []) := by
  intro n
  induction n with
  | zero => intro x5 H locs ls hw hl h; exact (fix_zero h).elim
  | succ n ih => intro x5 H locs ls hw hl h; exact w_X0_search_29 rc hrc (fixN (F_X0_searchR_29B rc x3 x4 g) n) ih C hx hw hl h
set_option maxHeartbeats 4000000 in
set_option maxRecDepth 100000 in
theorem w_X0_search_0 {dd : Nat} (rc : Int32 → Int32 → Int32 → GM → Option (Int32)) (hrc : ∀ (x1 x2 x3 : Int32) (g : GM) (r : Int32), rc x1 x2 x3 g = some r → ∀ sz : Nat, Met l yX0_search (WSX yX0_search cX0_search 7 (some .int)) (RM dd 0 0) (va_Pc [.ref (ad 42), .int x1, .int x2, .int x3] (PX D cA ev hr ad (KX ++ [(0, 6)]) g sz)) (QI D cA ev hr ad (AX ad (KX ++ [(0, 6)]).length sz) (KX ++ [(0, 6)]) r g) 0 0 (AX ad (KX ++ [(0, 6)]).length sz)) (C : CX p s m args meth c RX0 yX0_search cX0_search 7 (some .int) D cA) (hx : HC hr ad) {H : Heap} {locs : List Loc} {g : GM} (hw : WS D cA ev hr ad A (KX ++ [(0, 6)]) s H locs g) {a1 : Int32} {a2 : Int32} {a3 : Int32} {ls : Array Slot} (hl : lv_has ls 7 [(0, .ref (ad 42)), (1, .int a1), (2, .int a2), (3, .int a3)]) {r : Int32} (h : F_X0_searchR rc a1 a2 a3 g = some r) : W p l e (RM (dd + 12) 0 0) s m args below meth c H locs 0 0 (MQ below (QI D cA ev hr ad A (KX ++ [(0, 6)]) r g) args s 0 0 A) (F0 m 0 ls []) := by
  refine lv_aload_n C.1.1 C.1.2.1 dX0_search_0 rfl (lv_at hl 0 rfl) ?_
  refine lv_iload_n C.1.1 C.1.2.1 dX0_search_1 rfl (lv_at hl 2 rfl) ?_
  refine lv_iload_n C.1.1 C.1.2.1 dX0_search_2 rfl (lv_at hl 3 rfl) ?_
  obtain ⟨r_6, hc, h⟩ := bnd_some h
  refine r_vI (dc := 3) (As := [.int a2, .int a3]) (rest := []) C hw vX0_77 kLC42 (by decide) rfl (fun sz => c_X0_settled hx hc sz) (by omega) rfl rfl hl.1 (Nat.le_of_ble_eq_true rfl) dX0_search_3 ⟨Nat.le_refl _, Nat.le_refl _⟩ (fun H locs hw => ?_)
  refine lv_istore (lv' := [(4, .int r_6), (0, .ref (ad 42)), (1, .int a1), (2, .int a2), (3, .int a3)]) C.1.1 C.1.2.1 dX0_search_6 hl (by decide) rfl (fun ls hl => ?_)
  refine lt_gen (P := fun x => lv_has ls 7 [(4, .int x), (0, .ref (ad 42)), (1, .int a1), (2, .int a2), (3, .int a3)]) h hl (fun x4_7 h hl => ?_)
  refine lv_iload C.1.1 C.1.2.1 dX0_search_8 (lv_at hl 0 rfl) ?_
  refine lv_iconst (v := (-1)) C.1.1 C.1.2.1 dX0_search_10 (by decide) ?_
  refine lv_icmp_eq (tgt := 24) C.1.1 C.1.2.1 dX0_search_11 (by decide) (fun hc => ?_) (fun hc => ?_)
  · replace h := ite_pos' h hc
    refine lv_iconst (v := (-1)) C.1.1 C.1.2.1 dX0_search_24 (by decide) ?_
    cases h
    exact r_iret C hw (Or.inl rfl) dX0_search_25
  · replace h := ite_neg' h hc
    refine lv_aload_n C.1.1 C.1.2.1 dX0_search_14 rfl (lv_at hl 1 rfl) ?_
    refine lv_iload C.1.1 C.1.2.1 dX0_search_15 (lv_at hl 0 rfl) ?_
    refine lv_iload_n C.1.1 C.1.2.1 dX0_search_17 rfl (lv_at hl 4 rfl) ?_
    obtain ⟨r_8, hc, h⟩ := bnd_some h
    refine r_vI (dc := 3) (As := [.int x4_7, .int a3]) (rest := []) C hw vX0_81 kLC42 (by decide) rfl (fun sz => c_X0_isWithinLimits hx hc sz) (by omega) rfl rfl hl.1 (Nat.le_of_ble_eq_true rfl) dX0_search_18 ⟨Nat.le_refl _, Nat.le_refl _⟩ (fun H locs hw => ?_)
    refine lv_if_ne (tgt := 26) C.1.1 C.1.2.1 dX0_search_21 (by decide) (fun hc => ?_) (fun hc => ?_)
    · replace h := ite_neg' h hc
      refine lv_iload_n C.1.1 C.1.2.1 dX0_search_26 rfl (lv_at hl 2 rfl) ?_
      refine lv_istore (lv' := [(5, .int a1), (4, .int x4_7), (0, .ref (ad 42)), (1, .int a1), (2, .int a2), (3, .int a3)]) C.1.1 C.1.2.1 dX0_search_27 hl (by decide) rfl (fun ls hl => ?_)
      exact w_X0_search_29L rc hrc C hx FU _ _ _ _ hw (lv_sub hl [2, 5, 1, 0] rfl) h
    · replace h := ite_pos' h hc
      refine lv_iconst (v := (-1)) C.1.1 C.1.2.1 dX0_search_24 (by decide) ?_
      cases h
      exact r_iret C hw (Or.inl rfl) dX0_search_25
set_option maxHeartbeats 4000000 in
set_option maxRecDepth 100000 in
theorem c_X0_searchR {dd : Nat} (rc : Int32 → Int32 → Int32 → GM → Option (Int32)) (hrc : ∀ (x1 x2 x3 : Int32) (g : GM) (r : Int32), rc x1 x2 x3 g = some r → ∀ sz : Nat, Met l yX0_search (WSX yX0_search cX0_search 7 (some .int)) (RM dd 0 0) (va_Pc [.ref (ad 42), .int x1, .int x2, .int x3] (PX D cA ev hr ad (KX ++ [(0, 6)]) g sz)) (QI D cA ev hr ad (AX ad (KX ++ [(0, 6)]).length sz) (KX ++ [(0, 6)]) r g) 0 0 (AX ad (KX ++ [(0, 6)]).length sz)) (hx : HC hr ad) {a1 : Int32} {a2 : Int32} {a3 : Int32} {g : GM} {r : Int32} (h : F_X0_searchR rc a1 a2 a3 g = some r) (sz : Nat) : Met l yX0_search (WSX yX0_search cX0_search 7 (some .int)) (RM (dd + 12) 0 0) (va_Pc [.ref (ad 42), .int a1, .int a2, .int a3] (PX D cA ev hr ad (KX ++ [(0, 6)]) g sz)) (QI D cA ev hr ad (AX ad (KX ++ [(0, 6)]).length sz) (KX ++ [(0, 6)]) r g) 0 0 (AX ad (KX ++ [(0, 6)]).length sz) :=
  met_of (own := RX0) pnX0 rfl (Nat.le_of_ble_eq_true rfl) (fun p e s m below meth c ls C hw hsz hl => w_X0_search_0 rc hrc C hx hw hl h)

theorem c_X0_search (hx : HC hr ad) : ∀ (n : Nat) (x1 x2 x3 : Int32) (g : GM) (r : Int32), F_X0_search n x1 x2 x3 g = some r → ∀ sz : Nat, Met l yX0_search (WSX yX0_search cX0_search 7 (some .int)) (RM (12 * n) 0 0) (va_Pc [.ref (ad 42), .int x1, .int x2, .int x3] (PX D cA ev hr ad (KX ++ [(0, 6)]) g sz)) (QI D cA ev hr ad (AX ad (KX ++ [(0, 6)]).length sz) (KX ++ [(0, 6)]) r g) 0 0 (AX ad (KX ++ [(0, 6)]).length sz) := by
  intro n
  induction n with
  | zero => intro x1 x2 x3 g r h; exact (none_ne h).elim
  | succ n ih => intro x1 x2 x3 g r h sz; exact c_X0_searchR (F_X0_search n) ih hx h sz
set_option maxHeartbeats 4000000 in
set_option maxRecDepth 100000 in
theorem w_X0_cut_133 {x1 : Int32} {x3 : Int32} {g : GM} {r : Int32} {gz : GM} (C : CX p s m args meth c RX0 yX0_cut cX0_cut 5 (some .int) D cA) (hx : HC hr ad) {H : Heap} {locs : List Loc} (hw : WS D cA ev hr ad A (KX ++ [(0, 6)]) s H locs g) {ls : Array Slot} (hl : lv_has ls 5 [(1, .int x1), (3, .int x3)]) (h : F_X0_cut_133 x1 x3 g = some (r, gz)) : W p l e (RM 245 0 0) s m args below meth c H locs 0 0 (MQ below (QI D cA ev hr ad A (KX ++ [(0, 6)]) r gz) args s 0 0 A) (F0 m 133 ls []) := by
  refine lv_iload_n C.1.1 C.1.2.1 dX0_cut_133 rfl (lv_at hl 1 rfl) ?_
  refine lv_iconst (v := (-1)) C.1.1 C.1.2.1 dX0_cut_134 (by decide) ?_
  refine lv_icmp_ne (tgt := 142) C.1.1 C.1.2.1 dX0_cut_135 (by decide) (fun hc => ?_) (fun hc => ?_)
  · replace h := ite_neg' h hc
    refine lv_iload_n C.1.1 C.1.2.1 dX0_cut_142 rfl (lv_at hl 1 rfl) ?_
    cases h
    exact r_iret C hw (Or.inl rfl) dX0_cut_143
  · replace h := ite_pos' h hc
    refine lv_iload_n C.1.1 C.1.2.1 dX0_cut_138 rfl (lv_at hl 0 rfl) ?_
    refine lv_goto (tgt := 143) C.1.1 C.1.2.1 dX0_cut_139 (by decide) ?_
    cases h
    exact r_iret C hw (Or.inl rfl) dX0_cut_143
set_option maxHeartbeats 4000000 in
set_option maxRecDepth 100000 in
theorem w_X0_cut_99 {x1 : Int32} {x2 : Int32} {r : Int32} {gz : GM} (kb99 : Int32 × Int32 × GM → Option (Int32 × GM)) (hk99 : ∀ (x3 : Int32) (x4 : Int32) (g : GM) (H : Heap) (locs : List Loc) (ls : Array Slot), WS D cA ev hr ad A (KX ++ [(0, 6)]) s H locs g → lv_has ls 5 [(0, .ref (ad 42)), (1, .int x1), (2, .int x2), (3, .int x3), (4, .int x4)] → kb99 (x3, x4, g) = some (r, gz) → W p l e (RM 245 0 0) s m args below meth c H locs 0 0 (MQ below (QI D cA ev hr ad A (KX ++ [(0, 6)]) r gz) args s 0 0 A) (F0 m 99 ls [])) (C : CX p s m args meth c RX0 yX0_cut cX0_cut 5 (some .int) D cA) (hx : HC hr ad) {H : Heap} {locs : List Loc} {x3 : Int32} {x4 : Int32} {g : GM} (hw : WS D cA ev hr ad A (KX ++ [(0, 6)]) s H locs g) {ls : Array Slot} (hl : lv_has ls 5 [(0, .ref (ad 42)), (1, .int x1), (2, .int x2), (3, .int x3), (4, .int x4)]) (h : F_X0_cut_99B x1 x2 kb99 (x3, x4, g) = some (r, gz)) : W p l e (RM 245 0 0) s m args below meth c H locs 0 0 (MQ below (QI D cA ev hr ad A (KX ++ [(0, 6)]) r gz) args s 0 0 A) (F0 m 99 ls []) := by
  refine lv_iload C.1.1 C.1.2.1 dX0_cut_99 (lv_at hl 4 rfl) ?_
  refine lv_iload_n C.1.1 C.1.2.1 dX0_cut_101 rfl (lv_at hl 2 rfl) ?_
  refine lv_icmp_gt (tgt := 133) C.1.1 C.1.2.1 dX0_cut_102 (by decide) (fun hc => ?_) (fun hc => ?_)
  · replace h := ite_pos' h hc
    exact w_X0_cut_133 C hx hw (lv_sub hl [1, 3] rfl) h
  · replace h := ite_neg' h hc
    refine lv_iload_n C.1.1 C.1.2.1 dX0_cut_105 rfl (lv_at hl 3 rfl) ?_
    refine lv_iconst (v := (-1)) C.1.1 C.1.2.1 dX0_cut_106 (by decide) ?_
    refine lv_icmp_ne (tgt := 133) C.1.1 C.1.2.1 dX0_cut_107 (by decide) (fun hc => ?_) (fun hc => ?_)
    · replace h := ite_neg' h hc
      exact w_X0_cut_133 C hx hw (lv_sub hl [1, 3] rfl) h
    · replace h := ite_pos' h hc
      refine lv_aload_n C.1.1 C.1.2.1 dX0_cut_110 rfl (lv_at hl 0 rfl) ?_
      refine lv_iload C.1.1 C.1.2.1 dX0_cut_111 (lv_at hl 4 rfl) ?_
      refine r_putI C hw kLC42 fX0_67 rfl rfl (Or.inl rfl) dX0_cut_113 (fun H locs hw => ?_)
      refine lt_gen (P := fun g => WS D cA ev hr ad A (KX ++ [(0, 6)]) s H locs g) h hw (fun g_1 h hw => ?_)
      refine lv_aload_n C.1.1 C.1.2.1 dX0_cut_116 rfl (lv_at hl 0 rfl) ?_
      refine lv_iconst (v := 0) C.1.1 C.1.2.1 dX0_cut_117 (by decide) ?_
      refine lv_iconst (v := 0) C.1.1 C.1.2.1 dX0_cut_118 (by decide) ?_
      refine lv_aload_n C.1.1 C.1.2.1 dX0_cut_119 rfl (lv_at hl 0 rfl) ?_
      refine r_getI C hw kLC42 fX0_19 rfl dX0_cut_120 ?_
      obtain ⟨r_2, hc, h⟩ := bnd_some h
      refine r_vI (dc := 240) (As := [.int 0, .int 0, .int (gi g_1 42 2)]) (rest := []) C hw vX0_73 kLC42 (by decide) rfl (fun sz => c_X0_search hx 20 _ _ _ _ _ hc sz) (by decide) rfl rfl hl.1 (Nat.le_of_ble_eq_true rfl) dX0_cut_123 ⟨Nat.le_refl _, Nat.le_refl _⟩ (fun H locs hw => ?_)
      refine lv_istore_n (lv' := [(3, .int r_2), (0, .ref (ad 42)), (1, .int x1), (2, .int x2), (4, .int x4)]) C.1.1 C.1.2.1 dX0_cut_126 rfl hl (by decide) rfl (fun ls hl => ?_)
      refine lt_gen (P := fun x => lv_has ls 5 [(3, .int x), (0, .ref (ad 42)), (1, .int x1), (2, .int x2), (4, .int x4)]) h hl (fun x3_3 h hl => ?_)
      refine lv_iinc (v := x4 + 1) (lv' := [(4, .int (x4 + 1)), (3, .int x3_3), (0, .ref (ad 42)), (1, .int x1), (2, .int x2)]) C.1.1 C.1.2.1 dX0_cut_127 hl (k := 4) rfl rfl (by decide) rfl (fun ls hl => ?_)
      refine lt_gen (P := fun x => lv_has ls 5 [(4, .int x), (3, .int x3_3), (0, .ref (ad 42)), (1, .int x1), (2, .int x2)]) h hl (fun x4_4 h hl => ?_)
      refine lv_goto (tgt := 99) C.1.1 C.1.2.1 dX0_cut_130 (by decide) ?_
      exact hk99 _ _ _ _ _ _ hw (lv_sub hl [2, 3, 4, 1, 0] rfl) h
set_option maxHeartbeats 4000000 in
set_option maxRecDepth 100000 in
theorem w_X0_cut_99L {x1 : Int32} {x2 : Int32} {r : Int32} {gz : GM} (C : CX p s m args meth c RX0 yX0_cut cX0_cut 5 (some .int) D cA) (hx : HC hr ad) : ∀ (n : Nat) (x3 : Int32) (x4 : Int32) (g : GM) (H : Heap) (locs : List Loc) (ls : Array Slot), WS D cA ev hr ad A (KX ++ [(0, 6)]) s H locs g → lv_has ls 5 [(0, .ref (ad 42)), (1, .int x1), (2, .int x2), (3, .int x3), (4, .int x4)] → fixN (F_X0_cut_99B x1 x2) n (x3, x4, g) = some (r, gz) → W p l e (RM 245 0 0) s m args below meth c H locs 0 0 (MQ below (QI D cA ev hr ad A (KX ++ [(0, 6)]) r gz) args s 0 0 A) (F0 m 99 ls []) := by
  intro n
  induction n with
  | zero => intro x3 x4 g H locs ls hw hl h; exact (fix_zero h).elim
  | succ n ih => intro x3 x4 g H locs ls hw hl h; exact w_X0_cut_99 (fixN (F_X0_cut_99B x1 x2) n) ih C hx hw hl h
set_option maxHeartbeats 4000000 in
set_option maxRecDepth 100000 in
theorem w_X0_cut_93 {x1 : Int32} {s0 : Int32} {g : GM} {r : Int32} {gz : GM} (C : CX p s m args meth c RX0 yX0_cut cX0_cut 5 (some .int) D cA) (hx : HC hr ad) {H : Heap} {locs : List Loc} (hw : WS D cA ev hr ad A (KX ++ [(0, 6)]) s H locs g) {ls : Array Slot} (hl : lv_has ls 5 [(0, .ref (ad 42)), (1, .int x1)]) (h : F_X0_cut_93 x1 s0 g = some (r, gz)) : W p l e (RM 245 0 0) s m args below meth c H locs 0 0 (MQ below (QI D cA ev hr ad A (KX ++ [(0, 6)]) r gz) args s 0 0 A) (F0 m 93 ls [.int s0]) := by
  refine lv_istore_n (lv' := [(2, .int s0), (0, .ref (ad 42)), (1, .int x1)]) C.1.1 C.1.2.1 dX0_cut_93 rfl hl (by decide) rfl (fun ls hl => ?_)
  refine lv_iconst (v := (-1)) C.1.1 C.1.2.1 dX0_cut_94 (by decide) ?_
  refine lv_istore_n (lv' := [(3, .int ((-1))), (2, .int s0), (0, .ref (ad 42)), (1, .int x1)]) C.1.1 C.1.2.1 dX0_cut_95 rfl hl (by decide) rfl (fun ls hl => ?_)
  refine lv_iconst (v := 0) C.1.1 C.1.2.1 dX0_cut_96 (by decide) ?_
  refine lv_istore (lv' := [(4, .int 0), (3, .int ((-1))), (2, .int s0), (0, .ref (ad 42)), (1, .int x1)]) C.1.1 C.1.2.1 dX0_cut_97 hl (by decide) rfl (fun ls hl => ?_)
  exact w_X0_cut_99L C hx FU _ _ _ _ _ _ hw (lv_sub hl [3, 4, 2, 1, 0] rfl) h
set_option maxHeartbeats 4000000 in
set_option maxRecDepth 100000 in
theorem w_X0_cut_76 {x1 : Int32} {g : GM} {r : Int32} {gz : GM} (C : CX p s m args meth c RX0 yX0_cut cX0_cut 5 (some .int) D cA) (hx : HC hr ad) {H : Heap} {locs : List Loc} (hw : WS D cA ev hr ad A (KX ++ [(0, 6)]) s H locs g) {ls : Array Slot} (hl : lv_has ls 5 [(0, .ref (ad 42)), (1, .int x1)]) (h : F_X0_cut_76 x1 g = some (r, gz)) : W p l e (RM 245 0 0) s m args below meth c H locs 0 0 (MQ below (QI D cA ev hr ad A (KX ++ [(0, 6)]) r gz) args s 0 0 A) (F0 m 76 ls []) := by
  refine lv_aload_n C.1.1 C.1.2.1 dX0_cut_76 rfl (lv_at hl 0 rfl) ?_
  refine r_getI C hw kLC42 fX0_23 rfl dX0_cut_77 ?_
  refine lv_if_ne (tgt := 87) C.1.1 C.1.2.1 dX0_cut_80 (by decide) (fun hc => ?_) (fun hc => ?_)
  · replace h := ite_neg' h hc
    refine lv_iload_n C.1.1 C.1.2.1 dX0_cut_87 rfl (lv_at hl 1 rfl) ?_
    obtain ⟨r_5, hc, h⟩ := bnd_some h
    refine r_sI (dc := 1) (As := [.int x1]) (rest := []) C hw sX0_47 (fun sz => c_J6_bitCount_0f7a4 trivial hc sz) (by decide) rfl rfl hl.1 (Nat.le_of_ble_eq_true rfl) dX0_cut_88 ⟨Nat.le_refl _, Nat.le_refl _⟩ (fun H locs hw => ?_)
    refine lv_iconst (v := 1) C.1.1 C.1.2.1 dX0_cut_91 (by decide) ?_
    refine lv_isub C.1.1 C.1.2.1 dX0_cut_92 ?_
    exact w_X0_cut_93 C hx hw hl h
  · replace h := ite_pos' h hc
    refine lv_iconst (v := (-1)) C.1.1 C.1.2.1 dX0_cut_83 (by decide) ?_
    refine lv_goto (tgt := 93) C.1.1 C.1.2.1 dX0_cut_84 (by decide) ?_
    exact w_X0_cut_93 C hx hw hl h
set_option maxHeartbeats 4000000 in
set_option maxRecDepth 100000 in
theorem w_X0_cut_38 {r : Int32} {gz : GM} (kb38 : Int32 × Int32 × GM → Option (Int32 × GM)) (hk38 : ∀ (x1 : Int32) (x2 : Int32) (g : GM) (H : Heap) (locs : List Loc) (ls : Array Slot), WS D cA ev hr ad A (KX ++ [(0, 6)]) s H locs g → lv_has ls 5 [(0, .ref (ad 42)), (1, .int x1), (2, .int x2)] → kb38 (x1, x2, g) = some (r, gz) → W p l e (RM 245 0 0) s m args below meth c H locs 0 0 (MQ below (QI D cA ev hr ad A (KX ++ [(0, 6)]) r gz) args s 0 0 A) (F0 m 38 ls [])) (C : CX p s m args meth c RX0 yX0_cut cX0_cut 5 (some .int) D cA) (hx : HC hr ad) {H : Heap} {locs : List Loc} {x1 : Int32} {x2 : Int32} {g : GM} (hw : WS D cA ev hr ad A (KX ++ [(0, 6)]) s H locs g) {ls : Array Slot} (hl : lv_has ls 5 [(0, .ref (ad 42)), (1, .int x1), (2, .int x2)]) (h : F_X0_cut_38B kb38 (x1, x2, g) = some (r, gz)) : W p l e (RM 245 0 0) s m args below meth c H locs 0 0 (MQ below (QI D cA ev hr ad A (KX ++ [(0, 6)]) r gz) args s 0 0 A) (F0 m 38 ls []) := by
  refine lv_iload_n C.1.1 C.1.2.1 dX0_cut_38 rfl (lv_at hl 2 rfl) ?_
  refine lv_aload_n C.1.1 C.1.2.1 dX0_cut_39 rfl (lv_at hl 0 rfl) ?_
  refine r_getR (v := .ref (ad 6)) C hw kLC42 fX0_9 rfl hx.2.1 dX0_cut_40 ?_
  refine r_getI C hw (kx6 _) fX0_26 rfl dX0_cut_43 ?_
  refine lv_icmp_gt (tgt := 76) C.1.1 C.1.2.1 dX0_cut_46 (by decide) (fun hc => ?_) (fun hc => ?_)
  · replace h := ite_pos' h hc
    exact w_X0_cut_76 C hx hw (lv_sub hl [0, 1] rfl) h
  · replace h := ite_neg' h hc
    refine lv_iload_n C.1.1 C.1.2.1 dX0_cut_49 rfl (lv_at hl 1 rfl) ?_
    refine lv_iconst (v := (-1)) C.1.1 C.1.2.1 dX0_cut_50 (by decide) ?_
    refine lv_icmp_ne (tgt := 76) C.1.1 C.1.2.1 dX0_cut_51 (by decide) (fun hc => ?_) (fun hc => ?_)
    · replace h := ite_neg' h hc
      exact w_X0_cut_76 C hx hw (lv_sub hl [0, 1] rfl) h
    · replace h := ite_pos' h hc
      refine lv_aload_n C.1.1 C.1.2.1 dX0_cut_54 rfl (lv_at hl 0 rfl) ?_
      refine lv_iload_n C.1.1 C.1.2.1 dX0_cut_55 rfl (lv_at hl 2 rfl) ?_
      refine r_putI C hw kLC42 fX0_70 rfl rfl (Or.inl rfl) dX0_cut_56 (fun H locs hw => ?_)
      refine lt_gen (P := fun g => WS D cA ev hr ad A (KX ++ [(0, 6)]) s H locs g) h hw (fun g_6 h hw => ?_)
      refine lv_aload_n C.1.1 C.1.2.1 dX0_cut_59 rfl (lv_at hl 0 rfl) ?_
      refine lv_iconst (v := 0) C.1.1 C.1.2.1 dX0_cut_60 (by decide) ?_
      refine lv_iconst (v := 0) C.1.1 C.1.2.1 dX0_cut_61 (by decide) ?_
      refine lv_aload_n C.1.1 C.1.2.1 dX0_cut_62 rfl (lv_at hl 0 rfl) ?_
      refine r_getI C hw kLC42 fX0_19 rfl dX0_cut_63 ?_
      obtain ⟨r_7, hc, h⟩ := bnd_some h
      refine r_vI (dc := 240) (As := [.int 0, .int 0, .int (gi g_6 42 2)]) (rest := []) C hw vX0_73 kLC42 (by decide) rfl (fun sz => c_X0_search hx 20 _ _ _ _ _ hc sz) (by decide) rfl rfl hl.1 (Nat.le_of_ble_eq_true rfl) dX0_cut_66 ⟨Nat.le_refl _, Nat.le_refl _⟩ (fun H locs hw => ?_)
      refine lv_istore_n (lv' := [(1, .int r_7), (0, .ref (ad 42)), (2, .int x2)]) C.1.1 C.1.2.1 dX0_cut_69 rfl hl (by decide) rfl (fun ls hl => ?_)
      refine lt_gen (P := fun x => lv_has ls 5 [(1, .int x), (0, .ref (ad 42)), (2, .int x2)]) h hl (fun x1_8 h hl => ?_)
      refine lv_iinc (v := x2 + 1) (lv' := [(2, .int (x2 + 1)), (1, .int x1_8), (0, .ref (ad 42))]) C.1.1 C.1.2.1 dX0_cut_70 hl (k := 2) rfl rfl (by decide) rfl (fun ls hl => ?_)
      refine lt_gen (P := fun x => lv_has ls 5 [(2, .int x), (1, .int x1_8), (0, .ref (ad 42))]) h hl (fun x2_9 h hl => ?_)
      refine lv_goto (tgt := 38) C.1.1 C.1.2.1 dX0_cut_73 (by decide) ?_
      exact hk38 _ _ _ _ _ _ hw (lv_sub hl [2, 1, 0] rfl) h
set_option maxHeartbeats 4000000 in
set_option maxRecDepth 100000 in
theorem w_X0_cut_38L {r : Int32} {gz : GM} (C : CX p s m args meth c RX0 yX0_cut cX0_cut 5 (some .int) D cA) (hx : HC hr ad) : ∀ (n : Nat) (x1 : Int32) (x2 : Int32) (g : GM) (H : Heap) (locs : List Loc) (ls : Array Slot), WS D cA ev hr ad A (KX ++ [(0, 6)]) s H locs g → lv_has ls 5 [(0, .ref (ad 42)), (1, .int x1), (2, .int x2)] → fixN (F_X0_cut_38B) n (x1, x2, g) = some (r, gz) → W p l e (RM 245 0 0) s m args below meth c H locs 0 0 (MQ below (QI D cA ev hr ad A (KX ++ [(0, 6)]) r gz) args s 0 0 A) (F0 m 38 ls []) := by
  intro n
  induction n with
  | zero => intro x1 x2 g H locs ls hw hl h; exact (fix_zero h).elim
  | succ n ih => intro x1 x2 g H locs ls hw hl h; exact w_X0_cut_38 (fixN (F_X0_cut_38B) n) ih C hx hw hl h
set_option maxHeartbeats 4000000 in
set_option maxRecDepth 100000 in
theorem w_X0_cut_0 (C : CX p s m args meth c RX0 yX0_cut cX0_cut 5 (some .int) D cA) (hx : HC hr ad) {H : Heap} {locs : List Loc} {g : GM} (hw : WS D cA ev hr ad A (KX ++ [(0, 6)]) s H locs g) {ls : Array Slot} (hl : lv_has ls 5 [(0, .ref (ad 42))]) {r : Int32} {gz : GM} (h : F_X0_cut g = some (r, gz)) : W p l e (RM 245 0 0) s m args below meth c H locs 0 0 (MQ below (QI D cA ev hr ad A (KX ++ [(0, 6)]) r gz) args s 0 0 A) (F0 m 0 ls []) := by
  refine lv_aload_n C.1.1 C.1.2.1 dX0_cut_0 rfl (lv_at hl 0 rfl) ?_
  refine lv_aload_n C.1.1 C.1.2.1 dX0_cut_1 rfl (lv_at hl 0 rfl) ?_
  refine r_getR (v := .ref (ad 6)) C hw kLC42 fX0_9 rfl hx.2.1 dX0_cut_2 ?_
  obtain ⟨r_10, hc, h⟩ := bnd_some h
  refine r_vI (dc := 1) (As := []) (rest := [.ref (ad 42)]) C hw vX0_59 (kx6 _) (by decide) rfl (fun sz => c_X2_allRows_s hx.1 hc sz) (by decide) rfl rfl hl.1 (Nat.le_of_ble_eq_true rfl) dX0_cut_5 ⟨Nat.le_refl _, Nat.le_refl _⟩ (fun H locs hw => ?_)
  refine lv_aload_n C.1.1 C.1.2.1 dX0_cut_8 rfl (lv_at hl 0 rfl) ?_
  refine r_getI C hw kLC42 fX0_19 rfl dX0_cut_9 ?_
  refine lv_iconst (v := (-1)) C.1.1 C.1.2.1 dX0_cut_12 (by decide) ?_
  refine lv_ixor C.1.1 C.1.2.1 dX0_cut_13 ?_
  refine lv_iand C.1.1 C.1.2.1 dX0_cut_14 ?_
  obtain ⟨r_11, hc, h⟩ := bnd_some h
  refine r_vI (dc := 2) (As := [.int (r_10 &&& ((gi g 42 2) ^^^ ((-1))))]) (rest := []) C hw vX0_63 kLC42 (by decide) rfl (fun sz => c_X0_isPiece hx hc sz) (by decide) rfl rfl hl.1 (Nat.le_of_ble_eq_true rfl) dX0_cut_15 ⟨Nat.le_refl _, Nat.le_refl _⟩ (fun H locs hw => ?_)
  refine lv_if_ne (tgt := 23) C.1.1 C.1.2.1 dX0_cut_18 (by decide) (fun hc => ?_) (fun hc => ?_)
  · replace h := ite_neg' h hc
    refine lv_iconst (v := (-1)) C.1.1 C.1.2.1 dX0_cut_23 (by decide) ?_
    refine lv_istore_n (lv' := [(1, .int ((-1))), (0, .ref (ad 42))]) C.1.1 C.1.2.1 dX0_cut_24 rfl hl (by decide) rfl (fun ls hl => ?_)
    refine lv_aload_n C.1.1 C.1.2.1 dX0_cut_25 rfl (lv_at hl 1 rfl) ?_
    refine lv_aload_n C.1.1 C.1.2.1 dX0_cut_26 rfl (lv_at hl 1 rfl) ?_
    refine r_getR (v := .ref (ad 6)) C hw kLC42 fX0_9 rfl hx.2.1 dX0_cut_27 ?_
    refine r_getI C hw (kx6 _) fX0_26 rfl dX0_cut_30 ?_
    refine r_putI C hw kLC42 fX0_67 rfl rfl (Or.inl rfl) dX0_cut_33 (fun H locs hw => ?_)
    refine lt_gen (P := fun g => WS D cA ev hr ad A (KX ++ [(0, 6)]) s H locs g) h hw (fun g_12 h hw => ?_)
    refine lv_iconst (v := 0) C.1.1 C.1.2.1 dX0_cut_36 (by decide) ?_
    refine lv_istore_n (lv' := [(2, .int 0), (1, .int ((-1))), (0, .ref (ad 42))]) C.1.1 C.1.2.1 dX0_cut_37 rfl hl (by decide) rfl (fun ls hl => ?_)
    exact w_X0_cut_38L C hx FU _ _ _ _ _ _ hw (lv_sub hl [2, 1, 0] rfl) h
  · replace h := ite_pos' h hc
    refine lv_iconst (v := (-1)) C.1.1 C.1.2.1 dX0_cut_21 (by decide) ?_
    cases h
    exact r_iret C hw (Or.inl rfl) dX0_cut_22
set_option maxHeartbeats 4000000 in
set_option maxRecDepth 100000 in
theorem c_X0_cut (hx : HC hr ad) {g : GM} {r : Int32} {gz : GM} (h : F_X0_cut g = some (r, gz)) (sz : Nat) : Met l yX0_cut (WSX yX0_cut cX0_cut 5 (some .int)) (RM 245 0 0) (va_Pc [.ref (ad 42)] (PX D cA ev hr ad (KX ++ [(0, 6)]) g sz)) (QI D cA ev hr ad (AX ad (KX ++ [(0, 6)]).length sz) (KX ++ [(0, 6)]) r gz) 0 0 (AX ad (KX ++ [(0, 6)]).length sz) :=
  met_of (own := RX0) pnX0 rfl (Nat.le_of_ble_eq_true rfl) (fun p e s m below meth c ls C hw hsz hl => w_X0_cut_0 C hx hw hl h)
set_option maxHeartbeats 4000000 in
set_option maxRecDepth 100000 in
theorem w_X5_readEither_82 {dd : Nat} (rc : Int32 → GM → Option (Int32 × GM)) (hrc : ∀ (x1 : Int32) (g : GM) (r : Int32) (gz : GM), rc x1 g = some (r, gz) → ∀ sz : Nat, Met l yX5_readOne (WSX yX5_readOne cX5_readOne 3 (some .int)) (RM dd 0 0) (va_Pc [.ref (ad 42), .int x1] (PX D cA ev hr ad (KX ++ [(5, 7), (8, 4)]) g sz)) (QI D cA ev hr ad (AX ad (KX ++ [(5, 7), (8, 4)]).length sz) (KX ++ [(5, 7), (8, 4)]) r gz) 0 0 (AX ad (KX ++ [(5, 7), (8, 4)]).length sz)) {x1 : Int32} {x2 : Int32} {x3 : Int32} {x4 : Int32} {g : GM} {r : Int32} {gz : GM} (kb7 : Int32 × Int32 × Int32 × GM → Option (Int32 × GM)) (hk7 : ∀ (x2 : Int32) (x3 : Int32) (x4 : Int32) (g : GM) (H : Heap) (locs : List Loc) (ls : Array Slot), WS D cA ev hr ad A (KX ++ [(5, 7), (8, 4)]) s H locs g → lv_has ls 6 [(0, .ref (ad 42)), (1, .int x1), (2, .int x2), (3, .int x3), (4, .int x4)] → kb7 (x2, x3, x4, g) = some (r, gz) → W p l e (RM (dd + 12) 0 0) s m args below meth c H locs 0 0 (MQ below (QI D cA ev hr ad A (KX ++ [(5, 7), (8, 4)]) r gz) args s 0 0 A) (F0 m 7 ls [])) (C : CX p s m args meth c RX5 yX5_readEither cX5_readEither 6 (some .int) D cA) (hx : HW hr ad) {H : Heap} {locs : List Loc} (hw : WS D cA ev hr ad A (KX ++ [(5, 7), (8, 4)]) s H locs g) {ls : Array Slot} (hl : lv_has ls 6 [(0, .ref (ad 42)), (1, .int x1), (2, .int x2), (3, .int x3), (4, .int x4)]) (h : F_X5_readEitherR_82 rc kb7 x1 x2 x3 x4 g = some (r, gz)) : W p l e (RM (dd + 12) 0 0) s m args below meth c H locs 0 0 (MQ below (QI D cA ev hr ad A (KX ++ [(5, 7), (8, 4)]) r gz) args s 0 0 A) (F0 m 82 ls []) := by
  refine lv_aload_n C.1.1 C.1.2.1 dX5_readEither_82 rfl (lv_at hl 0 rfl) ?_
  refine r_getR (v := .ref (ad 1)) C hw kLW42 fX5_9 rfl hx.2.1 dX5_readEither_83 ?_
  obtain ⟨g_1, hc, h⟩ := bnd_some h
  refine r_vV (dc := 8) (As := []) (rest := []) C hw vX5_54 (kx1 _) (by decide) rfl (fun sz => c_X4_advance hx.1 hc sz) (by omega) rfl rfl hl.1 (Nat.le_of_ble_eq_true rfl) dX5_readEither_86 ⟨Nat.le_refl _, Nat.le_refl _⟩ (fun H locs hw => ?_)
  refine lv_iinc (v := x4 + 1) (lv' := [(4, .int (x4 + 1)), (0, .ref (ad 42)), (1, .int x1), (2, .int x2), (3, .int x3)]) C.1.1 C.1.2.1 dX5_readEither_89 hl (k := 4) rfl rfl (by decide) rfl (fun ls hl => ?_)
  refine lt_gen (P := fun x => lv_has ls 6 [(4, .int x), (0, .ref (ad 42)), (1, .int x1), (2, .int x2), (3, .int x3)]) h hl (fun x4_2 h hl => ?_)
  refine lv_goto (tgt := 7) C.1.1 C.1.2.1 dX5_readEither_92 (by decide) ?_
  exact hk7 _ _ _ _ _ _ _ hw (lv_sub hl [1, 2, 3, 4, 0] rfl) h
set_option maxHeartbeats 4000000 in
set_option maxRecDepth 100000 in
theorem w_X5_readEither_63 {dd : Nat} (rc : Int32 → GM → Option (Int32 × GM)) (hrc : ∀ (x1 : Int32) (g : GM) (r : Int32) (gz : GM), rc x1 g = some (r, gz) → ∀ sz : Nat, Met l yX5_readOne (WSX yX5_readOne cX5_readOne 3 (some .int)) (RM dd 0 0) (va_Pc [.ref (ad 42), .int x1] (PX D cA ev hr ad (KX ++ [(5, 7), (8, 4)]) g sz)) (QI D cA ev hr ad (AX ad (KX ++ [(5, 7), (8, 4)]).length sz) (KX ++ [(5, 7), (8, 4)]) r gz) 0 0 (AX ad (KX ++ [(5, 7), (8, 4)]).length sz)) {x1 : Int32} {x2 : Int32} {x3 : Int32} {x4 : Int32} {x5 : Int32} {g : GM} {r : Int32} {gz : GM} (kb7 : Int32 × Int32 × Int32 × GM → Option (Int32 × GM)) (hk7 : ∀ (x2 : Int32) (x3 : Int32) (x4 : Int32) (g : GM) (H : Heap) (locs : List Loc) (ls : Array Slot), WS D cA ev hr ad A (KX ++ [(5, 7), (8, 4)]) s H locs g → lv_has ls 6 [(0, .ref (ad 42)), (1, .int x1), (2, .int x2), (3, .int x3), (4, .int x4)] → kb7 (x2, x3, x4, g) = some (r, gz) → W p l e (RM (dd + 12) 0 0) s m args below meth c H locs 0 0 (MQ below (QI D cA ev hr ad A (KX ++ [(5, 7), (8, 4)]) r gz) args s 0 0 A) (F0 m 7 ls [])) (C : CX p s m args meth c RX5 yX5_readEither cX5_readEither 6 (some .int) D cA) (hx : HW hr ad) {H : Heap} {locs : List Loc} (hw : WS D cA ev hr ad A (KX ++ [(5, 7), (8, 4)]) s H locs g) {ls : Array Slot} (hl : lv_has ls 6 [(0, .ref (ad 42)), (1, .int x1), (2, .int x2), (3, .int x3), (4, .int x4), (5, .int x5)]) (h : F_X5_readEitherR_63 rc kb7 x1 x2 x3 x4 x5 g = some (r, gz)) : W p l e (RM (dd + 12) 0 0) s m args below meth c H locs 0 0 (MQ below (QI D cA ev hr ad A (KX ++ [(5, 7), (8, 4)]) r gz) args s 0 0 A) (F0 m 63 ls []) := by
  refine lv_iload C.1.1 C.1.2.1 dX5_readEither_63 (lv_at hl 5 rfl) ?_
  refine lv_if_ne (tgt := 82) C.1.1 C.1.2.1 dX5_readEither_65 (by decide) (fun hc => ?_) (fun hc => ?_)
  · replace h := ite_neg' h hc
    exact w_X5_readEither_82 rc hrc kb7 hk7 C hx hw (lv_sub hl [0, 1, 2, 3, 4] rfl) h
  · replace h := ite_pos' h hc
    refine lv_aload_n C.1.1 C.1.2.1 dX5_readEither_68 rfl (lv_at hl 0 rfl) ?_
    refine r_getR (v := .ref (ad 1)) C hw kLW42 fX5_9 rfl hx.2.1 dX5_readEither_69 ?_
    refine r_getI C hw (kx1 _) fX5_42 rfl dX5_readEither_72 ?_
    refine lv_bipush (v := 14) C.1.1 C.1.2.1 dX5_readEither_75 (by decide) ?_
    refine lv_icmp_eq (tgt := 82) C.1.1 C.1.2.1 dX5_readEither_77 (by decide) (fun hc => ?_) (fun hc => ?_)
    · replace h := ite_pos' h hc
      exact w_X5_readEither_82 rc hrc kb7 hk7 C hx hw (lv_sub hl [0, 1, 2, 3, 4] rfl) h
    · replace h := ite_neg' h hc
      refine lv_iload_n C.1.1 C.1.2.1 dX5_readEither_80 rfl (lv_at hl 2 rfl) ?_
      cases h
      exact r_iret C hw (Or.inl rfl) dX5_readEither_81
set_option maxHeartbeats 4000000 in
set_option maxRecDepth 100000 in
theorem w_X5_readEither_50 {dd : Nat} (rc : Int32 → GM → Option (Int32 × GM)) (hrc : ∀ (x1 : Int32) (g : GM) (r : Int32) (gz : GM), rc x1 g = some (r, gz) → ∀ sz : Nat, Met l yX5_readOne (WSX yX5_readOne cX5_readOne 3 (some .int)) (RM dd 0 0) (va_Pc [.ref (ad 42), .int x1] (PX D cA ev hr ad (KX ++ [(5, 7), (8, 4)]) g sz)) (QI D cA ev hr ad (AX ad (KX ++ [(5, 7), (8, 4)]).length sz) (KX ++ [(5, 7), (8, 4)]) r gz) 0 0 (AX ad (KX ++ [(5, 7), (8, 4)]).length sz)) {x1 : Int32} {x2 : Int32} {x3 : Int32} {x4 : Int32} {s0 : Int32} {g : GM} {r : Int32} {gz : GM} (kb7 : Int32 × Int32 × Int32 × GM → Option (Int32 × GM)) (hk7 : ∀ (x2 : Int32) (x3 : Int32) (x4 : Int32) (g : GM) (H : Heap) (locs : List Loc) (ls : Array Slot), WS D cA ev hr ad A (KX ++ [(5, 7), (8, 4)]) s H locs g → lv_has ls 6 [(0, .ref (ad 42)), (1, .int x1), (2, .int x2), (3, .int x3), (4, .int x4)] → kb7 (x2, x3, x4, g) = some (r, gz) → W p l e (RM (dd + 12) 0 0) s m args below meth c H locs 0 0 (MQ below (QI D cA ev hr ad A (KX ++ [(5, 7), (8, 4)]) r gz) args s 0 0 A) (F0 m 7 ls [])) (C : CX p s m args meth c RX5 yX5_readEither cX5_readEither 6 (some .int) D cA) (hx : HW hr ad) {H : Heap} {locs : List Loc} (hw : WS D cA ev hr ad A (KX ++ [(5, 7), (8, 4)]) s H locs g) {ls : Array Slot} (hl : lv_has ls 6 [(0, .ref (ad 42)), (1, .int x1), (2, .int x2), (3, .int x3), (4, .int x4)]) (h : F_X5_readEitherR_50 rc kb7 x1 x2 x3 x4 s0 g = some (r, gz)) : W p l e (RM (dd + 12) 0 0) s m args below meth c H locs 0 0 (MQ below (QI D cA ev hr ad A (KX ++ [(5, 7), (8, 4)]) r gz) args s 0 0 A) (F0 m 50 ls [.int s0]) := by
  refine lv_istore (lv' := [(5, .int s0), (0, .ref (ad 42)), (1, .int x1), (2, .int x2), (3, .int x3), (4, .int x4)]) C.1.1 C.1.2.1 dX5_readEither_50 hl (by decide) rfl (fun ls hl => ?_)
  refine lv_iload C.1.1 C.1.2.1 dX5_readEither_52 (lv_at hl 0 rfl) ?_
  refine lv_if_ne (tgt := 63) C.1.1 C.1.2.1 dX5_readEither_54 (by decide) (fun hc => ?_) (fun hc => ?_)
  · replace h := ite_neg' h hc
    exact w_X5_readEither_63 rc hrc kb7 hk7 C hx hw (lv_sub hl [1, 2, 3, 4, 5, 0] rfl) h
  · replace h := ite_pos' h hc
    refine lv_iload_n C.1.1 C.1.2.1 dX5_readEither_57 rfl (lv_at hl 3 rfl) ?_
    refine lv_iload_n C.1.1 C.1.2.1 dX5_readEither_58 rfl (lv_at hl 4 rfl) ?_
    refine lv_ior C.1.1 C.1.2.1 dX5_readEither_59 ?_
    refine lv_istore_n (lv' := [(2, .int (x2 ||| x3)), (5, .int s0), (0, .ref (ad 42)), (1, .int x1), (3, .int x3), (4, .int x4)]) C.1.1 C.1.2.1 dX5_readEither_60 rfl hl (by decide) rfl (fun ls hl => ?_)
    refine lt_gen (P := fun x => lv_has ls 6 [(2, .int x), (5, .int s0), (0, .ref (ad 42)), (1, .int x1), (3, .int x3), (4, .int x4)]) h hl (fun x2_3 h hl => ?_)
    refine lv_iconst (v := (-1)) C.1.1 C.1.2.1 dX5_readEither_61 (by decide) ?_
    refine lv_istore_n (lv' := [(3, .int ((-1))), (2, .int x2_3), (5, .int s0), (0, .ref (ad 42)), (1, .int x1), (4, .int x4)]) C.1.1 C.1.2.1 dX5_readEither_62 rfl hl (by decide) rfl (fun ls hl => ?_)
    exact w_X5_readEither_63 rc hrc kb7 hk7 C hx hw (lv_sub hl [3, 4, 1, 0, 5, 2] rfl) h
set_option maxHeartbeats 4000000 in
set_option maxRecDepth 100000 in
theorem w_X5_readEither_7 {dd : Nat} (rc : Int32 → GM → Option (Int32 × GM)) (hrc : ∀ (x1 : Int32) (g : GM) (r : Int32) (gz : GM), rc x1 g = some (r, gz) → ∀ sz : Nat, Met l yX5_readOne (WSX yX5_readOne cX5_readOne 3 (some .int)) (RM dd 0 0) (va_Pc [.ref (ad 42), .int x1] (PX D cA ev hr ad (KX ++ [(5, 7), (8, 4)]) g sz)) (QI D cA ev hr ad (AX ad (KX ++ [(5, 7), (8, 4)]).length sz) (KX ++ [(5, 7), (8, 4)]) r gz) 0 0 (AX ad (KX ++ [(5, 7), (8, 4)]).length sz)) {x1 : Int32} {r : Int32} {gz : GM} (kb7 : Int32 × Int32 × Int32 × GM → Option (Int32 × GM)) (hk7 : ∀ (x2 : Int32) (x3 : Int32) (x4 : Int32) (g : GM) (H : Heap) (locs : List Loc) (ls : Array Slot), WS D cA ev hr ad A (KX ++ [(5, 7), (8, 4)]) s H locs g → lv_has ls 6 [(0, .ref (ad 42)), (1, .int x1), (2, .int x2), (3, .int x3), (4, .int x4)] → kb7 (x2, x3, x4, g) = some (r, gz) → W p l e (RM (dd + 12) 0 0) s m args below meth c H locs 0 0 (MQ below (QI D cA ev hr ad A (KX ++ [(5, 7), (8, 4)]) r gz) args s 0 0 A) (F0 m 7 ls [])) (C : CX p s m args meth c RX5 yX5_readEither cX5_readEither 6 (some .int) D cA) (hx : HW hr ad) {H : Heap} {locs : List Loc} {x2 : Int32} {x3 : Int32} {x4 : Int32} {g : GM} (hw : WS D cA ev hr ad A (KX ++ [(5, 7), (8, 4)]) s H locs g) {ls : Array Slot} (hl : lv_has ls 6 [(0, .ref (ad 42)), (1, .int x1), (2, .int x2), (3, .int x3), (4, .int x4)]) (h : F_X5_readEitherR_7B rc x1 kb7 (x2, x3, x4, g) = some (r, gz)) : W p l e (RM (dd + 12) 0 0) s m args below meth c H locs 0 0 (MQ below (QI D cA ev hr ad A (KX ++ [(5, 7), (8, 4)]) r gz) args s 0 0 A) (F0 m 7 ls []) := by
  refine lv_iload C.1.1 C.1.2.1 dX5_readEither_7 (lv_at hl 4 rfl) ?_
  refine lv_sipush (v := 600) C.1.1 C.1.2.1 dX5_readEither_9 (by decide) ?_
  refine lv_icmp_gt (tgt := 95) C.1.1 C.1.2.1 dX5_readEither_12 (by decide) (fun hc => ?_) (fun hc => ?_)
  · replace h := ite_pos' h hc
    refine lv_iload_n C.1.1 C.1.2.1 dX5_readEither_95 rfl (lv_at hl 2 rfl) ?_
    cases h
    exact r_iret C hw (Or.inl rfl) dX5_readEither_96
  · replace h := ite_neg' h hc
    refine lv_aload_n C.1.1 C.1.2.1 dX5_readEither_15 rfl (lv_at hl 0 rfl) ?_
    refine r_getR (v := .ref (ad 1)) C hw kLW42 fX5_9 rfl hx.2.1 dX5_readEither_16 ?_
    refine r_getI C hw (kx1 _) fX5_38 rfl dX5_readEither_19 ?_
    refine lv_if_ne (tgt := 95) C.1.1 C.1.2.1 dX5_readEither_22 (by decide) (fun hc => ?_) (fun hc => ?_)
    · replace h := ite_neg' h hc
      refine lv_iload_n C.1.1 C.1.2.1 dX5_readEither_95 rfl (lv_at hl 2 rfl) ?_
      cases h
      exact r_iret C hw (Or.inl rfl) dX5_readEither_96
    · replace h := ite_pos' h hc
      refine lv_iload_n C.1.1 C.1.2.1 dX5_readEither_25 rfl (lv_at hl 3 rfl) ?_
      refine lv_aload_n C.1.1 C.1.2.1 dX5_readEither_26 rfl (lv_at hl 0 rfl) ?_
      refine lv_iload_n C.1.1 C.1.2.1 dX5_readEither_27 rfl (lv_at hl 1 rfl) ?_
      obtain ⟨⟨r_4, g_5⟩, hc, h⟩ := bnd_some h
      refine r_vI (dc := dd) (As := [.int x1]) (rest := [.int x3]) C hw vX5_111 kLW42 (by decide) rfl (fun sz => hrc _ _ _ _ hc sz) (by omega) rfl rfl hl.1 (Nat.le_of_ble_eq_true rfl) dX5_readEither_28 ⟨Nat.le_refl _, Nat.le_refl _⟩ (fun H locs hw => ?_)
      refine lv_iand C.1.1 C.1.2.1 dX5_readEither_31 ?_
      refine lv_istore_n (lv' := [(3, .int (x3 &&& r_4)), (0, .ref (ad 42)), (1, .int x1), (2, .int x2), (4, .int x4)]) C.1.1 C.1.2.1 dX5_readEither_32 rfl hl (by decide) rfl (fun ls hl => ?_)
      refine lt_gen (P := fun x => lv_has ls 6 [(3, .int x), (0, .ref (ad 42)), (1, .int x1), (2, .int x2), (4, .int x4)]) h hl (fun x3_6 h hl => ?_)
      refine lv_aload_n C.1.1 C.1.2.1 dX5_readEither_33 rfl (lv_at hl 1 rfl) ?_
      refine r_getR (v := .ref (ad 1)) C hw kLW42 fX5_9 rfl hx.2.1 dX5_readEither_34 ?_
      refine r_getI C hw (kx1 _) fX5_42 rfl dX5_readEither_37 ?_
      refine lv_bipush (v := 13) C.1.1 C.1.2.1 dX5_readEither_40 (by decide) ?_
      refine lv_icmp_ne (tgt := 49) C.1.1 C.1.2.1 dX5_readEither_42 (by decide) (fun hc => ?_) (fun hc => ?_)
      · replace h := ite_neg' h hc
        refine lv_iconst (v := 0) C.1.1 C.1.2.1 dX5_readEither_49 (by decide) ?_
        exact w_X5_readEither_50 rc hrc kb7 hk7 C hx hw (lv_sub hl [1, 2, 3, 0, 4] rfl) h
      · replace h := ite_pos' h hc
        refine lv_iconst (v := 1) C.1.1 C.1.2.1 dX5_readEither_45 (by decide) ?_
        refine lv_goto (tgt := 50) C.1.1 C.1.2.1 dX5_readEither_46 (by decide) ?_
        exact w_X5_readEither_50 rc hrc kb7 hk7 C hx hw (lv_sub hl [1, 2, 3, 0, 4] rfl) h
set_option maxHeartbeats 4000000 in
set_option maxRecDepth 100000 in
theorem w_X5_readEither_7L {dd : Nat} (rc : Int32 → GM → Option (Int32 × GM)) (hrc : ∀ (x1 : Int32) (g : GM) (r : Int32) (gz : GM), rc x1 g = some (r, gz) → ∀ sz : Nat, Met l yX5_readOne (WSX yX5_readOne cX5_readOne 3 (some .int)) (RM dd 0 0) (va_Pc [.ref (ad 42), .int x1] (PX D cA ev hr ad (KX ++ [(5, 7), (8, 4)]) g sz)) (QI D cA ev hr ad (AX ad (KX ++ [(5, 7), (8, 4)]).length sz) (KX ++ [(5, 7), (8, 4)]) r gz) 0 0 (AX ad (KX ++ [(5, 7), (8, 4)]).length sz)) {x1 : Int32} {r : Int32} {gz : GM} (C : CX p s m args meth c RX5 yX5_readEither cX5_readEither 6 (some .int) D cA) (hx : HW hr ad) : ∀ (n : Nat) (x2 : Int32) (x3 : Int32) (x4 : Int32) (g : GM) (H : Heap) (locs : List Loc) (ls : Array Slot), WS D cA ev hr ad A (KX ++ [(5, 7), (8, 4)]) s H locs g → lv_has ls 6 [(0, .ref (ad 42)), (1, .int x1), (2, .int x2), (3, .int x3), (4, .int x4)] → fixN (F_X5_readEitherR_7B rc x1) n (x2, x3, x4, g) = some (r, gz) → W p l e (RM (dd + 12) 0 0) s m args below meth c H locs 0 0 (MQ below (QI D cA ev hr ad A (KX ++ [(5, 7), (8, 4)]) r gz) args s 0 0 A) (F0 m 7 ls []) := by
  intro n
  induction n with
  | zero => intro x2 x3 x4 g H locs ls hw hl h; exact (fix_zero h).elim
  | succ n ih => intro x2 x3 x4 g H locs ls hw hl h; exact w_X5_readEither_7 rc hrc (fixN (F_X5_readEitherR_7B rc x1) n) ih C hx hw hl h
set_option maxHeartbeats 4000000 in
set_option maxRecDepth 100000 in
theorem w_X5_readEither_0 {dd : Nat} (rc : Int32 → GM → Option (Int32 × GM)) (hrc : ∀ (x1 : Int32) (g : GM) (r : Int32) (gz : GM), rc x1 g = some (r, gz) → ∀ sz : Nat, Met l yX5_readOne (WSX yX5_readOne cX5_readOne 3 (some .int)) (RM dd 0 0) (va_Pc [.ref (ad 42), .int x1] (PX D cA ev hr ad (KX ++ [(5, 7), (8, 4)]) g sz)) (QI D cA ev hr ad (AX ad (KX ++ [(5, 7), (8, 4)]).length sz) (KX ++ [(5, 7), (8, 4)]) r gz) 0 0 (AX ad (KX ++ [(5, 7), (8, 4)]).length sz)) (C : CX p s m args meth c RX5 yX5_readEither cX5_readEither 6 (some .int) D cA) (hx : HW hr ad) {H : Heap} {locs : List Loc} {g : GM} (hw : WS D cA ev hr ad A (KX ++ [(5, 7), (8, 4)]) s H locs g) {a1 : Int32} {ls : Array Slot} (hl : lv_has ls 6 [(0, .ref (ad 42)), (1, .int a1)]) {r : Int32} {gz : GM} (h : F_X5_readEitherR rc a1 g = some (r, gz)) : W p l e (RM (dd + 12) 0 0) s m args below meth c H locs 0 0 (MQ below (QI D cA ev hr ad A (KX ++ [(5, 7), (8, 4)]) r gz) args s 0 0 A) (F0 m 0 ls []) := by
  refine lv_iconst (v := 0) C.1.1 C.1.2.1 dX5_readEither_0 (by decide) ?_
  refine lv_istore_n (lv' := [(2, .int 0), (0, .ref (ad 42)), (1, .int a1)]) C.1.1 C.1.2.1 dX5_readEither_1 rfl hl (by decide) rfl (fun ls hl => ?_)
  refine lv_iconst (v := (-1)) C.1.1 C.1.2.1 dX5_readEither_2 (by decide) ?_
  refine lv_istore_n (lv' := [(3, .int ((-1))), (2, .int 0), (0, .ref (ad 42)), (1, .int a1)]) C.1.1 C.1.2.1 dX5_readEither_3 rfl hl (by decide) rfl (fun ls hl => ?_)
  refine lv_iconst (v := 0) C.1.1 C.1.2.1 dX5_readEither_4 (by decide) ?_
  refine lv_istore (lv' := [(4, .int 0), (3, .int ((-1))), (2, .int 0), (0, .ref (ad 42)), (1, .int a1)]) C.1.1 C.1.2.1 dX5_readEither_5 hl (by decide) rfl (fun ls hl => ?_)
  exact w_X5_readEither_7L rc hrc C hx FU _ _ _ _ _ _ _ hw (lv_sub hl [3, 4, 2, 1, 0] rfl) h
set_option maxHeartbeats 4000000 in
set_option maxRecDepth 100000 in
theorem c_X5_readEitherR {dd : Nat} (rc : Int32 → GM → Option (Int32 × GM)) (hrc : ∀ (x1 : Int32) (g : GM) (r : Int32) (gz : GM), rc x1 g = some (r, gz) → ∀ sz : Nat, Met l yX5_readOne (WSX yX5_readOne cX5_readOne 3 (some .int)) (RM dd 0 0) (va_Pc [.ref (ad 42), .int x1] (PX D cA ev hr ad (KX ++ [(5, 7), (8, 4)]) g sz)) (QI D cA ev hr ad (AX ad (KX ++ [(5, 7), (8, 4)]).length sz) (KX ++ [(5, 7), (8, 4)]) r gz) 0 0 (AX ad (KX ++ [(5, 7), (8, 4)]).length sz)) (hx : HW hr ad) {a1 : Int32} {g : GM} {r : Int32} {gz : GM} (h : F_X5_readEitherR rc a1 g = some (r, gz)) (sz : Nat) : Met l yX5_readEither (WSX yX5_readEither cX5_readEither 6 (some .int)) (RM (dd + 12) 0 0) (va_Pc [.ref (ad 42), .int a1] (PX D cA ev hr ad (KX ++ [(5, 7), (8, 4)]) g sz)) (QI D cA ev hr ad (AX ad (KX ++ [(5, 7), (8, 4)]).length sz) (KX ++ [(5, 7), (8, 4)]) r gz) 0 0 (AX ad (KX ++ [(5, 7), (8, 4)]).length sz) :=
  met_of (own := RX5) pnX5 rfl (Nat.le_of_ble_eq_true rfl) (fun p e s m below meth c ls C hw hsz hl => w_X5_readEither_0 rc hrc C hx hw hl h)
set_option maxHeartbeats 4000000 in
set_option maxRecDepth 100000 in
theorem w_X5_readOne_0 {dd : Nat} (rc : Int32 → GM → Option (Int32 × GM)) (hrc : ∀ (x1 : Int32) (g : GM) (r : Int32) (gz : GM), rc x1 g = some (r, gz) → ∀ sz : Nat, Met l yX5_readOne (WSX yX5_readOne cX5_readOne 3 (some .int)) (RM dd 0 0) (va_Pc [.ref (ad 42), .int x1] (PX D cA ev hr ad (KX ++ [(5, 7), (8, 4)]) g sz)) (QI D cA ev hr ad (AX ad (KX ++ [(5, 7), (8, 4)]).length sz) (KX ++ [(5, 7), (8, 4)]) r gz) 0 0 (AX ad (KX ++ [(5, 7), (8, 4)]).length sz)) (rd : Int32 → GM → Option (Int32 × GM)) (hrd : ∀ (x1 : Int32) (g : GM) (r : Int32) (gz : GM), rd x1 g = some (r, gz) → ∀ sz : Nat, Met l yX5_readEither (WSX yX5_readEither cX5_readEither 6 (some .int)) (RM (dd + 12) 0 0) (va_Pc [.ref (ad 42), .int x1] (PX D cA ev hr ad (KX ++ [(5, 7), (8, 4)]) g sz)) (QI D cA ev hr ad (AX ad (KX ++ [(5, 7), (8, 4)]).length sz) (KX ++ [(5, 7), (8, 4)]) r gz) 0 0 (AX ad (KX ++ [(5, 7), (8, 4)]).length sz)) (C : CX p s m args meth c RX5 yX5_readOne cX5_readOne 3 (some .int) D cA) (hx : HW hr ad) {H : Heap} {locs : List Loc} {g : GM} (hw : WS D cA ev hr ad A (KX ++ [(5, 7), (8, 4)]) s H locs g) {a1 : Int32} {ls : Array Slot} (hl : lv_has ls 3 [(0, .ref (ad 42)), (1, .int a1)]) {r : Int32} {gz : GM} (h : F_X5_readOneR rc rd a1 g = some (r, gz)) : W p l e (RM (dd + 24) 0 0) s m args below meth c H locs 0 0 (MQ below (QI D cA ev hr ad A (KX ++ [(5, 7), (8, 4)]) r gz) args s 0 0 A) (F0 m 0 ls []) := by
  refine lv_aload_n C.1.1 C.1.2.1 dX5_readOne_0 rfl (lv_at hl 0 rfl) ?_
  refine r_getR (v := .ref (ad 1)) C hw kLW42 fX5_9 rfl hx.2.1 dX5_readOne_1 ?_
  refine r_getI C hw (kx1 _) fX5_38 rfl dX5_readOne_4 ?_
  refine lv_if_eq (tgt := 12) C.1.1 C.1.2.1 dX5_readOne_7 (by decide) (fun hc => ?_) (fun hc => ?_)
  · replace h := ite_pos' h hc
    refine lv_iload_n C.1.1 C.1.2.1 dX5_readOne_12 rfl (lv_at hl 1 rfl) ?_
    refine lv_bipush (v := 6) C.1.1 C.1.2.1 dX5_readOne_13 (by decide) ?_
    refine lv_icmp_lt (tgt := 27) C.1.1 C.1.2.1 dX5_readOne_15 (by decide) (fun hc => ?_) (fun hc => ?_)
    · replace h := ite_pos' h hc
      refine lv_aload_n C.1.1 C.1.2.1 dX5_readOne_27 rfl (lv_at hl 0 rfl) ?_
      refine r_getR (v := .ref (ad 1)) C hw kLW42 fX5_9 rfl hx.2.1 dX5_readOne_28 ?_
      refine r_getI C hw (kx1 _) fX5_42 rfl dX5_readOne_31 ?_
      refine lv_bipush (v := 12) C.1.1 C.1.2.1 dX5_readOne_34 (by decide) ?_
      refine lv_icmp_ne (tgt := 56) C.1.1 C.1.2.1 dX5_readOne_36 (by decide) (fun hc => ?_) (fun hc => ?_)
      · replace h := ite_neg' h hc
        refine lv_aload_n C.1.1 C.1.2.1 dX5_readOne_56 rfl (lv_at hl 0 rfl) ?_
        refine r_getR (v := .ref (ad 1)) C hw kLW42 fX5_9 rfl hx.2.1 dX5_readOne_57 ?_
        refine r_getI C hw (kx1 _) fX5_42 rfl dX5_readOne_60 ?_
        refine lv_bipush (v := 40) C.1.1 C.1.2.1 dX5_readOne_63 (by decide) ?_
        refine lv_icmp_ne (tgt := 95) C.1.1 C.1.2.1 dX5_readOne_65 (by decide) (fun hc => ?_) (fun hc => ?_)
        · replace h := ite_neg' h hc
          refine lv_aload_n C.1.1 C.1.2.1 dX5_readOne_95 rfl (lv_at hl 0 rfl) ?_
          obtain ⟨g_1, hc, h⟩ := bnd_some h
          refine r_vV (dc := 9) (As := []) (rest := []) C hw vX5_114 kLW42 (by decide) rfl (fun sz => c_X5_readPath hx hc sz) (by omega) rfl rfl hl.1 (Nat.le_of_ble_eq_true rfl) dX5_readOne_96 ⟨Nat.le_refl _, Nat.le_refl _⟩ (fun H locs hw => ?_)
          refine lv_aload_n C.1.1 C.1.2.1 dX5_readOne_99 rfl (lv_at hl 0 rfl) ?_
          obtain ⟨⟨r_2, g_3⟩, hc, h⟩ := bnd_some h
          refine r_vI (dc := 9) (As := []) (rest := []) C hw vX5_117 kLW42 (by decide) rfl (fun sz => c_X5_readComparison hx hc sz) (by omega) rfl rfl hl.1 (Nat.le_of_ble_eq_true rfl) dX5_readOne_100 ⟨Nat.le_refl _, Nat.le_refl _⟩ (fun H locs hw => ?_)
          cases h
          exact r_iret C hw (Or.inl rfl) dX5_readOne_103
        · replace h := ite_pos' h hc
          refine lv_aload_n C.1.1 C.1.2.1 dX5_readOne_68 rfl (lv_at hl 0 rfl) ?_
          refine r_getR (v := .ref (ad 1)) C hw kLW42 fX5_9 rfl hx.2.1 dX5_readOne_69 ?_
          obtain ⟨g_4, hc, h⟩ := bnd_some h
          refine r_vV (dc := 8) (As := []) (rest := []) C hw vX5_54 (kx1 _) (by decide) rfl (fun sz => c_X4_advance hx.1 hc sz) (by omega) rfl rfl hl.1 (Nat.le_of_ble_eq_true rfl) dX5_readOne_72 ⟨Nat.le_refl _, Nat.le_refl _⟩ (fun H locs hw => ?_)
          refine lv_aload_n C.1.1 C.1.2.1 dX5_readOne_75 rfl (lv_at hl 0 rfl) ?_
          refine lv_iload_n C.1.1 C.1.2.1 dX5_readOne_76 rfl (lv_at hl 1 rfl) ?_
          refine lv_iconst (v := 1) C.1.1 C.1.2.1 dX5_readOne_77 (by decide) ?_
          refine lv_iadd C.1.1 C.1.2.1 dX5_readOne_78 ?_
          obtain ⟨⟨r_5, g_6⟩, hc, h⟩ := bnd_some h
          refine r_vI (dc := dd + 12) (As := [.int (a1 + 1)]) (rest := []) C hw vX5_74 kLW42 (by decide) rfl (fun sz => hrd _ _ _ _ hc sz) (by omega) rfl rfl hl.1 (Nat.le_of_ble_eq_true rfl) dX5_readOne_79 ⟨Nat.le_refl _, Nat.le_refl _⟩ (fun H locs hw => ?_)
          refine lv_istore_n (lv' := [(2, .int r_5), (0, .ref (ad 42)), (1, .int a1)]) C.1.1 C.1.2.1 dX5_readOne_82 rfl hl (by decide) rfl (fun ls hl => ?_)
          refine lt_gen (P := fun x => lv_has ls 3 [(2, .int x), (0, .ref (ad 42)), (1, .int a1)]) h hl (fun x2_7 h hl => ?_)
          refine lv_aload_n C.1.1 C.1.2.1 dX5_readOne_83 rfl (lv_at hl 1 rfl) ?_
          refine r_getR (v := .ref (ad 1)) C hw kLW42 fX5_9 rfl hx.2.1 dX5_readOne_84 ?_
          refine lv_bipush (v := 41) C.1.1 C.1.2.1 dX5_readOne_87 (by decide) ?_
          obtain ⟨⟨r_8, g_9⟩, hc, h⟩ := bnd_some h
          refine r_vI (dc := 9) (As := [.int 41]) (rest := []) C hw vX5_77 (kx1 _) (by decide) rfl (fun sz => c_X4_take hx.1 hc sz) (by omega) rfl rfl hl.1 (Nat.le_of_ble_eq_true rfl) dX5_readOne_89 ⟨Nat.le_refl _, Nat.le_refl _⟩ (fun H locs hw => ?_)
          refine lv_pop C.1.1 C.1.2.1 dX5_readOne_92 rfl ?_
          refine lv_iload_n C.1.1 C.1.2.1 dX5_readOne_93 rfl (lv_at hl 0 rfl) ?_
          cases h
          exact r_iret C hw (Or.inl rfl) dX5_readOne_94
      · replace h := ite_pos' h hc
        refine lv_aload_n C.1.1 C.1.2.1 dX5_readOne_39 rfl (lv_at hl 0 rfl) ?_
        refine r_getR (v := .ref (ad 1)) C hw kLW42 fX5_9 rfl hx.2.1 dX5_readOne_40 ?_
        obtain ⟨g_10, hc, h⟩ := bnd_some h
        refine r_vV (dc := 8) (As := []) (rest := []) C hw vX5_54 (kx1 _) (by decide) rfl (fun sz => c_X4_advance hx.1 hc sz) (by omega) rfl rfl hl.1 (Nat.le_of_ble_eq_true rfl) dX5_readOne_43 ⟨Nat.le_refl _, Nat.le_refl _⟩ (fun H locs hw => ?_)
        refine lv_aload_n C.1.1 C.1.2.1 dX5_readOne_46 rfl (lv_at hl 0 rfl) ?_
        refine lv_iload_n C.1.1 C.1.2.1 dX5_readOne_47 rfl (lv_at hl 1 rfl) ?_
        refine lv_iconst (v := 1) C.1.1 C.1.2.1 dX5_readOne_48 (by decide) ?_
        refine lv_iadd C.1.1 C.1.2.1 dX5_readOne_49 ?_
        obtain ⟨⟨r_11, g_12⟩, hc, h⟩ := bnd_some h
        refine r_vI (dc := dd) (As := [.int (a1 + 1)]) (rest := []) C hw vX5_111 kLW42 (by decide) rfl (fun sz => hrc _ _ _ _ hc sz) (by omega) rfl rfl hl.1 (Nat.le_of_ble_eq_true rfl) dX5_readOne_50 ⟨Nat.le_refl _, Nat.le_refl _⟩ (fun H locs hw => ?_)
        refine lv_iconst (v := (-1)) C.1.1 C.1.2.1 dX5_readOne_53 (by decide) ?_
        refine lv_ixor C.1.1 C.1.2.1 dX5_readOne_54 ?_
        cases h
        exact r_iret C hw (Or.inl rfl) dX5_readOne_55
    · replace h := ite_neg' h hc
      refine lv_aload_n C.1.1 C.1.2.1 dX5_readOne_18 rfl (lv_at hl 0 rfl) ?_
      refine r_getR (v := .ref (ad 1)) C hw kLW42 fX5_9 rfl hx.2.1 dX5_readOne_19 ?_
      obtain ⟨g_13, hc, h⟩ := bnd_some h
      refine r_vV (dc := 2) (As := []) (rest := []) C hw vX5_51 (kx1 _) (by decide) rfl (fun sz => c_X4_refuseToken hx.1 hc sz) (by omega) rfl rfl hl.1 (Nat.le_of_ble_eq_true rfl) dX5_readOne_22 ⟨Nat.le_refl _, Nat.le_refl _⟩ (fun H locs hw => ?_)
      refine lv_iconst (v := 0) C.1.1 C.1.2.1 dX5_readOne_25 (by decide) ?_
      cases h
      exact r_iret C hw (Or.inl rfl) dX5_readOne_26
  · replace h := ite_neg' h hc
    refine lv_iconst (v := 0) C.1.1 C.1.2.1 dX5_readOne_10 (by decide) ?_
    cases h
    exact r_iret C hw (Or.inl rfl) dX5_readOne_11
set_option maxHeartbeats 4000000 in
set_option maxRecDepth 100000 in
theorem c_X5_readOneR {dd : Nat} (rc : Int32 → GM → Option (Int32 × GM)) (hrc : ∀ (x1 : Int32) (g : GM) (r : Int32) (gz : GM), rc x1 g = some (r, gz) → ∀ sz : Nat, Met l yX5_readOne (WSX yX5_readOne cX5_readOne 3 (some .int)) (RM dd 0 0) (va_Pc [.ref (ad 42), .int x1] (PX D cA ev hr ad (KX ++ [(5, 7), (8, 4)]) g sz)) (QI D cA ev hr ad (AX ad (KX ++ [(5, 7), (8, 4)]).length sz) (KX ++ [(5, 7), (8, 4)]) r gz) 0 0 (AX ad (KX ++ [(5, 7), (8, 4)]).length sz)) (rd : Int32 → GM → Option (Int32 × GM)) (hrd : ∀ (x1 : Int32) (g : GM) (r : Int32) (gz : GM), rd x1 g = some (r, gz) → ∀ sz : Nat, Met l yX5_readEither (WSX yX5_readEither cX5_readEither 6 (some .int)) (RM (dd + 12) 0 0) (va_Pc [.ref (ad 42), .int x1] (PX D cA ev hr ad (KX ++ [(5, 7), (8, 4)]) g sz)) (QI D cA ev hr ad (AX ad (KX ++ [(5, 7), (8, 4)]).length sz) (KX ++ [(5, 7), (8, 4)]) r gz) 0 0 (AX ad (KX ++ [(5, 7), (8, 4)]).length sz)) (hx : HW hr ad) {a1 : Int32} {g : GM} {r : Int32} {gz : GM} (h : F_X5_readOneR rc rd a1 g = some (r, gz)) (sz : Nat) : Met l yX5_readOne (WSX yX5_readOne cX5_readOne 3 (some .int)) (RM (dd + 24) 0 0) (va_Pc [.ref (ad 42), .int a1] (PX D cA ev hr ad (KX ++ [(5, 7), (8, 4)]) g sz)) (QI D cA ev hr ad (AX ad (KX ++ [(5, 7), (8, 4)]).length sz) (KX ++ [(5, 7), (8, 4)]) r gz) 0 0 (AX ad (KX ++ [(5, 7), (8, 4)]).length sz) :=
  met_of (own := RX5) pnX5 rfl (Nat.le_of_ble_eq_true rfl) (fun p e s m below meth c ls C hw hsz hl => w_X5_readOne_0 rc hrc rd hrd C hx hw hl h)

theorem c_X5_readOne (hx : HW hr ad) : ∀ (n : Nat) (x1 : Int32) (g : GM) (r : Int32) (gz : GM), F_X5_readOne n x1 g = some (r, gz) → ∀ sz : Nat, Met l yX5_readOne (WSX yX5_readOne cX5_readOne 3 (some .int)) (RM (24 * n) 0 0) (va_Pc [.ref (ad 42), .int x1] (PX D cA ev hr ad (KX ++ [(5, 7), (8, 4)]) g sz)) (QI D cA ev hr ad (AX ad (KX ++ [(5, 7), (8, 4)]).length sz) (KX ++ [(5, 7), (8, 4)]) r gz) 0 0 (AX ad (KX ++ [(5, 7), (8, 4)]).length sz) := by
  intro n
  induction n with
  | zero => intro x1 g r gz h; exact (none_ne h).elim
  | succ n ih => intro x1 g r gz h sz; exact c_X5_readOneR (F_X5_readOne n) ih (F_X5_readEitherR (F_X5_readOne n)) (fun x1 g r gz h sz => c_X5_readEitherR (F_X5_readOne n) ih hx h sz) hx h sz
theorem c_X5_readEither (hx : HW hr ad) {x1 : Int32} {g : GM} {r : Int32} {gz : GM} (h : F_X5_readEither x1 g = some (r, gz)) (sz : Nat) : Met l yX5_readEither (WSX yX5_readEither cX5_readEither 6 (some .int)) (RM 396 0 0) (va_Pc [.ref (ad 42), .int x1] (PX D cA ev hr ad (KX ++ [(5, 7), (8, 4)]) g sz)) (QI D cA ev hr ad (AX ad (KX ++ [(5, 7), (8, 4)]).length sz) (KX ++ [(5, 7), (8, 4)]) r gz) 0 0 (AX ad (KX ++ [(5, 7), (8, 4)]).length sz) :=
  c_X5_readEitherR (dd := 384) (F_X5_readOne 16) (c_X5_readOne hx 16) hx h sz
set_option maxHeartbeats 4000000 in
set_option maxRecDepth 100000 in
theorem w_X5_readWish_77 {x1 : Int32} {x2 : Int32} {g : GM} {gz : GM} (C : CX p s m args meth c RX5 yX5_readWish cX5_readWish 3 none D cA) (hx : HW hr ad) {H : Heap} {locs : List Loc} (hw : WS D cA ev hr ad A (KX ++ [(5, 7), (8, 4)]) s H locs g) {ls : Array Slot} (hl : lv_has ls 3 [(0, .ref (ad 42)), (1, .int x1), (2, .int x2)]) (h : F_X5_readWish_77 x1 x2 g = some gz) : W p l e (RM 400 0 0) s m args below meth c H locs 0 0 (MQ below (QV D cA ev hr ad A (KX ++ [(5, 7), (8, 4)]) gz) args s 0 0 A) (F0 m 77 ls []) := by
  refine lv_aload_n C.1.1 C.1.2.1 dX5_readWish_77 rfl (lv_at hl 0 rfl) ?_
  refine r_getR (v := .ref (ad 1)) C hw kLW42 fX5_9 rfl hx.2.1 dX5_readWish_78 ?_
  refine lv_bipush (v := 59) C.1.1 C.1.2.1 dX5_readWish_81 (by decide) ?_
  obtain ⟨⟨r_1, g_2⟩, hc, h⟩ := bnd_some h
  refine r_vI (dc := 9) (As := [.int 59]) (rest := []) C hw vX5_77 (kx1 _) (by decide) rfl (fun sz => c_X4_take hx.1 hc sz) (by decide) rfl rfl hl.1 (Nat.le_of_ble_eq_true rfl) dX5_readWish_83 ⟨Nat.le_refl _, Nat.le_refl _⟩ (fun H locs hw => ?_)
  refine lv_if_eq (tgt := 102) C.1.1 C.1.2.1 dX5_readWish_86 (by decide) (fun hc => ?_) (fun hc => ?_)
  · replace h := ite_pos' h hc
    cases h
    exact r_vret C hw rfl dX5_readWish_102
  · replace h := ite_neg' h hc
    refine lv_aload_n C.1.1 C.1.2.1 dX5_readWish_89 rfl (lv_at hl 0 rfl) ?_
    refine r_getR (v := .ref (ad 35)) C hw kLW42 fX5_19 rfl hx.2.2.2.1 dX5_readWish_90 ?_
    refine lv_aload_n C.1.1 C.1.2.1 dX5_readWish_93 rfl (lv_at hl 0 rfl) ?_
    refine r_getI C hw kLW42 fX5_65 rfl dX5_readWish_94 ?_
    refine lv_iload_n C.1.1 C.1.2.1 dX5_readWish_97 rfl (lv_at hl 1 rfl) ?_
    refine lv_iload_n C.1.1 C.1.2.1 dX5_readWish_98 rfl (lv_at hl 2 rfl) ?_
    obtain ⟨g_3, hc, h⟩ := bnd_some h
    refine r_vV (dc := 2) (As := [.int (gi g_2 42 6), .int x1, .int x2]) (rest := []) C hw vX5_81 (kx35 _) (by decide) rfl (fun sz => c_X1_addWish_e hx.1 hc sz) (by decide) rfl rfl hl.1 (Nat.le_of_ble_eq_true rfl) dX5_readWish_99 ⟨Nat.le_refl _, Nat.le_refl _⟩ (fun H locs hw => ?_)
    cases h
    exact r_vret C hw rfl dX5_readWish_102
set_option maxHeartbeats 4000000 in
set_option maxRecDepth 100000 in
theorem w_X5_readWish_0 (C : CX p s m args meth c RX5 yX5_readWish cX5_readWish 3 none D cA) (hx : HW hr ad) {H : Heap} {locs : List Loc} {g : GM} (hw : WS D cA ev hr ad A (KX ++ [(5, 7), (8, 4)]) s H locs g) {ls : Array Slot} (hl : lv_has ls 3 [(0, .ref (ad 42))]) {gz : GM} (h : F_X5_readWish g = some gz) : W p l e (RM 400 0 0) s m args below meth c H locs 0 0 (MQ below (QV D cA ev hr ad A (KX ++ [(5, 7), (8, 4)]) gz) args s 0 0 A) (F0 m 0 ls []) := by
  refine lv_aload_n C.1.1 C.1.2.1 dX5_readWish_0 rfl (lv_at hl 0 rfl) ?_
  refine r_getR (v := .ref (ad 1)) C hw kLW42 fX5_9 rfl hx.2.1 dX5_readWish_1 ?_
  obtain ⟨g_4, hc, h⟩ := bnd_some h
  refine r_vV (dc := 8) (As := []) (rest := []) C hw vX5_54 (kx1 _) (by decide) rfl (fun sz => c_X4_advance hx.1 hc sz) (by decide) rfl rfl hl.1 (Nat.le_of_ble_eq_true rfl) dX5_readWish_4 ⟨Nat.le_refl _, Nat.le_refl _⟩ (fun H locs hw => ?_)
  refine lv_aload_n C.1.1 C.1.2.1 dX5_readWish_7 rfl (lv_at hl 0 rfl) ?_
  obtain ⟨⟨r_5, g_6⟩, hc, h⟩ := bnd_some h
  refine r_vI (dc := 10) (As := []) (rest := []) C hw vX5_57 kLW42 (by decide) rfl (fun sz => c_X5_readNeed hx hc sz) (by decide) rfl rfl hl.1 (Nat.le_of_ble_eq_true rfl) dX5_readWish_8 ⟨Nat.le_refl _, Nat.le_refl _⟩ (fun H locs hw => ?_)
  refine lv_istore_n (lv' := [(1, .int r_5), (0, .ref (ad 42))]) C.1.1 C.1.2.1 dX5_readWish_11 rfl hl (by decide) rfl (fun ls hl => ?_)
  refine lt_gen (P := fun x => lv_has ls 3 [(1, .int x), (0, .ref (ad 42))]) h hl (fun x1_7 h hl => ?_)
  refine lv_aload_n C.1.1 C.1.2.1 dX5_readWish_12 rfl (lv_at hl 1 rfl) ?_
  refine lv_aload_n C.1.1 C.1.2.1 dX5_readWish_13 rfl (lv_at hl 1 rfl) ?_
  refine r_getR (v := .ref (ad 1)) C hw kLW42 fX5_9 rfl hx.2.1 dX5_readWish_14 ?_
  refine lv_aload_n C.1.1 C.1.2.1 dX5_readWish_17 rfl (lv_at hl 1 rfl) ?_
  refine r_getR (v := .ref (ad 6)) C hw kLW42 fX5_15 rfl hx.2.2.1 dX5_readWish_18 ?_
  obtain ⟨⟨r_8, g_9⟩, hc, h⟩ := bnd_some h
  refine r_vI (dc := 9) (As := [.ref (ad 6)]) (rest := [.ref (ad 42)]) C hw vX5_61 (kx1 _) (by decide) rfl (fun sz => c_X4_takeTable_s hx.1 hc sz) (by decide) rfl rfl hl.1 (Nat.le_of_ble_eq_true rfl) dX5_readWish_21 ⟨Nat.le_refl _, Nat.le_refl _⟩ (fun H locs hw => ?_)
  refine r_putI C hw kLW42 fX5_65 rfl rfl (Or.inl rfl) dX5_readWish_24 (fun H locs hw => ?_)
  refine lt_gen (P := fun g => WS D cA ev hr ad A (KX ++ [(5, 7), (8, 4)]) s H locs g) h hw (fun g_10 h hw => ?_)
  refine lv_aload_n C.1.1 C.1.2.1 dX5_readWish_27 rfl (lv_at hl 1 rfl) ?_
  refine r_getR (v := .ref (ad 1)) C hw kLW42 fX5_9 rfl hx.2.1 dX5_readWish_28 ?_
  refine r_getI C hw (kx1 _) fX5_38 rfl dX5_readWish_31 ?_
  refine lv_if_eq (tgt := 38) C.1.1 C.1.2.1 dX5_readWish_34 (by decide) (fun hc => ?_) (fun hc => ?_)
  · replace h := ite_pos' h hc
    refine lv_aload_n C.1.1 C.1.2.1 dX5_readWish_38 rfl (lv_at hl 1 rfl) ?_
    refine r_getR (v := .ref (ad 6)) C hw kLW42 fX5_15 rfl hx.2.2.1 dX5_readWish_39 ?_
    refine lv_aload_n C.1.1 C.1.2.1 dX5_readWish_42 rfl (lv_at hl 1 rfl) ?_
    refine r_getI C hw kLW42 fX5_65 rfl dX5_readWish_43 ?_
    obtain ⟨r_11, hc, h⟩ := bnd_some h
    refine r_vI (dc := 1) (As := [.int (gi g_10 42 6)]) (rest := []) C hw vX5_68 (kx6 _) (by decide) rfl (fun sz => c_X2_rowsOf_s hx.1 hc sz) (by decide) rfl rfl hl.1 (Nat.le_of_ble_eq_true rfl) dX5_readWish_46 ⟨Nat.le_refl _, Nat.le_refl _⟩ (fun H locs hw => ?_)
    refine lv_istore_n (lv' := [(2, .int r_11), (1, .int x1_7), (0, .ref (ad 42))]) C.1.1 C.1.2.1 dX5_readWish_49 rfl hl (by decide) rfl (fun ls hl => ?_)
    refine lt_gen (P := fun x => lv_has ls 3 [(2, .int x), (1, .int x1_7), (0, .ref (ad 42))]) h hl (fun x2_12 h hl => ?_)
    refine lv_aload_n C.1.1 C.1.2.1 dX5_readWish_50 rfl (lv_at hl 2 rfl) ?_
    refine r_getR (v := .ref (ad 1)) C hw kLW42 fX5_9 rfl hx.2.1 dX5_readWish_51 ?_
    refine r_getI C hw (kx1 _) fX5_42 rfl dX5_readWish_54 ?_
    refine lv_bipush (v := 9) C.1.1 C.1.2.1 dX5_readWish_57 (by decide) ?_
    refine lv_icmp_ne (tgt := 77) C.1.1 C.1.2.1 dX5_readWish_59 (by decide) (fun hc => ?_) (fun hc => ?_)
    · replace h := ite_neg' h hc
      exact w_X5_readWish_77 C hx hw (lv_sub hl [2, 1, 0] rfl) h
    · replace h := ite_pos' h hc
      refine lv_aload_n C.1.1 C.1.2.1 dX5_readWish_62 rfl (lv_at hl 2 rfl) ?_
      refine r_getR (v := .ref (ad 1)) C hw kLW42 fX5_9 rfl hx.2.1 dX5_readWish_63 ?_
      obtain ⟨g_13, hc, h⟩ := bnd_some h
      refine r_vV (dc := 8) (As := []) (rest := []) C hw vX5_54 (kx1 _) (by decide) rfl (fun sz => c_X4_advance hx.1 hc sz) (by decide) rfl rfl hl.1 (Nat.le_of_ble_eq_true rfl) dX5_readWish_66 ⟨Nat.le_refl _, Nat.le_refl _⟩ (fun H locs hw => ?_)
      refine lv_iload_n C.1.1 C.1.2.1 dX5_readWish_69 rfl (lv_at hl 0 rfl) ?_
      refine lv_aload_n C.1.1 C.1.2.1 dX5_readWish_70 rfl (lv_at hl 2 rfl) ?_
      refine lv_iconst (v := 0) C.1.1 C.1.2.1 dX5_readWish_71 (by decide) ?_
      obtain ⟨⟨r_14, g_15⟩, hc, h⟩ := bnd_some h
      refine r_vI (dc := 396) (As := [.int 0]) (rest := [.int x2_12]) C hw vX5_74 kLW42 (by decide) rfl (fun sz => c_X5_readEither hx hc sz) (by decide) rfl rfl hl.1 (Nat.le_of_ble_eq_true rfl) dX5_readWish_72 ⟨Nat.le_refl _, Nat.le_refl _⟩ (fun H locs hw => ?_)
      refine lv_iand C.1.1 C.1.2.1 dX5_readWish_75 ?_
      refine lv_istore_n (lv' := [(2, .int (x2_12 &&& r_14)), (1, .int x1_7), (0, .ref (ad 42))]) C.1.1 C.1.2.1 dX5_readWish_76 rfl hl (by decide) rfl (fun ls hl => ?_)
      refine lt_gen (P := fun x => lv_has ls 3 [(2, .int x), (1, .int x1_7), (0, .ref (ad 42))]) h hl (fun x2_16 h hl => ?_)
      exact w_X5_readWish_77 C hx hw (lv_sub hl [2, 1, 0] rfl) h
  · replace h := ite_neg' h hc
    cases h
    exact r_vret C hw rfl dX5_readWish_37
set_option maxHeartbeats 4000000 in
set_option maxRecDepth 100000 in
theorem c_X5_readWish (hx : HW hr ad) {g : GM} {gz : GM} (h : F_X5_readWish g = some gz) (sz : Nat) : Met l yX5_readWish (WSX yX5_readWish cX5_readWish 3 none) (RM 400 0 0) (va_Pc [.ref (ad 42)] (PX D cA ev hr ad (KX ++ [(5, 7), (8, 4)]) g sz)) (QV D cA ev hr ad (AX ad (KX ++ [(5, 7), (8, 4)]).length sz) (KX ++ [(5, 7), (8, 4)]) gz) 0 0 (AX ad (KX ++ [(5, 7), (8, 4)]).length sz) :=
  met_of (own := RX5) pnX5 rfl (Nat.le_of_ble_eq_true rfl) (fun p e s m below meth c ls C hw hsz hl => w_X5_readWish_0 C hx hw hl h)
set_option maxHeartbeats 4000000 in
set_option maxRecDepth 100000 in
theorem w_X5_readAll_106 {g : GM} {r : Int32} {gz : GM} (C : CX p s m args meth c RX5 yX5_readAll cX5_readAll 2 (some .boolean) D cA) (hx : HW hr ad) {H : Heap} {locs : List Loc} (hw : WS D cA ev hr ad A (KX ++ [(5, 7), (8, 4)]) s H locs g) {ls : Array Slot} (hl : lv_has ls 2 [(0, .ref (ad 42))]) (h : F_X5_readAll_106 g = some (r, gz)) : W p l e (RM 401 0 0) s m args below meth c H locs 0 0 (MQ below (QI D cA ev hr ad A (KX ++ [(5, 7), (8, 4)]) r gz) args s 0 0 A) (F0 m 106 ls []) := by
  refine lv_aload_n C.1.1 C.1.2.1 dX5_readAll_106 rfl (lv_at hl 0 rfl) ?_
  refine r_getR (v := .ref (ad 1)) C hw kLW42 fX5_9 rfl hx.2.1 dX5_readAll_107 ?_
  refine r_getI C hw (kx1 _) fX5_38 rfl dX5_readAll_110 ?_
  refine lv_if_ne (tgt := 120) C.1.1 C.1.2.1 dX5_readAll_113 (by decide) (fun hc => ?_) (fun hc => ?_)
  · replace h := ite_neg' h hc
    refine lv_iconst (v := 0) C.1.1 C.1.2.1 dX5_readAll_120 (by decide) ?_
    cases h
    exact r_iret C hw (Or.inr ⟨rfl, Or.inl rfl⟩) dX5_readAll_121
  · replace h := ite_pos' h hc
    refine lv_iconst (v := 1) C.1.1 C.1.2.1 dX5_readAll_116 (by decide) ?_
    refine lv_goto (tgt := 121) C.1.1 C.1.2.1 dX5_readAll_117 (by decide) ?_
    cases h
    exact r_iret C hw (Or.inr ⟨rfl, Or.inr rfl⟩) dX5_readAll_121
set_option maxHeartbeats 4000000 in
set_option maxRecDepth 100000 in
theorem w_X5_readAll_100 {x1 : Int32} {g : GM} {r : Int32} {gz : GM} (kb17 : Int32 × GM → Option (Int32 × GM)) (hk17 : ∀ (x1 : Int32) (g : GM) (H : Heap) (locs : List Loc) (ls : Array Slot), WS D cA ev hr ad A (KX ++ [(5, 7), (8, 4)]) s H locs g → lv_has ls 2 [(0, .ref (ad 42)), (1, .int x1)] → kb17 (x1, g) = some (r, gz) → W p l e (RM 401 0 0) s m args below meth c H locs 0 0 (MQ below (QI D cA ev hr ad A (KX ++ [(5, 7), (8, 4)]) r gz) args s 0 0 A) (F0 m 17 ls [])) (C : CX p s m args meth c RX5 yX5_readAll cX5_readAll 2 (some .boolean) D cA) (hx : HW hr ad) {H : Heap} {locs : List Loc} (hw : WS D cA ev hr ad A (KX ++ [(5, 7), (8, 4)]) s H locs g) {ls : Array Slot} (hl : lv_has ls 2 [(0, .ref (ad 42)), (1, .int x1)]) (h : F_X5_readAll_100 kb17 x1 g = some (r, gz)) : W p l e (RM 401 0 0) s m args below meth c H locs 0 0 (MQ below (QI D cA ev hr ad A (KX ++ [(5, 7), (8, 4)]) r gz) args s 0 0 A) (F0 m 100 ls []) := by
  refine lv_iinc (v := x1 + 1) (lv' := [(1, .int (x1 + 1)), (0, .ref (ad 42))]) C.1.1 C.1.2.1 dX5_readAll_100 hl (k := 1) rfl rfl (by decide) rfl (fun ls hl => ?_)
  refine lt_gen (P := fun x => lv_has ls 2 [(1, .int x), (0, .ref (ad 42))]) h hl (fun x1_1 h hl => ?_)
  refine lv_goto (tgt := 17) C.1.1 C.1.2.1 dX5_readAll_103 (by decide) ?_
  exact hk17 _ _ _ _ _ hw (lv_sub hl [1, 0] rfl) h
set_option maxHeartbeats 4000000 in
set_option maxRecDepth 100000 in
theorem w_X5_readAll_93 {x1 : Int32} {g : GM} {r : Int32} {gz : GM} (kb17 : Int32 × GM → Option (Int32 × GM)) (hk17 : ∀ (x1 : Int32) (g : GM) (H : Heap) (locs : List Loc) (ls : Array Slot), WS D cA ev hr ad A (KX ++ [(5, 7), (8, 4)]) s H locs g → lv_has ls 2 [(0, .ref (ad 42)), (1, .int x1)] → kb17 (x1, g) = some (r, gz) → W p l e (RM 401 0 0) s m args below meth c H locs 0 0 (MQ below (QI D cA ev hr ad A (KX ++ [(5, 7), (8, 4)]) r gz) args s 0 0 A) (F0 m 17 ls [])) (C : CX p s m args meth c RX5 yX5_readAll cX5_readAll 2 (some .boolean) D cA) (hx : HW hr ad) {H : Heap} {locs : List Loc} (hw : WS D cA ev hr ad A (KX ++ [(5, 7), (8, 4)]) s H locs g) {ls : Array Slot} (hl : lv_has ls 2 [(0, .ref (ad 42)), (1, .int x1)]) (h : F_X5_readAll_93 kb17 x1 g = some (r, gz)) : W p l e (RM 401 0 0) s m args below meth c H locs 0 0 (MQ below (QI D cA ev hr ad A (KX ++ [(5, 7), (8, 4)]) r gz) args s 0 0 A) (F0 m 93 ls []) := by
  refine lv_aload_n C.1.1 C.1.2.1 dX5_readAll_93 rfl (lv_at hl 0 rfl) ?_
  refine r_getR (v := .ref (ad 1)) C hw kLW42 fX5_9 rfl hx.2.1 dX5_readAll_94 ?_
  obtain ⟨g_2, hc, h⟩ := bnd_some h
  refine r_vV (dc := 2) (As := []) (rest := []) C hw vX5_51 (kx1 _) (by decide) rfl (fun sz => c_X4_refuseToken hx.1 hc sz) (by decide) rfl rfl hl.1 (Nat.le_of_ble_eq_true rfl) dX5_readAll_97 ⟨Nat.le_refl _, Nat.le_refl _⟩ (fun H locs hw => ?_)
  exact w_X5_readAll_100 kb17 hk17 C hx hw hl h
set_option maxHeartbeats 4000000 in
set_option maxRecDepth 100000 in
theorem w_X5_readAll_68 {x1 : Int32} {g : GM} {r : Int32} {gz : GM} (kb17 : Int32 × GM → Option (Int32 × GM)) (hk17 : ∀ (x1 : Int32) (g : GM) (H : Heap) (locs : List Loc) (ls : Array Slot), WS D cA ev hr ad A (KX ++ [(5, 7), (8, 4)]) s H locs g → lv_has ls 2 [(0, .ref (ad 42)), (1, .int x1)] → kb17 (x1, g) = some (r, gz) → W p l e (RM 401 0 0) s m args below meth c H locs 0 0 (MQ below (QI D cA ev hr ad A (KX ++ [(5, 7), (8, 4)]) r gz) args s 0 0 A) (F0 m 17 ls [])) (C : CX p s m args meth c RX5 yX5_readAll cX5_readAll 2 (some .boolean) D cA) (hx : HW hr ad) {H : Heap} {locs : List Loc} (hw : WS D cA ev hr ad A (KX ++ [(5, 7), (8, 4)]) s H locs g) {ls : Array Slot} (hl : lv_has ls 2 [(0, .ref (ad 42)), (1, .int x1)]) (h : F_X5_readAll_68 kb17 x1 g = some (r, gz)) : W p l e (RM 401 0 0) s m args below meth c H locs 0 0 (MQ below (QI D cA ev hr ad A (KX ++ [(5, 7), (8, 4)]) r gz) args s 0 0 A) (F0 m 68 ls []) := by
  refine lv_aload_n C.1.1 C.1.2.1 dX5_readAll_68 rfl (lv_at hl 0 rfl) ?_
  refine r_getR (v := .ref (ad 1)) C hw kLW42 fX5_9 rfl hx.2.1 dX5_readAll_69 ?_
  refine r_getI C hw (kx1 _) fX5_42 rfl dX5_readAll_72 ?_
  refine lv_bipush (v := 8) C.1.1 C.1.2.1 dX5_readAll_75 (by decide) ?_
  refine lv_icmp_ne (tgt := 93) C.1.1 C.1.2.1 dX5_readAll_77 (by decide) (fun hc => ?_) (fun hc => ?_)
  · replace h := ite_neg' h hc
    exact w_X5_readAll_93 kb17 hk17 C hx hw hl h
  · replace h := ite_pos' h hc
    refine lv_iload_n C.1.1 C.1.2.1 dX5_readAll_80 rfl (lv_at hl 1 rfl) ?_
    refine lv_bipush (v := 10) C.1.1 C.1.2.1 dX5_readAll_81 (by decide) ?_
    refine lv_icmp_ge (tgt := 93) C.1.1 C.1.2.1 dX5_readAll_83 (by decide) (fun hc => ?_) (fun hc => ?_)
    · replace h := ite_pos' h hc
      exact w_X5_readAll_93 kb17 hk17 C hx hw hl h
    · replace h := ite_neg' h hc
      refine lv_aload_n C.1.1 C.1.2.1 dX5_readAll_86 rfl (lv_at hl 0 rfl) ?_
      obtain ⟨g_3, hc, h⟩ := bnd_some h
      refine r_vV (dc := 11) (As := []) (rest := []) C hw vX5_48 kLW42 (by decide) rfl (fun sz => c_X5_readLaw hx hc sz) (by decide) rfl rfl hl.1 (Nat.le_of_ble_eq_true rfl) dX5_readAll_87 ⟨Nat.le_refl _, Nat.le_refl _⟩ (fun H locs hw => ?_)
      refine lv_goto (tgt := 100) C.1.1 C.1.2.1 dX5_readAll_90 (by decide) ?_
      exact w_X5_readAll_100 kb17 hk17 C hx hw hl h
set_option maxHeartbeats 4000000 in
set_option maxRecDepth 100000 in
theorem w_X5_readAll_17 {r : Int32} {gz : GM} (kb17 : Int32 × GM → Option (Int32 × GM)) (hk17 : ∀ (x1 : Int32) (g : GM) (H : Heap) (locs : List Loc) (ls : Array Slot), WS D cA ev hr ad A (KX ++ [(5, 7), (8, 4)]) s H locs g → lv_has ls 2 [(0, .ref (ad 42)), (1, .int x1)] → kb17 (x1, g) = some (r, gz) → W p l e (RM 401 0 0) s m args below meth c H locs 0 0 (MQ below (QI D cA ev hr ad A (KX ++ [(5, 7), (8, 4)]) r gz) args s 0 0 A) (F0 m 17 ls [])) (C : CX p s m args meth c RX5 yX5_readAll cX5_readAll 2 (some .boolean) D cA) (hx : HW hr ad) {H : Heap} {locs : List Loc} {x1 : Int32} {g : GM} (hw : WS D cA ev hr ad A (KX ++ [(5, 7), (8, 4)]) s H locs g) {ls : Array Slot} (hl : lv_has ls 2 [(0, .ref (ad 42)), (1, .int x1)]) (h : F_X5_readAll_17B kb17 (x1, g) = some (r, gz)) : W p l e (RM 401 0 0) s m args below meth c H locs 0 0 (MQ below (QI D cA ev hr ad A (KX ++ [(5, 7), (8, 4)]) r gz) args s 0 0 A) (F0 m 17 ls []) := by
  refine lv_iload_n C.1.1 C.1.2.1 dX5_readAll_17 rfl (lv_at hl 1 rfl) ?_
  refine lv_bipush (v := 10) C.1.1 C.1.2.1 dX5_readAll_18 (by decide) ?_
  refine lv_icmp_gt (tgt := 106) C.1.1 C.1.2.1 dX5_readAll_20 (by decide) (fun hc => ?_) (fun hc => ?_)
  · replace h := ite_pos' h hc
    exact w_X5_readAll_106 C hx hw (lv_sub hl [0] rfl) h
  · replace h := ite_neg' h hc
    refine lv_aload_n C.1.1 C.1.2.1 dX5_readAll_23 rfl (lv_at hl 0 rfl) ?_
    refine r_getR (v := .ref (ad 1)) C hw kLW42 fX5_9 rfl hx.2.1 dX5_readAll_24 ?_
    refine r_getI C hw (kx1 _) fX5_38 rfl dX5_readAll_27 ?_
    refine lv_if_ne (tgt := 106) C.1.1 C.1.2.1 dX5_readAll_30 (by decide) (fun hc => ?_) (fun hc => ?_)
    · replace h := ite_neg' h hc
      exact w_X5_readAll_106 C hx hw (lv_sub hl [0] rfl) h
    · replace h := ite_pos' h hc
      refine lv_aload_n C.1.1 C.1.2.1 dX5_readAll_33 rfl (lv_at hl 0 rfl) ?_
      refine r_getR (v := .ref (ad 1)) C hw kLW42 fX5_9 rfl hx.2.1 dX5_readAll_34 ?_
      refine r_getI C hw (kx1 _) fX5_42 rfl dX5_readAll_37 ?_
      refine lv_if_eq (tgt := 106) C.1.1 C.1.2.1 dX5_readAll_40 (by decide) (fun hc => ?_) (fun hc => ?_)
      · replace h := ite_pos' h hc
        exact w_X5_readAll_106 C hx hw (lv_sub hl [0] rfl) h
      · replace h := ite_neg' h hc
        refine lv_aload_n C.1.1 C.1.2.1 dX5_readAll_43 rfl (lv_at hl 0 rfl) ?_
        refine r_getR (v := .ref (ad 1)) C hw kLW42 fX5_9 rfl hx.2.1 dX5_readAll_44 ?_
        refine r_getI C hw (kx1 _) fX5_42 rfl dX5_readAll_47 ?_
        refine lv_bipush (v := 7) C.1.1 C.1.2.1 dX5_readAll_50 (by decide) ?_
        refine lv_icmp_ne (tgt := 68) C.1.1 C.1.2.1 dX5_readAll_52 (by decide) (fun hc => ?_) (fun hc => ?_)
        · replace h := ite_neg' h hc
          exact w_X5_readAll_68 kb17 hk17 C hx hw hl h
        · replace h := ite_pos' h hc
          refine lv_iload_n C.1.1 C.1.2.1 dX5_readAll_55 rfl (lv_at hl 1 rfl) ?_
          refine lv_bipush (v := 10) C.1.1 C.1.2.1 dX5_readAll_56 (by decide) ?_
          refine lv_icmp_ge (tgt := 68) C.1.1 C.1.2.1 dX5_readAll_58 (by decide) (fun hc => ?_) (fun hc => ?_)
          · replace h := ite_pos' h hc
            exact w_X5_readAll_68 kb17 hk17 C hx hw hl h
          · replace h := ite_neg' h hc
            refine lv_aload_n C.1.1 C.1.2.1 dX5_readAll_61 rfl (lv_at hl 0 rfl) ?_
            obtain ⟨g_4, hc, h⟩ := bnd_some h
            refine r_vV (dc := 400) (As := []) (rest := []) C hw vX5_45 kLW42 (by decide) rfl (fun sz => c_X5_readWish hx hc sz) (by decide) rfl rfl hl.1 (Nat.le_of_ble_eq_true rfl) dX5_readAll_62 ⟨Nat.le_refl _, Nat.le_refl _⟩ (fun H locs hw => ?_)
            refine lv_goto (tgt := 100) C.1.1 C.1.2.1 dX5_readAll_65 (by decide) ?_
            exact w_X5_readAll_100 kb17 hk17 C hx hw hl h
set_option maxHeartbeats 4000000 in
set_option maxRecDepth 100000 in
theorem w_X5_readAll_17L {r : Int32} {gz : GM} (C : CX p s m args meth c RX5 yX5_readAll cX5_readAll 2 (some .boolean) D cA) (hx : HW hr ad) : ∀ (n : Nat) (x1 : Int32) (g : GM) (H : Heap) (locs : List Loc) (ls : Array Slot), WS D cA ev hr ad A (KX ++ [(5, 7), (8, 4)]) s H locs g → lv_has ls 2 [(0, .ref (ad 42)), (1, .int x1)] → fixN (F_X5_readAll_17B) n (x1, g) = some (r, gz) → W p l e (RM 401 0 0) s m args below meth c H locs 0 0 (MQ below (QI D cA ev hr ad A (KX ++ [(5, 7), (8, 4)]) r gz) args s 0 0 A) (F0 m 17 ls []) := by
  intro n
  induction n with
  | zero => intro x1 g H locs ls hw hl h; exact (fix_zero h).elim
  | succ n ih => intro x1 g H locs ls hw hl h; exact w_X5_readAll_17 (fixN (F_X5_readAll_17B) n) ih C hx hw hl h
set_option maxHeartbeats 4000000 in
set_option maxRecDepth 100000 in
theorem w_X5_readAll_0 (C : CX p s m args meth c RX5 yX5_readAll cX5_readAll 2 (some .boolean) D cA) (hx : HW hr ad) {H : Heap} {locs : List Loc} {g : GM} (hw : WS D cA ev hr ad A (KX ++ [(5, 7), (8, 4)]) s H locs g) {ls : Array Slot} (hl : lv_has ls 2 [(0, .ref (ad 42))]) {r : Int32} {gz : GM} (h : F_X5_readAll g = some (r, gz)) : W p l e (RM 401 0 0) s m args below meth c H locs 0 0 (MQ below (QI D cA ev hr ad A (KX ++ [(5, 7), (8, 4)]) r gz) args s 0 0 A) (F0 m 0 ls []) := by
  refine lv_aload_n C.1.1 C.1.2.1 dX5_readAll_0 rfl (lv_at hl 0 rfl) ?_
  refine r_getR (v := .ref (ad 35)) C hw kLW42 fX5_19 rfl hx.2.2.2.1 dX5_readAll_1 ?_
  obtain ⟨g_5, hc, h⟩ := bnd_some h
  refine r_vV (dc := 1) (As := []) (rest := []) C hw vX5_27 (kx35 _) (by decide) rfl (fun sz => c_X1_clear_e hx.1 hc sz) (by decide) rfl rfl hl.1 (Nat.le_of_ble_eq_true rfl) dX5_readAll_4 ⟨Nat.le_refl _, Nat.le_refl _⟩ (fun H locs hw => ?_)
  refine lv_aload_n C.1.1 C.1.2.1 dX5_readAll_7 rfl (lv_at hl 0 rfl) ?_
  refine r_getR (v := .ref (ad 1)) C hw kLW42 fX5_9 rfl hx.2.1 dX5_readAll_8 ?_
  refine lv_iconst (v := 1) C.1.1 C.1.2.1 dX5_readAll_11 (by decide) ?_
  obtain ⟨g_6, hc, h⟩ := bnd_some h
  refine r_vV (dc := 9) (As := [.int 1]) (rest := []) C hw vX5_32 (kx1 _) (by decide) rfl (fun sz => c_X4_open hx.1 hc sz) (by decide) rfl rfl hl.1 (Nat.le_of_ble_eq_true rfl) dX5_readAll_12 ⟨Nat.le_refl _, Nat.le_refl _⟩ (fun H locs hw => ?_)
  refine lv_iconst (v := 0) C.1.1 C.1.2.1 dX5_readAll_15 (by decide) ?_
  refine lv_istore_n (lv' := [(1, .int 0), (0, .ref (ad 42))]) C.1.1 C.1.2.1 dX5_readAll_16 rfl hl (by decide) rfl (fun ls hl => ?_)
  exact w_X5_readAll_17L C hx FU _ _ _ _ _ hw (lv_sub hl [1, 0] rfl) h
set_option maxHeartbeats 4000000 in
set_option maxRecDepth 100000 in
theorem c_X5_readAll (hx : HW hr ad) {g : GM} {r : Int32} {gz : GM} (h : F_X5_readAll g = some (r, gz)) (sz : Nat) : Met l yX5_readAll (WSX yX5_readAll cX5_readAll 2 (some .boolean)) (RM 401 0 0) (va_Pc [.ref (ad 42)] (PX D cA ev hr ad (KX ++ [(5, 7), (8, 4)]) g sz)) (QI D cA ev hr ad (AX ad (KX ++ [(5, 7), (8, 4)]).length sz) (KX ++ [(5, 7), (8, 4)]) r gz) 0 0 (AX ad (KX ++ [(5, 7), (8, 4)]).length sz) :=
  met_of (own := RX5) pnX5 rfl (Nat.le_of_ble_eq_true rfl) (fun p e s m below meth c ls C hw hsz hl => w_X5_readAll_0 C hx hw hl h)
end WXR

section STRROWS
variable {p : Program} {l : Launch} {e : Env} {R : Room} {s : State} {m : MethodId} {args : Array Value} {below : List Frame} {meth : Method} {c : Code} {H : Heap} {locs : List Loc} {cells slots mc ms mcc msc : Nat} {Q : State → Prop}
variable {own : String} {y : MethodName} {cc : ByteArray} {nL : Nat} {ret : Option FieldType} {D : va_G} {cA : Nat → ClassId} {ev : EVa} {hr hr' : Nat → Nat → Value} {ad ad' : Nat → Nat} {A : Nat → Prop} {kl kl' : List (Nat × Nat)} {g g' : GM} {pc : Nat} {ls : Array Slot} {rest st0 As : List Value}
variable {d dc maxL n idx i c0 j : Nat} {y2 : MethodName} {bytes : ByteArray} {ret2 : Option FieldType} {r : Int32}
theorem kwv : Cond.fieldLink RJ0 9 "java/lang/String" "value" "[B" ∈ lw_ok := ok_t6 (i := 35) ⟨rfl, rfl⟩
theorem kwc : Cond.fieldLink RJ0 15 "java/lang/String" "coder" "B" ∈ lw_ok := ok_t6 (i := 36) ⟨rfl, rfl⟩
theorem kws : Cond.fieldLink RJ0 38 "java/lang/String" "COMPACT_STRINGS" "Z" ∈ lw_ok := ok_t1 (i := 41) ⟨rfl, rfl⟩
theorem kwf : Cond.fieldLink RJ0 1053 "jdk/internal/util/Preconditions" "SIOOBE_FORMATTER" "Ljava/util/function/BiFunction;" ∈ lw_ok := ok_t1 (i := 57) ⟨rfl, rfl⟩
theorem r_sCo (C : CX p s m args meth c RJ0 y cc nL ret D cA) (hw : WS D cA ev hr ad A kl s H locs g) (hj : j < 3) (hd : decode cc pc = .ok (.getfield 15, 3))
    (kk : W p l e R s m args below meth c H locs cells slots Q (F0 m (pc + 3) ls (.int 0 :: rest))) : W p l e R s m args below meth c H locs cells slots Q (F0 m pc ls (.ref (ev.1 j) :: rest)) :=
  va_getX (N := 3) (o := "java/lang/String") (n := "coder") (d := "B") (ref := "java/lang/String") (v := fun _ => .int 0) (ad := ev.1) C.1.1 C.1.2.1 (fun i hi => (hw.2.2.2.2.1.1 i hi).2.1) hj hw.2.2.1 C.1.2.2.2.1 (C.w kwc) (fun _ h => h) hd kk
theorem r_sVa (C : CX p s m args meth c RJ0 y cc nL ret D cA) (hw : WS D cA ev hr ad A kl s H locs g) (hj : j < 3) (hd : decode cc pc = .ok (.getfield 9, 3))
    (kk : W p l e R s m args below meth c H locs cells slots Q (F0 m (pc + 3) ls (.ref (ev.2.1 j) :: rest))) : W p l e R s m args below meth c H locs cells slots Q (F0 m pc ls (.ref (ev.1 j) :: rest)) :=
  va_getX (N := 3) (o := "java/lang/String") (n := "value") (d := "[B") (ref := "java/lang/String") (v := fun i => .ref (ev.2.1 i)) (ad := ev.1) C.1.1 C.1.2.1 (fun i hi => (hw.2.2.2.2.1.1 i hi).2.2.1) hj hw.2.2.1 C.1.2.2.2.1 (C.w kwv) (fun _ h => h) hd kk
theorem r_sCS (C : CX p s m args meth c RJ0 y cc nL ret D cA) (hw : WS D cA ev hr ad A kl s H locs g) (hd : decode cc pc = .ok (.getstatic 38, 3))
    (kk : W p l e R s m args below meth c H locs cells slots Q (F0 m (pc + 3) ls (.int 1 :: rest))) : W p l e R s m args below meth c H locs cells slots Q (F0 m pc ls rest) :=
  va_gets C.1.1 C.1.2.1 hw.2.2.2.2.2.1.1 hw.2.2.1 C.1.2.2.2.1 (C.w kws) (fun _ h => h) hd kk
theorem r_sFm (C : CX p s m args meth c RJ0 y cc nL ret D cA) (hw : WS D cA ev hr ad A kl s H locs g) (hd : decode cc pc = .ok (.getstatic 1053, 3))
    (kk : W p l e R s m args below meth c H locs cells slots Q (F0 m (pc + 3) ls (va_rf ev.2.2 :: rest))) : W p l e R s m args below meth c H locs cells slots Q (F0 m pc ls rest) :=
  va_gets C.1.1 C.1.2.1 hw.2.2.2.2.2.1.2 hw.2.2.1 C.1.2.2.2.1 (C.w kwf) (fun _ h => h) hd kk
theorem r_sLen (C : CX p s m args meth c own y cc nL ret D cA) (hw : WS D cA ev hr ad A kl s H locs g) (hj : j < 3) (hd : decode cc pc = .ok (.arraylength, 1))
    (kk : W p l e R s m args below meth c H locs cells slots Q (F0 m (pc + 1) ls (.int (nI (SLEN.getD j 0)) :: rest))) : W p l e R s m args below meth c H locs cells slots Q (F0 m pc ls (.ref (ev.2.1 j) :: rest)) :=
  va_tlen C.1.1 C.1.2.1 (hw.2.2.2.2.1.1 j hj).2.2.2 hw.2.2.1 rfl hd kk
theorem r_sBy {x : Int32} (C : CX p s m args meth c own y cc nL ret D cA) (hw : WS D cA ev hr ad A kl s H locs g) (hj : j < 3) (hin : vp_in x (SLEN.getD j 0)) (hd : decode cc pc = .ok (.baload, 1))
    (kk : W p l e R s m args below meth c H locs cells slots Q (F0 m (pc + 1) ls (.int ((SBYT.getD j []).getD x.toNatClampNeg 0) :: rest))) : W p l e R s m args below meth c H locs cells slots Q (F0 m pc ls (.int x :: .ref (ev.2.1 j) :: rest)) :=
  va_tb C.1.1 C.1.2.1 (hw.2.2.2.2.1.1 j hj).2.2.2 hw.2.2.1 hin rfl hd kk
theorem r_strI (C : CX p s m args meth c own y cc nL ret D cA) (hw : WS D cA ev hr ad A kl s H locs g) (hcv : CV own idx y2 bytes maxL n ret2) (hj : j < 3) (hcls : y2.cls = "java/lang/String")
    (hM : ∀ sz, Met l y2 (WSX y2 bytes maxL ret2) (RM dc mcc msc) (va_Pc (.ref (ev.1 j) :: As) (PX D cA ev hr ad kl g sz)) (QI D cA ev hr' ad' (AX ad kl.length sz) kl' r g') mcc msc (AX ad kl.length sz))
    (hdd : dc + 1 ≤ d) (hn : As.length = n) (hst : st0 = As.reverse ++ .ref (ev.1 j) :: rest) (hls : ls.size = nL) (hro : (rest.map fun v => v.category).sum ≤ 8) (hd : decode cc pc = .ok (.invokevirtual idx, 3)) (hf : cells + mcc ≤ mc ∧ slots + msc ≤ ms)
    (kk : ∀ (H1 : Heap) (locs1 : List Loc), WS D cA ev hr' ad' A kl' s H1 locs1 g' → W p l e (RM d mc ms) s m args below meth c H1 locs1 (cells + mcc) (slots + msc) Q (F0 m (pc + 3) ls (.int r :: rest))) : W p l e (RM d mc ms) s m args below meth c H locs cells slots Q (F0 m pc ls st0) := by
  have hK := C.2.2.2.2
  obtain ⟨hAA, hpre⟩ := hw.pre hK
  have hrv : ∃ cell : Cell, H[ev.1 j]? = some cell ∧ cell.vm.isStatics = false ∧ s.vm.findClass y2.cls = some cell.cls := by
    obtain ⟨cell, h1, h2, h3, h4⟩ := ((hw.2.2.2.2.1.1 j hj).1).kept hw.2.2.1.2.1
    rw [hcls]
    exact ⟨cell, h1, h2, h3⟩
  refine va_calli (va_runV (As := As) (rest := rest) C.1 (hM H.size) (cv_w C hcv rfl rfl (room_ok hdd hcv.2.2)) ⟨PX.blind, hrv, fun U hU hW => ⟨rfl, hpre U hU hW⟩⟩ rfl hn hls hst (lv_room hro) hd hf) hw.2.2.1 (fun q _ h => hAA q h) hAA (fun r1 u t H1 locs1 ht hvm hp hB hz1 hk1 hS1 => ?_)
  subst hp
  exact kk H1 locs1 (hw.post hB ht hS1 hAA)
theorem r_retG {ty : FieldType} (C : CX p s m args meth c own y cc nL ret D cA) (hw : WS D cA ev hr ad A kl s H locs g) (hret : ret = some ty) (hn : narrow ty (.int r) = .int r) (hd : decode cc pc = .ok (.ireturn, 1)) :
    W p l e R s m args below meth c H locs cells slots (MQ below (QI D cA ev hr ad A kl r g) args s cells slots A) (F0 m pc ls [.int r]) := by
  obtain ⟨⟨hx, hb, hml, hown, hts⟩, hrt, hlocks, -, hK⟩ := C
  obtain ⟨hP, hD, hS, hA, hE⟩ := hw
  subst hret
  exact W.zret hx hb hrt hn (fun t ht hW => ⟨⟨r, (), rfl, rfl, by rw [ht]; exact hP, va_K.moved hW.alike hK, hD⟩, hS.F ht⟩) hS.2.2 hd
def chB (x : Int32) : Bool := decide ((x.toUInt32 % 65536).toInt32 = x)
theorem chB_n {x : Int32} (h : chB x = true) : narrow .char (.int x) = .int x := by
  have e : (x.toUInt32 % 65536).toInt32 = x := by simpa [chB] using h
  rw [← e]
  exact pk_nc x
theorem none_ne {α : Type} {r : α} (h : (none : Option α) = some r) : False := by cases h
end STRROWS

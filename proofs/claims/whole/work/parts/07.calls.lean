section CALLS
variable {p : Program} {l : Launch} {e : Env} {s : State} {m : MethodId} {args : Array Value} {below : List Frame} {meth : Method} {c : Code} {H : Heap} {locs : List Loc} {cells slots mc ms mcc msc : Nat} {Q : State → Prop}
variable {own : String} {y : MethodName} {cc : ByteArray} {nL : Nat} {ret : Option FieldType} {D : va_G} {cA : Nat → ClassId} {ev : EVa} {hr hr' : Nat → Nat → Value} {ad ad' : Nat → Nat} {A : Nat → Prop} {kl kl' : List (Nat × Nat)} {g g' : GM} {pc : Nat} {ls : Array Slot} {rest st0 As : List Value}
variable {d dc maxL n idx i c0 : Nat} {y2 : MethodName} {bytes : ByteArray} {ret2 : Option FieldType} {r : Int32} {host : String}
theorem cv_w {R : Room} {rm : Room} (C : CX p s m args meth c own y cc nL ret D cA) (hcv : CV own idx y2 bytes maxL n ret2) (hrc : rm.cells = mcc) (hrs : rm.slots = msc) (hR : rm.frames + 1 ≤ R.frames ∧ 8 + (maxL + 11) + rm.locals ≤ R.locals) : CallW R s args own y2.cls idx y2 bytes maxL ret2 (WSX y2 bytes maxL ret2) rm mcc msc n := by
  obtain ⟨⟨h1, h2, h3, h4, h5⟩, hd, hm⟩ := hcv
  exact ⟨callB_of n C.1.2.2.2.2 (ws_good h5) rfl hrc hrs (C.w h4) (C.w h1) hd hR, C.w h2, C.w h3⟩
theorem cs_w {R : Room} {rm : Room} (C : CX p s m args meth c own y cc nL ret D cA) (hcv : CS own idx y2 bytes maxL n ret2) (hrc : rm.cells = mcc) (hrs : rm.slots = msc) (hR : rm.frames + 1 ≤ R.frames ∧ 8 + (maxL + 11) + rm.locals ≤ R.locals) : CallB R s args own idx y2 bytes maxL ret2 (WSX y2 bytes maxL ret2) rm mcc msc n ∧ (Cond.static y2).before args s = true := by
  obtain ⟨⟨h1, h2, h4, h5⟩, hd, hm⟩ := hcv
  exact ⟨callB_of n C.1.2.2.2.2 (ws_good h5) rfl hrc hrs (C.w h4) (C.w h1) hd hR, C.w h2⟩
theorem ci_w {R : Room} {rm : Room} (C : CX p s m args meth c own y cc nL ret D cA) (hcv : CI own idx y2 bytes maxL n) (hrc : rm.cells = mcc) (hrs : rm.slots = msc) (hR : rm.frames + 1 ≤ R.frames ∧ 8 + (maxL + 11) + rm.locals ≤ R.locals) : CallB R s args own idx y2 bytes maxL none (WSX y2 bytes maxL none) rm mcc msc n ∧ y2.name = "<init>" ∧ (Cond.instanceMethod y2).before args s = true := by
  obtain ⟨⟨h1, h2, h4, h5⟩, hd, hm, hnm⟩ := hcv
  exact ⟨callB_of n C.1.2.2.2.2 (ws_good h5) rfl hrc hrs (C.w h4) (C.w h1) hd hR, hnm, C.w h2⟩
theorem cn_w {R : Room} {rm : Room} (C : CX p s m args meth c own y cc nL ret D cA) (hE : ∀ w ∈ NSTW, va_Nw w s) (hcv : CN own idx y2 host bytes maxL n ret2) (hrc : rm.cells = mcc) (hrs : rm.slots = msc) (hR : rm.frames + 1 ≤ R.frames ∧ 8 + (maxL + 11) + rm.locals ≤ R.locals) : va_CN R s args own idx y2 host bytes maxL ret2 (WSX y2 bytes maxL ret2) rm mcc msc n ∧ (Cond.static y2).before args s = true ∧ True := by
  obtain ⟨⟨h1, h2, h4, h5⟩, hd, hm⟩ := hcv
  exact ⟨va_cnB n C.1.2.2.2.2 (ws_good h5) rfl hrc hrs (hE _ h1) (C.w h4) hd hR, C.w h2, trivial⟩
theorem WS.recv (hw : WS D cA ev hr ad A kl s H locs g) (hK : va_K D vwCl (tysA cA) s) (hk : kl[i]? = some (c0, NN c0)) (h8 : c0 < 8) : ∃ cell : Cell, H[ad i]? = some cell ∧ cell.vm.isStatics = false ∧ s.vm.findClass (RR c0) = some cell.cls := by
  have he := wl_at (cA := cA) (ev := ev) (hr := hr) (ad := ad) (g := g) hk
  rw [ent_obj h8] at he
  exact va_recv hK hw.1 (cl_at c0 h8) he
theorem r_vI (C : CX p s m args meth c own y cc nL ret D cA) (hw : WS D cA ev hr ad A kl s H locs g) (hcv : CV own idx y2 bytes maxL n ret2) (hk : kl[i]? = some (c0, NN c0)) (h8 : c0 < 8) (hcls : RR c0 = y2.cls)
    (hM : ∀ sz, Met l y2 (WSX y2 bytes maxL ret2) (RM dc mcc msc) (va_Pc (.ref (ad i) :: As) (PX D cA ev hr ad kl g sz)) (QI D cA ev hr' ad' (AX ad kl.length sz) kl' r g') mcc msc (AX ad kl.length sz))
    (hdd : dc + 1 ≤ d) (hn : As.length = n) (hst : st0 = As.reverse ++ .ref (ad i) :: rest) (hls : ls.size = nL) (hro : (rest.map fun v => v.category).sum ≤ 8) (hd : decode cc pc = .ok (.invokevirtual idx, 3)) (hf : cells + mcc ≤ mc ∧ slots + msc ≤ ms)
    (kk : ∀ (H1 : Heap) (locs1 : List Loc), WS D cA ev hr' ad' A kl' s H1 locs1 g' → W p l e (RM d mc ms) s m args below meth c H1 locs1 (cells + mcc) (slots + msc) Q (F0 m (pc + 3) ls (.int r :: rest))) : W p l e (RM d mc ms) s m args below meth c H locs cells slots Q (F0 m pc ls st0) := by
  have hK := C.2.2.2.2
  obtain ⟨hAA, hpre⟩ := hw.pre hK
  have hrv := hw.recv hK hk h8
  rw [hcls] at hrv
  refine va_calli (va_runV (As := As) (rest := rest) C.1 (hM H.size) (cv_w C hcv rfl rfl (room_ok hdd hcv.2.2)) ⟨PX.blind, hrv, fun U hU hW => ⟨rfl, hpre U hU hW⟩⟩ rfl hn hls hst (lv_room hro) hd hf) hw.2.2.1 (fun q _ h => hAA q h) hAA (fun r1 u t H1 locs1 ht hvm hp hB hz1 hk1 hS1 => ?_)
  subst hp
  exact kk H1 locs1 (hw.post hB ht hS1 hAA)
theorem r_vV (C : CX p s m args meth c own y cc nL ret D cA) (hw : WS D cA ev hr ad A kl s H locs g) (hcv : CV own idx y2 bytes maxL n ret2) (hk : kl[i]? = some (c0, NN c0)) (h8 : c0 < 8) (hcls : RR c0 = y2.cls)
    (hM : ∀ sz, Met l y2 (WSX y2 bytes maxL ret2) (RM dc mcc msc) (va_Pc (.ref (ad i) :: As) (PX D cA ev hr ad kl g sz)) (QV D cA ev hr' ad' (AX ad kl.length sz) kl' g') mcc msc (AX ad kl.length sz))
    (hdd : dc + 1 ≤ d) (hn : As.length = n) (hst : st0 = As.reverse ++ .ref (ad i) :: rest) (hls : ls.size = nL) (hro : (rest.map fun v => v.category).sum ≤ 8) (hd : decode cc pc = .ok (.invokevirtual idx, 3)) (hf : cells + mcc ≤ mc ∧ slots + msc ≤ ms)
    (kk : ∀ (H1 : Heap) (locs1 : List Loc), WS D cA ev hr' ad' A kl' s H1 locs1 g' → W p l e (RM d mc ms) s m args below meth c H1 locs1 (cells + mcc) (slots + msc) Q (F0 m (pc + 3) ls rest)) : W p l e (RM d mc ms) s m args below meth c H locs cells slots Q (F0 m pc ls st0) := by
  have hK := C.2.2.2.2
  obtain ⟨hAA, hpre⟩ := hw.pre hK
  have hrv := hw.recv hK hk h8
  rw [hcls] at hrv
  exact va_callv (va_runV (As := As) (rest := rest) C.1 (hM H.size) (cv_w C hcv rfl rfl (room_ok hdd hcv.2.2)) ⟨PX.blind, hrv, fun U hU hW => ⟨rfl, hpre U hU hW⟩⟩ rfl hn hls hst (lv_room hro) hd hf) hw.2.2.1 (fun q _ h => hAA q h) hAA (fun u t H1 locs1 ht hvm hp hB hz1 hk1 hS1 => kk H1 locs1 (hw.post hB ht hS1 hAA))
theorem r_iV (C : CX p s m args meth c own y cc nL ret D cA) (hw : WS D cA ev hr ad A kl s H locs g) (hcv : CI own idx y2 bytes maxL n)
    (hM : ∀ sz, Met l y2 (WSX y2 bytes maxL none) (RM dc mcc msc) (va_Pc (.ref (ad i) :: As) (PX D cA ev hr ad kl g sz)) (QV D cA ev hr' ad' (AX ad kl.length sz) kl' g') mcc msc (AX ad kl.length sz))
    (hdd : dc + 1 ≤ d) (hn : As.length = n) (hst : st0 = As.reverse ++ .ref (ad i) :: rest) (hls : ls.size = nL) (hro : (rest.map fun v => v.category).sum ≤ 8) (hd : decode cc pc = .ok (.invokespecial idx, 3)) (hf : cells + mcc ≤ mc ∧ slots + msc ≤ ms)
    (kk : ∀ (H1 : Heap) (locs1 : List Loc), WS D cA ev hr' ad' A kl' s H1 locs1 g' → W p l e (RM d mc ms) s m args below meth c H1 locs1 (cells + mcc) (slots + msc) Q (F0 m (pc + 3) ls rest)) : W p l e (RM d mc ms) s m args below meth c H locs cells slots Q (F0 m pc ls st0) := by
  obtain ⟨hAA, hpre⟩ := hw.pre C.2.2.2.2
  exact va_callv (va_runI (As := As) (rest := rest) C.1 (hM H.size) (ci_w C hcv rfl rfl (room_ok hdd hcv.2.2.1)) ⟨PX.blind, fun U hU hW => ⟨rfl, hpre U hU hW⟩⟩ rfl hn hls hst (lv_room hro) hd hf) hw.2.2.1 (fun q _ h => hAA q h) hAA (fun u t H1 locs1 ht hvm hp hB hz1 hk1 hS1 => kk H1 locs1 (hw.post hB ht hS1 hAA))
theorem r_sI (C : CX p s m args meth c own y cc nL ret D cA) (hw : WS D cA ev hr ad A kl s H locs g) (hcv : CS own idx y2 bytes maxL n ret2)
    (hM : ∀ sz, Met l y2 (WSX y2 bytes maxL ret2) (RM dc mcc msc) (va_Pc As (PX D cA ev hr ad kl g sz)) (QI D cA ev hr' ad' (AX ad kl.length sz) kl' r g') mcc msc (AX ad kl.length sz))
    (hdd : dc + 1 ≤ d) (hn : As.length = n) (hst : st0 = As.reverse ++ rest) (hls : ls.size = nL) (hro : (rest.map fun v => v.category).sum ≤ 8) (hd : decode cc pc = .ok (.invokestatic idx, 3)) (hf : cells + mcc ≤ mc ∧ slots + msc ≤ ms)
    (kk : ∀ (H1 : Heap) (locs1 : List Loc), WS D cA ev hr' ad' A kl' s H1 locs1 g' → W p l e (RM d mc ms) s m args below meth c H1 locs1 (cells + mcc) (slots + msc) Q (F0 m (pc + 3) ls (.int r :: rest))) : W p l e (RM d mc ms) s m args below meth c H locs cells slots Q (F0 m pc ls st0) := by
  obtain ⟨hAA, hpre⟩ := hw.pre C.2.2.2.2
  refine va_calli (va_runS (As := As) (rest := rest) C.1 (hM H.size) (cs_w C hcv rfl rfl (room_ok hdd hcv.2.2)) ⟨PX.blind, fun U hU hW => ⟨rfl, hpre U hU hW⟩⟩ rfl hn hls hst (lv_room hro) hd hf) hw.2.2.1 (fun q _ h => hAA q h) hAA (fun r1 u t H1 locs1 ht hvm hp hB hz1 hk1 hS1 => ?_)
  subst hp
  exact kk H1 locs1 (hw.post hB ht hS1 hAA)
theorem r_sV (C : CX p s m args meth c own y cc nL ret D cA) (hw : WS D cA ev hr ad A kl s H locs g) (hcv : CS own idx y2 bytes maxL n ret2)
    (hM : ∀ sz, Met l y2 (WSX y2 bytes maxL ret2) (RM dc mcc msc) (va_Pc As (PX D cA ev hr ad kl g sz)) (QV D cA ev hr' ad' (AX ad kl.length sz) kl' g') mcc msc (AX ad kl.length sz))
    (hdd : dc + 1 ≤ d) (hn : As.length = n) (hst : st0 = As.reverse ++ rest) (hls : ls.size = nL) (hro : (rest.map fun v => v.category).sum ≤ 8) (hd : decode cc pc = .ok (.invokestatic idx, 3)) (hf : cells + mcc ≤ mc ∧ slots + msc ≤ ms)
    (kk : ∀ (H1 : Heap) (locs1 : List Loc), WS D cA ev hr' ad' A kl' s H1 locs1 g' → W p l e (RM d mc ms) s m args below meth c H1 locs1 (cells + mcc) (slots + msc) Q (F0 m (pc + 3) ls rest)) : W p l e (RM d mc ms) s m args below meth c H locs cells slots Q (F0 m pc ls st0) := by
  obtain ⟨hAA, hpre⟩ := hw.pre C.2.2.2.2
  exact va_callv (va_runS (As := As) (rest := rest) C.1 (hM H.size) (cs_w C hcv rfl rfl (room_ok hdd hcv.2.2)) ⟨PX.blind, fun U hU hW => ⟨rfl, hpre U hU hW⟩⟩ rfl hn hls hst (lv_room hro) hd hf) hw.2.2.1 (fun q _ h => hAA q h) hAA (fun u t H1 locs1 ht hvm hp hB hz1 hk1 hS1 => kk H1 locs1 (hw.post hB ht hS1 hAA))
theorem r_nI (C : CX p s m args meth c own y cc nL ret D cA) (hw : WS D cA ev hr ad A kl s H locs g) (hcv : CN own idx y2 host bytes maxL n ret2)
    (hM : ∀ sz, Met l y2 (WSX y2 bytes maxL ret2) (RM dc mcc msc) (va_Pc As (PX D cA ev hr ad kl g sz)) (QI D cA ev hr' ad' (AX ad kl.length sz) kl' r g') mcc msc (AX ad kl.length sz))
    (hdd : dc + 1 ≤ d) (hn : As.length = n) (hst : st0 = As.reverse ++ rest) (hls : ls.size = nL) (hro : (rest.map fun v => v.category).sum ≤ 8) (hd : decode cc pc = .ok (.invokestatic idx, 3)) (hf : cells + mcc ≤ mc ∧ slots + msc ≤ ms)
    (kk : ∀ (H1 : Heap) (locs1 : List Loc), WS D cA ev hr' ad' A kl' s H1 locs1 g' → W p l e (RM d mc ms) s m args below meth c H1 locs1 (cells + mcc) (slots + msc) Q (F0 m (pc + 3) ls (.int r :: rest))) : W p l e (RM d mc ms) s m args below meth c H locs cells slots Q (F0 m pc ls st0) := by
  obtain ⟨hAA, hpre⟩ := hw.pre C.2.2.2.2
  refine va_calli (va_runSN (As := As) (rest := rest) C.1 (hM H.size) (cn_w C hw.2.2.2.2.2.2.2 hcv rfl rfl (room_ok hdd hcv.2.2)) ⟨PX.blind, fun U hU hW => ⟨rfl, hpre U hU hW⟩⟩ rfl hn hls hst (lv_room hro) hd hf) hw.2.2.1 (fun q _ h => hAA q h) hAA (fun r1 u t H1 locs1 ht hvm hp hB hz1 hk1 hS1 => ?_)
  subst hp
  exact kk H1 locs1 (hw.post hB ht hS1 hAA)
end CALLS
/-! what F is made of -/
def chk {α : Type} (c : Prop) (d : Decidable c) (k : Option α) : Option α := @ite _ c d k none
theorem chk_some {α : Type} {c : Prop} {d : Decidable c} {k : Option α} {r : α} (h : chk c d k = some r) : c ∧ k = some r := by
  unfold chk at h
  by_cases hc : c
  · rw [if_pos hc] at h; exact ⟨hc, h⟩
  · rw [if_neg hc] at h; cases h
theorem bnd_some {α β : Type} {a : Option α} {f : α → Option β} {r : β} (h : a.bind f = some r) : ∃ x, a = some x ∧ f x = some r := by
  cases a with
  | none => cases h
  | some x => exact ⟨x, rfl, h⟩
theorem ite_pos' {α : Type} {c : Prop} {d : Decidable c} {a b r : α} (h : @ite α c d a b = r) (hc : c) : a = r := by rw [if_pos hc] at h; exact h
theorem ite_neg' {α : Type} {c : Prop} {d : Decidable c} {a b r : α} (h : @ite α c d a b = r) (hc : ¬ c) : b = r := by rw [if_neg hc] at h; exact h
def inB (i : Int32) (n : Nat) : Bool := !(decide (i < 0) || decide (n ≤ i.toNatClampNeg))
theorem inB_in {i : Int32} {n : Nat} (h : inB i n = true) : vp_in i n := by
  simp only [inB, Bool.not_eq_true', Bool.or_eq_false_iff, decide_eq_false_iff_not] at h
  exact fun q => q.elim h.1 h.2
theorem inB_of {i : Int32} {n : Nat} (h : vp_in i n) : inB i n = true := by
  simp only [inB, Bool.not_eq_true', Bool.or_eq_false_iff, decide_eq_false_iff_not]
  exact ⟨fun q => h (Or.inl q), fun q => h (Or.inr q)⟩
theorem inB_nI {k n : Nat} (h : k < n) (hn : n < 2 ^ 31) : inB (nI k) n = true := inB_of (vp_in_nI h hn)

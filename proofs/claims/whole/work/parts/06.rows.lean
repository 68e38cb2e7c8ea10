section ROWS
variable {p : Program} {l : Launch} {e : Env} {R : Room} {s : State} {m : MethodId} {args : Array Value} {below : List Frame} {meth : Method} {c : Code} {H : Heap} {locs : List Loc} {cells slots : Nat} {Q : State → Prop}
variable {own : String} {y : MethodName} {cc : ByteArray} {nL : Nat} {ret : Option FieldType} {D : va_G} {cA : Nat → ClassId} {ev : EVa} {hr : Nat → Nat → Value} {ad : Nat → Nat} {A : Nat → Prop} {kl : List (Nat × Nat)} {g : GM} {pc : Nat} {ls : Array Slot} {rest : List Value}
theorem CX.w (C : CX p s m args meth c own y cc nL ret D cA) {w : Cond} (h : w ∈ lw_ok) : w.before args s = true := C.1.2.2.2.2 w (List.mem_cons_of_mem _ h)
theorem r_get {v : Value} (C : CX p s m args meth c own y cc nL ret D cA) (hw : WS D cA ev hr ad A kl s H locs g) {i c0 k idx : Nat} (hk : kl[i]? = some (c0, NN c0)) (hf : FL own idx c0 k) (hv : fv ev hr g c0 i k = v) (hd : decode cc pc = .ok (.getfield idx, 3))
    (kk : W p l e R s m args below meth c H locs cells slots Q (F0 m (pc + 3) ls (v :: rest))) : W p l e R s m args below meth c H locs cells slots Q (F0 m pc ls (.ref (ad i) :: rest)) := by
  obtain ⟨⟨h8, hkN⟩, hlk⟩ := hf
  have hl := C.w hlk
  obtain ⟨⟨hx, hb, hml, hown, hts⟩, -, -, -, hK⟩ := C
  have he := wl_at (cA := cA) (ev := ev) (hr := hr) (ad := ad) (g := g) hk
  rw [ent_obj h8] at he
  refine va_get (C := RR c0) (T := TT c0) (N := NN c0) (ci := c0) (ref := (TT c0 k).1) (v := v) hx hb hts (fun w h => List.mem_cons_of_mem _ (cl_in c0 h8 w h)) hown hK hw.1 i he (cl_at c0 h8) k hkN hl (fun _ h => h) ?_ hd kk
  rw [← hv]
  simp [hkN]
theorem r_getI (C : CX p s m args meth c own y cc nL ret D cA) (hw : WS D cA ev hr ad A kl s H locs g) {i c0 k idx : Nat} (hk : kl[i]? = some (c0, NN c0)) (hf : FL own idx c0 k) (ht : fk c0 k = 0) (hd : decode cc pc = .ok (.getfield idx, 3))
    (kk : W p l e R s m args below meth c H locs cells slots Q (F0 m (pc + 3) ls (.int (gi g i k) :: rest))) : W p l e R s m args below meth c H locs cells slots Q (F0 m pc ls (.ref (ad i) :: rest)) :=
  r_get C hw hk hf (by simp [fv, ht]) hd kk
theorem r_getL (C : CX p s m args meth c own y cc nL ret D cA) (hw : WS D cA ev hr ad A kl s H locs g) {i c0 k idx : Nat} (hk : kl[i]? = some (c0, NN c0)) (hf : FL own idx c0 k) (ht : fk c0 k = 1) (hd : decode cc pc = .ok (.getfield idx, 3))
    (kk : W p l e R s m args below meth c H locs cells slots Q (F0 m (pc + 3) ls (.long (gl g i k) :: rest))) : W p l e R s m args below meth c H locs cells slots Q (F0 m pc ls (.ref (ad i) :: rest)) :=
  r_get C hw hk hf (by simp [fv, ht]) hd kk
theorem r_getR {v : Value} (C : CX p s m args meth c own y cc nL ret D cA) (hw : WS D cA ev hr ad A kl s H locs g) {i c0 k idx : Nat} (hk : kl[i]? = some (c0, NN c0)) (hf : FL own idx c0 k) (ht : fk c0 k = 2) (hv : hr i k = v) (hd : decode cc pc = .ok (.getfield idx, 3))
    (kk : W p l e R s m args below meth c H locs cells slots Q (F0 m (pc + 3) ls (v :: rest))) : W p l e R s m args below meth c H locs cells slots Q (F0 m pc ls (.ref (ad i) :: rest)) :=
  r_get C hw hk hf (by simp [fv, ht, hv]) hd kk
theorem r_getS (C : CX p s m args meth c own y cc nL ret D cA) (hw : WS D cA ev hr ad A kl s H locs g) {i c0 k idx : Nat} (hk : kl[i]? = some (c0, NN c0)) (hf : FL own idx c0 k) (ht : fk c0 k = 3) (hd : decode cc pc = .ok (.getfield idx, 3))
    (kk : W p l e R s m args below meth c H locs cells slots Q (F0 m (pc + 3) ls (svK ev (gi g i k) :: rest))) : W p l e R s m args below meth c H locs cells slots Q (F0 m pc ls (.ref (ad i) :: rest)) :=
  r_get C hw hk hf (by simp [fv, ht]) hd kk
/-- putfield, any -/
theorem r_put {v : Value} {g' : GM} {hr' : Nat → Nat → Value} (C : CX p s m args meth c own y cc nL ret D cA) (hw : WS D cA ev hr ad A kl s H locs g) {i c0 k idx : Nat} (hk : kl[i]? = some (c0, NN c0)) (hf : FL own idx c0 k)
    (hn : narrow (YY c0 k) v = v) (hfit : fits (YY c0 k) v = true) (hfin : (TT c0 k).2.2.2 = false ∨ (y.name = "<init>" ∧ (TT c0 k).1 = own))
    (hv : fv ev hr' g' c0 i k = v) (ho : ∀ j, j ≠ k → fv ev hr' g' c0 i j = fv ev hr g c0 i j) (he : ∀ (j : Nat) (q' : Nat × Nat), j ≠ i → ent cA ev hr' g' q' j = ent cA ev hr g q' j) (hd : decode cc pc = .ok (.putfield idx, 3))
    (kk : ∀ (H1 : Heap) (locs1 : List Loc), WS D cA ev hr' ad A kl s H1 locs1 g' → W p l e R s m args below meth c H1 locs1 cells slots Q (F0 m (pc + 3) ls rest)) : W p l e R s m args below meth c H locs cells slots Q (F0 m pc ls (v :: .ref (ad i) :: rest)) := by
  obtain ⟨⟨h8, hkN⟩, hlk⟩ := hf
  have hl := C.w hlk
  obtain ⟨⟨hx, hb, hml, hown, hts⟩, -, -, hnm, hK⟩ := C
  obtain ⟨hP, hD, hS, hA, hE⟩ := hw
  have he1 := wl_at (cA := cA) (ev := ev) (hr := hr) (ad := ad) (g := g) hk
  have hset := wl_set (cA := cA) (ev := ev) (hr := hr) (hr' := hr') (ad := ad) (g := g) (g' := g') hk he
  rw [ent_obj h8] at he1 hset
  rw [← fs_set (f := fv ev hr g c0 i) v hv ho] at hset
  have hlen : k < ((List.range (NN c0)).map (fv ev hr g c0 i)).length := by simpa using hkN
  have kk' : ∀ (H1 : Heap) (locs1 : List Loc), va_P D vwCl ((wl cA ev hr ad g kl).set i (ad i, .inr (c0, ((List.range (NN c0)).map (fv ev hr g c0 i)).set k v))) H1 → va_D A ((wl cA ev hr ad g kl).set i (ad i, .inr (c0, ((List.range (NN c0)).map (fv ev hr g c0 i)).set k v))) → va_S A s.heap H1 locs1 → W p l e R s m args below meth c H1 locs1 cells slots Q (F0 m (pc + 3) ls rest) := by
    intro H1 locs1 q1 q2 q3
    rw [hset] at q1 q2
    exact kk H1 locs1 ⟨q1, q2, q3, hA, hE⟩
  rcases hfin with hfin | ⟨hin, hdecl⟩
  · exact va_put (C := RR c0) (T := TT c0) (N := NN c0) (ci := c0) (ref := (TT c0 k).1) (v := v) hx hb hts (fun w h => List.mem_cons_of_mem _ (cl_in c0 h8 w h)) (YY c0) (cl_ty c0 h8) (cl_nm c0 h8) hown hK hP hD hS i he1 (cl_at c0 h8) k hkN hl (fun _ h => h) hfin (cl_ty c0 h8 k hkN) hn hfit hlen hd kk'
  · by_cases hff : (TT c0 k).2.2.2 = true
    · exact va_putF (C := RR c0) (T := TT c0) (N := NN c0) (ci := c0) (ref := (TT c0 k).1) (v := v) hx hb hts (fun w h => List.mem_cons_of_mem _ (cl_in c0 h8 w h)) (YY c0) (cl_ty c0 h8) (cl_nm c0 h8) hown hK hP hD hS i he1 (cl_at c0 h8) k hkN hl (fun _ h => h) hff (hnm.trans hin) hdecl (cl_ty c0 h8 k hkN) hn hfit hlen hd kk'
    · exact va_put (C := RR c0) (T := TT c0) (N := NN c0) (ci := c0) (ref := (TT c0 k).1) (v := v) hx hb hts (fun w h => List.mem_cons_of_mem _ (cl_in c0 h8 w h)) (YY c0) (cl_ty c0 h8) (cl_nm c0 h8) hown hK hP hD hS i he1 (cl_at c0 h8) k hkN hl (fun _ h => h) (by simpa using hff) (cl_ty c0 h8 k hkN) hn hfit hlen hd kk'
theorem fv_si {c0 i k j : Nat} {v : Int32} (h : j ≠ k) : fv ev hr (si g i k v) c0 i j = fv ev hr g c0 i j := by simp [fv, gi_si, gl_si, h]
theorem fv_sl {c0 i k j : Nat} {v : Int64} (h : j ≠ k) : fv ev hr (sl g i k v) c0 i j = fv ev hr g c0 i j := by simp [fv, gi_sl, gl_sl, h]
theorem fv_ur {c0 i k j : Nat} {v : Value} (h : j ≠ k) : fv ev (ur hr i k v) g c0 i j = fv ev hr g c0 i j := by simp [fv, ur, h]
theorem r_putI {v : Int32} (C : CX p s m args meth c own y cc nL ret D cA) (hw : WS D cA ev hr ad A kl s H locs g) {i c0 k idx : Nat} (hk : kl[i]? = some (c0, NN c0)) (hf : FL own idx c0 k) (ht : fk c0 k = 0) (hy : YY c0 k = .int) (hfin : (TT c0 k).2.2.2 = false ∨ (y.name = "<init>" ∧ (TT c0 k).1 = own)) (hd : decode cc pc = .ok (.putfield idx, 3))
    (kk : ∀ (H1 : Heap) (locs1 : List Loc), WS D cA ev hr ad A kl s H1 locs1 (si g i k v) → W p l e R s m args below meth c H1 locs1 cells slots Q (F0 m (pc + 3) ls rest)) : W p l e R s m args below meth c H locs cells slots Q (F0 m pc ls (.int v :: .ref (ad i) :: rest)) :=
  r_put C hw hk hf (by rw [hy]; rfl) (by rw [hy]; rfl) hfin (by simp [fv, ht, gi_si]) (fun _ h => fv_si h) (fun _ _ h => ent_o (si_off h) rfl rfl) hd kk
theorem r_putZ {v : Int32} (C : CX p s m args meth c own y cc nL ret D cA) (hw : WS D cA ev hr ad A kl s H locs g) {i c0 k idx : Nat} (hk : kl[i]? = some (c0, NN c0)) (hf : FL own idx c0 k) (ht : fk c0 k = 0) (hy : YY c0 k = .boolean) (hz : v = 0 ∨ v = 1) (hfin : (TT c0 k).2.2.2 = false ∨ (y.name = "<init>" ∧ (TT c0 k).1 = own)) (hd : decode cc pc = .ok (.putfield idx, 3))
    (kk : ∀ (H1 : Heap) (locs1 : List Loc), WS D cA ev hr ad A kl s H1 locs1 (si g i k v) → W p l e R s m args below meth c H1 locs1 cells slots Q (F0 m (pc + 3) ls rest)) : W p l e R s m args below meth c H locs cells slots Q (F0 m pc ls (.int v :: .ref (ad i) :: rest)) :=
  r_put C hw hk hf (by rw [hy]; rcases hz with rfl | rfl <;> rfl) (by rw [hy]; rcases hz with rfl | rfl <;> rfl) hfin (by simp [fv, ht, gi_si]) (fun _ h => fv_si h) (fun _ _ h => ent_o (si_off h) rfl rfl) hd kk
theorem r_putL {v : Int64} (C : CX p s m args meth c own y cc nL ret D cA) (hw : WS D cA ev hr ad A kl s H locs g) {i c0 k idx : Nat} (hk : kl[i]? = some (c0, NN c0)) (hf : FL own idx c0 k) (ht : fk c0 k = 1) (hy : YY c0 k = .long) (hfin : (TT c0 k).2.2.2 = false ∨ (y.name = "<init>" ∧ (TT c0 k).1 = own)) (hd : decode cc pc = .ok (.putfield idx, 3))
    (kk : ∀ (H1 : Heap) (locs1 : List Loc), WS D cA ev hr ad A kl s H1 locs1 (sl g i k v) → W p l e R s m args below meth c H1 locs1 cells slots Q (F0 m (pc + 3) ls rest)) : W p l e R s m args below meth c H locs cells slots Q (F0 m pc ls (.long v :: .ref (ad i) :: rest)) :=
  r_put C hw hk hf (by rw [hy]; rfl) (by rw [hy]; rfl) hfin (by simp [fv, ht, gl_sl]) (fun _ h => fv_sl h) (fun _ _ h => ent_o rfl (sl_off h) rfl) hd kk
theorem r_putR {q : Nat} (C : CX p s m args meth c own y cc nL ret D cA) (hw : WS D cA ev hr ad A kl s H locs g) {i c0 k idx : Nat} (hk : kl[i]? = some (c0, NN c0)) (hf : FL own idx c0 k) (ht : fk c0 k = 2) (hy : narrow (YY c0 k) (.ref q) = .ref q) (hy2 : fits (YY c0 k) (.ref q) = true) (hfin : (TT c0 k).2.2.2 = false ∨ (y.name = "<init>" ∧ (TT c0 k).1 = own)) (hd : decode cc pc = .ok (.putfield idx, 3))
    (kk : ∀ (H1 : Heap) (locs1 : List Loc), WS D cA ev (ur hr i k (.ref q)) ad A kl s H1 locs1 g → W p l e R s m args below meth c H1 locs1 cells slots Q (F0 m (pc + 3) ls rest)) : W p l e R s m args below meth c H locs cells slots Q (F0 m pc ls (.ref q :: .ref (ad i) :: rest)) :=
  r_put C hw hk hf hy hy2 hfin (by simp [fv, ht, ur]) (fun _ h => fv_ur h) (fun _ _ h => ent_o rfl rfl (ur_off h)) hd kk
theorem r_putS {q : Nat} {v : Int32} (C : CX p s m args meth c own y cc nL ret D cA) (hw : WS D cA ev hr ad A kl s H locs g) {i c0 k idx : Nat} (hk : kl[i]? = some (c0, NN c0)) (hf : FL own idx c0 k) (ht : fk c0 k = 3) (hq : svK ev v = .ref q) (hy : narrow (YY c0 k) (.ref q) = .ref q) (hy2 : fits (YY c0 k) (.ref q) = true) (hfin : (TT c0 k).2.2.2 = false ∨ (y.name = "<init>" ∧ (TT c0 k).1 = own)) (hd : decode cc pc = .ok (.putfield idx, 3))
    (kk : ∀ (H1 : Heap) (locs1 : List Loc), WS D cA ev hr ad A kl s H1 locs1 (si g i k v) → W p l e R s m args below meth c H1 locs1 cells slots Q (F0 m (pc + 3) ls rest)) : W p l e R s m args below meth c H locs cells slots Q (F0 m pc ls (.ref q :: .ref (ad i) :: rest)) :=
  r_put C hw hk hf hy hy2 hfin (by simp [fv, ht, gi_si, hq]) (fun _ h => fv_si h) (fun _ _ h => ent_o (si_off h) rfl rfl) hd kk
/-! arrays -/
theorem r_iald (C : CX p s m args meth c own y cc nL ret D cA) (hw : WS D cA ev hr ad A kl s H locs g) {i n : Nat} {j : Int32} (hk : kl[i]? = some (8, n)) (hin : vp_in j n) (hd : decode cc pc = .ok (.iaload, 1))
    (kk : W p l e R s m args below meth c H locs cells slots Q (F0 m (pc + 1) ls (.int (gi g i j.toNatClampNeg) :: rest))) : W p l e R s m args below meth c H locs cells slots Q (F0 m pc ls (.int j :: .ref (ad i) :: rest)) :=
  va_iald C.1.1 C.1.2.1 C.2.2.2.2 hw.1 i 0 (wl_at hk) rfl hin hd kk
theorem r_bald (C : CX p s m args meth c own y cc nL ret D cA) (hw : WS D cA ev hr ad A kl s H locs g) {i n : Nat} {j : Int32} (hk : kl[i]? = some (10, n)) (hin : vp_in j n) (hd : decode cc pc = .ok (.baload, 1))
    (kk : W p l e R s m args below meth c H locs cells slots Q (F0 m (pc + 1) ls (.int (gi g i j.toNatClampNeg) :: rest))) : W p l e R s m args below meth c H locs cells slots Q (F0 m pc ls (.int j :: .ref (ad i) :: rest)) :=
  va_bald C.1.1 C.1.2.1 C.2.2.2.2 hw.1 i 2 (wl_at hk) rfl hin hd kk
theorem r_zald (C : CX p s m args meth c own y cc nL ret D cA) (hw : WS D cA ev hr ad A kl s H locs g) {i n : Nat} {j : Int32} (hk : kl[i]? = some (11, n)) (hin : vp_in j n) (hd : decode cc pc = .ok (.baload, 1))
    (kk : W p l e R s m args below meth c H locs cells slots Q (F0 m (pc + 1) ls (.int (gi g i j.toNatClampNeg) :: rest))) : W p l e R s m args below meth c H locs cells slots Q (F0 m pc ls (.int j :: .ref (ad i) :: rest)) :=
  va_zald C.1.1 C.1.2.1 C.2.2.2.2 hw.1 i 3 (wl_at hk) rfl hin hd kk
theorem r_lald (C : CX p s m args meth c own y cc nL ret D cA) (hw : WS D cA ev hr ad A kl s H locs g) {i n : Nat} {j : Int32} (hk : kl[i]? = some (9, n)) (hin : vp_in j n) (hd : decode cc pc = .ok (.laload, 1))
    (kk : W p l e R s m args below meth c H locs cells slots Q (F0 m (pc + 1) ls (.long (gl g i j.toNatClampNeg) :: rest))) : W p l e R s m args below meth c H locs cells slots Q (F0 m pc ls (.int j :: .ref (ad i) :: rest)) :=
  va_lald C.1.1 C.1.2.1 C.2.2.2.2 hw.1 i 1 (wl_at hk) rfl hin hd kk
theorem wl_si {i k n t : Nat} {x : Int32} (ht : t = 8 ∨ t = 10 ∨ t = 11) (hk : kl[i]? = some (t, n)) : (wl cA ev hr ad g kl).set i (ad i, .inl (cA t, n, .inl (upd (gi g i) k x))) = wl cA ev hr ad (si g i k x) kl := by
  have h := wl_set (cA := cA) (ev := ev) (hr := hr) (hr' := hr) (ad := ad) (g := g) (g' := si g i k x) hk (fun _ _ h => ent_o (si_off h) rfl rfl)
  rw [← h]
  rcases ht with rfl | rfl | rfl <;> simp [ent, si_row]
theorem wl_sl {i k n : Nat} {x : Int64} (hk : kl[i]? = some (9, n)) : (wl cA ev hr ad g kl).set i (ad i, .inl (cA 9, n, .inr (.inl (vp_updL (gl g i) k x)))) = wl cA ev hr ad (sl g i k x) kl := by
  have h := wl_set (cA := cA) (ev := ev) (hr := hr) (hr' := hr) (ad := ad) (g := g) (g' := sl g i k x) hk (fun _ _ h => ent_o rfl (sl_off h) rfl)
  rw [← h]
  simp [ent, sl_row]
theorem r_iast {x : Int32} (C : CX p s m args meth c own y cc nL ret D cA) (hw : WS D cA ev hr ad A kl s H locs g) {i n : Nat} {j : Int32} (hk : kl[i]? = some (8, n)) (hin : vp_in j n) (hd : decode cc pc = .ok (.iastore, 1))
    (kk : ∀ (H1 : Heap) (locs1 : List Loc), WS D cA ev hr ad A kl s H1 locs1 (si g i j.toNatClampNeg x) → W p l e R s m args below meth c H1 locs1 cells slots Q (F0 m (pc + 1) ls rest)) : W p l e R s m args below meth c H locs cells slots Q (F0 m pc ls (.int x :: .int j :: .ref (ad i) :: rest)) := by
  obtain ⟨hP, hD, hS, hA, hE⟩ := hw
  refine va_iast C.1.1 C.1.2.1 C.2.2.2.2 hP hD hS i 0 (wl_at hk) rfl hin hd (fun H1 locs1 q1 q2 q3 => ?_)
  rw [wl_si (Or.inl rfl) hk] at q1 q2
  exact kk H1 locs1 ⟨q1, q2, q3, hA, hE⟩
theorem r_bast {x : Int32} (C : CX p s m args meth c own y cc nL ret D cA) (hw : WS D cA ev hr ad A kl s H locs g) {i n : Nat} {j : Int32} (hk : kl[i]? = some (10, n)) (hin : vp_in j n) (hd : decode cc pc = .ok (.bastore, 1))
    (kk : ∀ (H1 : Heap) (locs1 : List Loc), WS D cA ev hr ad A kl s H1 locs1 (si g i j.toNatClampNeg x.toInt8.toInt32) → W p l e R s m args below meth c H1 locs1 cells slots Q (F0 m (pc + 1) ls rest)) : W p l e R s m args below meth c H locs cells slots Q (F0 m pc ls (.int x :: .int j :: .ref (ad i) :: rest)) := by
  obtain ⟨hP, hD, hS, hA, hE⟩ := hw
  refine va_bast C.1.1 C.1.2.1 C.2.2.2.2 hP hD hS i 2 (wl_at hk) rfl hin hd (fun H1 locs1 q1 q2 q3 => ?_)
  rw [wl_si (Or.inr (Or.inl rfl)) hk, vp_nar_byte] at q1 q2
  exact kk H1 locs1 ⟨q1, q2, q3, hA, hE⟩
theorem r_zast {x : Int32} (C : CX p s m args meth c own y cc nL ret D cA) (hw : WS D cA ev hr ad A kl s H locs g) {i n : Nat} {j : Int32} (hk : kl[i]? = some (11, n)) (hz : x = 0 ∨ x = 1) (hin : vp_in j n) (hd : decode cc pc = .ok (.bastore, 1))
    (kk : ∀ (H1 : Heap) (locs1 : List Loc), WS D cA ev hr ad A kl s H1 locs1 (si g i j.toNatClampNeg x) → W p l e R s m args below meth c H1 locs1 cells slots Q (F0 m (pc + 1) ls rest)) : W p l e R s m args below meth c H locs cells slots Q (F0 m pc ls (.int x :: .int j :: .ref (ad i) :: rest)) := by
  obtain ⟨hP, hD, hS, hA, hE⟩ := hw
  refine va_zast C.1.1 C.1.2.1 C.2.2.2.2 hP hD hS i 3 (wl_at hk) rfl hin hd (fun H1 locs1 q1 q2 q3 => ?_)
  have e : vp_nar .boolean x = x := by rcases hz with rfl | rfl <;> rfl
  rw [wl_si (Or.inr (Or.inr rfl)) hk, e] at q1 q2
  exact kk H1 locs1 ⟨q1, q2, q3, hA, hE⟩
theorem r_last {x : Int64} (C : CX p s m args meth c own y cc nL ret D cA) (hw : WS D cA ev hr ad A kl s H locs g) {i n : Nat} {j : Int32} (hk : kl[i]? = some (9, n)) (hin : vp_in j n) (hd : decode cc pc = .ok (.lastore, 1))
    (kk : ∀ (H1 : Heap) (locs1 : List Loc), WS D cA ev hr ad A kl s H1 locs1 (sl g i j.toNatClampNeg x) → W p l e R s m args below meth c H1 locs1 cells slots Q (F0 m (pc + 1) ls rest)) : W p l e R s m args below meth c H locs cells slots Q (F0 m pc ls (.long x :: .int j :: .ref (ad i) :: rest)) := by
  obtain ⟨hP, hD, hS, hA, hE⟩ := hw
  refine va_last C.1.1 C.1.2.1 C.2.2.2.2 hP hD hS i 1 (wl_at hk) rfl hin hd (fun H1 locs1 q1 q2 q3 => ?_)
  rw [wl_sl hk] at q1 q2
  exact kk H1 locs1 ⟨q1, q2, q3, hA, hE⟩
theorem r_alen {t n : Nat} {v : Int32} {ty : FieldType} (C : CX p s m args meth c own y cc nL ret D cA) (hw : WS D cA ev hr ad A kl s H locs g) {i : Nat} (hk : kl[i]? = some (t, n)) (ht : 8 ≤ t ∧ t < 12) (hv : nI n = v) (hd : decode cc pc = .ok (.arraylength, 1))
    (kk : W p l e R s m args below meth c H locs cells slots Q (F0 m (pc + 1) ls (.int v :: rest))) : W p l e R s m args below meth c H locs cells slots Q (F0 m pc ls (.ref (ad i) :: rest)) := by
  have h := wl_at (cA := cA) (ev := ev) (hr := hr) (ad := ad) (g := g) hk
  rcases (show t = 8 ∨ t = 9 ∨ t = 10 ∨ t = 11 by omega) with rfl | rfl | rfl | rfl
  · exact va_alen C.1.1 C.1.2.1 C.2.2.2.2 hw.1 i 0 h rfl hv hd kk
  · exact va_alen C.1.1 C.1.2.1 C.2.2.2.2 hw.1 i 1 h rfl hv hd kk
  · exact va_alen C.1.1 C.1.2.1 C.2.2.2.2 hw.1 i 2 h rfl hv hd kk
  · exact va_alen C.1.1 C.1.2.1 C.2.2.2.2 hw.1 i 3 h rfl hv hd kk
/-! returns -/
theorem r_iret {r : Int32} (C : CX p s m args meth c own y cc nL ret D cA) (hw : WS D cA ev hr ad A kl s H locs g) (hret : ret = some .int ∨ (ret = some .boolean ∧ (r = 0 ∨ r = 1))) (hd : decode cc pc = .ok (.ireturn, 1)) :
    W p l e R s m args below meth c H locs cells slots (MQ below (QI D cA ev hr ad A kl r g) args s cells slots A) (F0 m pc ls [.int r]) := by
  obtain ⟨⟨hx, hb, hml, hown, hts⟩, hrt, hlocks, -, hK⟩ := C
  obtain ⟨hP, hD, hS, hA, hE⟩ := hw
  have hq : ∀ t : State, t.heap = H → s.WarmedH t.vm → QI D cA ev hr ad A kl r g args s (.returned (some (.int r))) t := fun t ht hW => ⟨⟨r, (), rfl, rfl, by rw [ht]; exact hP, va_K.moved hW.alike hK, hD⟩, hS.F ht⟩
  rcases hret with rfl | ⟨rfl, hz⟩
  · exact W.iret hx hb hrt hq hS.2.2 hd
  · exact W.zret hx hb hrt (by rcases hz with rfl | rfl <;> rfl) hq hS.2.2 hd
theorem r_vret (C : CX p s m args meth c own y cc nL ret D cA) (hw : WS D cA ev hr ad A kl s H locs g) (hret : ret = none) (hd : decode cc pc = .ok (.return_, 1)) :
    W p l e R s m args below meth c H locs cells slots (MQ below (QV D cA ev hr ad A kl g) args s cells slots A) (F0 m pc ls []) := by
  obtain ⟨⟨hx, hb, hml, hown, hts⟩, hrt, hlocks, -, hK⟩ := C
  obtain ⟨hP, hD, hS, hA, hE⟩ := hw
  subst hret
  exact W.vret hx hb hrt (fun t ht hW => ⟨⟨(), rfl, trivial, by rw [ht]; exact hP, va_K.moved hW.alike hK, hD⟩, hS.F ht⟩) hS.2.2 hd
/-! calls -/
theorem WS.pre (hw : WS D cA ev hr ad A kl s H locs g) (hK : va_K D vwCl (tysA cA) s) : (∀ q, AX ad kl.length H.size q → A q) ∧ ∀ U : State, U.heap = H → s.WarmedH U.vm → PX D cA ev hr ad kl g H.size U := by
  obtain ⟨hP, hD, hS, hA, hE⟩ := hw
  have hAA : ∀ q, AX ad kl.length H.size q → A q := by
    intro q h
    rcases h with ⟨i, hi, rfl⟩ | h
    · exact hD.2 i _ (wl_at (q := kl[i]) (List.getElem?_eq_getElem hi))
    · exact hA q (Nat.le_trans hS.1 h)
  exact ⟨hAA, fun U hU hW => ⟨by rw [hU], by rw [hU]; exact hP, va_K.moved hW.alike hK, ⟨hD.1, fun _ _ _ => trivial⟩, by rw [hU]; exact hE.warm hW hAA (fun a h1 h2 => hS.2.1 a h1 h2)⟩⟩
theorem WS.post {g' : GM} {hr' : Nat → Nat → Value} {kl' : List (Nat × Nat)} {ad' : Nat → Nat} {t : State} {H1 : Heap} {locs1 : List Loc} {B : Nat → Prop} (hw : WS D cA ev hr ad A kl s H locs g) (hB : BX D cA ev hr' ad' B kl' g' t) (ht : t.heap = H1) (hS1 : va_S A s.heap H1 locs1) (hBA : ∀ q, B q → A q) : WS D cA ev hr' ad' A kl' s H1 locs1 g' := by
  obtain ⟨hP, hD, hS, hA, hE⟩ := hw
  obtain ⟨h1, h2, h3⟩ := hB
  exact ⟨by rw [← ht]; exact h1, h3.weaken (fun k q hk h => hBA q.1 h), hS1, hA, hE⟩
theorem room_ok {d dc : Nat} {mc ms mc' ms' maxL : Nat} (h : dc + 1 ≤ d) (hm : maxL ≤ 40) : (RM dc mc ms).frames + 1 ≤ (RM d mc' ms').frames ∧ 8 + (maxL + 11) + (RM dc mc ms).locals ≤ (RM d mc' ms').locals := by
  show dc + 1 ≤ d ∧ 8 + (maxL + 11) + 60 * dc ≤ 60 * d
  omega
end ROWS

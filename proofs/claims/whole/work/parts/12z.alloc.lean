/-! making cells -/
def up (ad : Nat → Nat) (n q : Nat) : Nat → Nat := fun i => if i = n then q else ad i
def un (hr : Nat → Nat → Value) (n : Nat) : Nat → Nat → Value := fun a b => if a = n then .null else hr a b
def zi (g : GM) (n : Nat) : GM := (fun a b => if a = n then 0 else g.1 a b, fun a b => if a = n then 0 else g.2 a b)
def ex (ad : Nat → Nat) (n : Nat) (a1 : Nat → Nat) : Nat → Nat := fun i => if i < n then ad i else a1 i
theorem ex_self {ad : Nat → Nat} {n : Nat} : ex ad n ad = ad := by funext i; simp [ex]
theorem ex_up {ad a1 : Nat → Nat} {n k q : Nat} (h : n ≤ k) : ex ad n (up a1 k q) = up (ex ad n a1) k q := by
  funext i
  simp only [ex, up]
  by_cases h1 : i = k
  · subst h1; simp [Nat.not_lt.mpr h]
  · simp [h1]
theorem ex_ex {ad a1 a2 : Nat → Nat} {n k : Nat} (h : n ≤ k) : ex ad n (ex a1 k a2) = ex (ex ad n a1) k a2 := by
  funext i
  simp only [ex]
  by_cases h1 : i < k
  · simp [h1]
  · have : ¬ i < n := by omega
    simp [h1, this]
theorem zi_at {g : GM} {n b : Nat} : gi (zi g n) n b = 0 := by simp [gi, zi]
theorem zi_atl {g : GM} {n b : Nat} : gl (zi g n) n b = 0 := by simp [gl, zi]
theorem zi_off {g : GM} {n j : Nat} (h : j ≠ n) : gi (zi g n) j = gi g j := by funext b; simp [gi, zi, h]
theorem zi_offl {g : GM} {n j : Nat} (h : j ≠ n) : gl (zi g n) j = gl g j := by funext b; simp [gl, zi, h]
theorem un_off {hr : Nat → Nat → Value} {n j : Nat} (h : j ≠ n) : un hr n j = hr j := by funext b; simp [un, h]
theorem wl_push {cA : Nat → ClassId} {ev : EVa} {hr : Nat → Nat → Value} {ad : Nat → Nat} {g : GM} {kl : List (Nat × Nat)} {n q : Nat} {u : Nat × Nat} (hn : kl.length = n) :
    wl cA ev hr ad g kl ++ [(q, ent cA ev (un hr n) (zi g n) u n)] = wl cA ev (un hr n) (up ad n q) (zi g n) (kl ++ [u]) := by
  subst hn
  refine List.ext_getElem? fun j => ?_
  by_cases h1 : j < kl.length
  · rw [List.getElem?_append_left (by rw [wl_len]; exact h1)]
    have hk : (kl ++ [u])[j]? = some kl[j] := by rw [List.getElem?_append_left h1]; exact List.getElem?_eq_getElem h1
    rw [wl_at (q := kl[j]) (List.getElem?_eq_getElem h1), wl_at hk]
    have hne : j ≠ kl.length := Nat.ne_of_lt h1
    rw [ent_o (zi_off hne) (zi_offl hne) (un_off hne)]
    simp [up, hne]
  · by_cases h2 : j = kl.length
    · subst h2
      have hk : (kl ++ [u])[kl.length]? = some u := by simp
      rw [wl_at hk, List.getElem?_append_right (by rw [wl_len]; exact Nat.le_refl _), wl_len]
      simp [up]
    · rw [List.getElem?_eq_none (by rw [List.length_append, wl_len]; simp; omega), List.getElem?_eq_none (by rw [wl_len]; simp; omega)]
theorem wl_cong {cA : Nat → ClassId} {ev : EVa} {hr : Nat → Nat → Value} {ad ad' : Nat → Nat} {g : GM} {kl : List (Nat × Nat)} (h : ∀ i, i < kl.length → ad i = ad' i) : wl cA ev hr ad g kl = wl cA ev hr ad' g kl := by
  refine List.ext_getElem? fun j => ?_
  simp only [wl, List.getElem?_mapIdx]
  cases hk : kl[j]? with
  | none => rfl
  | some q => simp only [Option.map_some]; rw [h j (List.getElem?_eq_some_iff.mp hk).1]
theorem dflt_ok : ∀ c, c < 8 → ∀ k, k < NN c → defaultValue (YY c k) = (if fk c k = 0 then Value.int 0 else if fk c k = 1 then Value.long 0 else Value.null) := by decide +kernel
section ALLOC
variable {p : Program} {l : Launch} {e : Env} {R : Room} {s : State} {m : MethodId} {args : Array Value} {below : List Frame} {meth : Method} {c : Code} {H : Heap} {locs : List Loc} {cells slots mc ms mcc msc : Nat} {Q : State → Prop}
variable {own : String} {y : MethodName} {cc : ByteArray} {nL : Nat} {ret : Option FieldType} {D : va_G} {cA : Nat → ClassId} {ev : EVa} {hr hr' : Nat → Nat → Value} {ad ad' : Nat → Nat} {A : Nat → Prop} {kl kl' : List (Nat × Nat)} {g g' : GM} {pc : Nat} {ls : Array Slot} {rest st0 As : List Value}
variable {d dc maxL n idx i c0 : Nat} {y2 : MethodName} {bytes : ByteArray} {ret2 : Option FieldType} {r : Int32}
theorem r_new (C : CX p s m args meth c own y cc nL ret D cA) (hw : WS D cA ev hr ad A kl s H locs g) (h8 : c0 < 8) (hcl : Cond.classLink own idx (RR c0) ∈ lw_ok) (hin : Cond.instantiable (RR c0) (NN c0) ∈ lw_ok) (hini : Cond.initialized (RR c0) ∈ lw_ok) (hn : kl.length = n) (hkl : kl ++ [(c0, NN c0)] = kl') (hc : cells + 1 ≤ R.cells) (hs : slots + NN c0 ≤ R.slots) (hd : decode cc pc = .ok (.new idx, 3))
    (kk : ∀ (q : Nat) (H1 : Heap), WS D cA ev (un hr n) (up ad n q) A kl' s H1 locs (zi g n) → W p l e R s m args below meth c H1 locs (cells + 1) (slots + NN c0) Q (F0 m (pc + 3) ls (.ref q :: rest))) : W p l e R s m args below meth c H locs cells slots Q (F0 m pc ls rest) := by
  have w1 := C.w hcl
  have w2 := C.w hin
  have w3 := C.w hini
  obtain ⟨⟨hx, hb, hml, hown, hts⟩, -, -, -, hK⟩ := C
  obtain ⟨hP, hD, hS, hA, hE⟩ := hw
  refine va_new (C := RR c0) (T := TT c0) (N := NN c0) (ci := c0) (fs := (List.range (NN c0)).map (fv ev (un hr n) (zi g n) c0 n)) hx hb hts (fun w h => List.mem_cons_of_mem _ (cl_in c0 h8 w h)) (YY c0) (cl_ty c0 h8) hown w1 w2 w3 hK hP hD hS hA (cl_at c0 h8) (fun j hj => ?_) hc hs hd (fun q H1 q1 q2 q3 => ?_)
  · rw [dflt_ok c0 h8 j hj]
    simp only [vp_V, List.getD_eq_getElem?_getD, List.getElem?_map, List.getElem?_range hj, Option.map_some, Option.getD_some, fv, zi_at, zi_atl, un, svK, if_true]
    by_cases h0 : fk c0 j = 0
    · simp [h0]
    · by_cases h1 : fk c0 j = 1
      · simp [h1]
      · by_cases h2 : fk c0 j = 2
        · simp [h2]
        · simp [h0, h1, h2]
  · rw [← ent_obj (cA := cA) (n := NN c0) h8, wl_push hn, hkl] at q1 q2
    exact kk q H1 ⟨q1, q2, q3, hA, hE⟩
theorem r_newa {t N : Nat} {atype : ArrayType} {ty : FieldType} {x : Int32} (C : CX p s m args meth c own y cc nL ret D cA) (hw : WS D cA ev hr ad A kl s H locs g) (hty : newarray.typeOf atype = ty) (ht : (t = 8 ∧ ty = .int) ∨ (t = 9 ∧ ty = .long) ∨ (t = 10 ∧ ty = .byte) ∨ (t = 11 ∧ ty = .boolean)) (har : Cond.arrayClass ty ∈ lw_ok) (hn : kl.length = n) (hkl : kl ++ [(t, N)] = kl') (hx0 : ¬ x < 0) (hN : x.toNatClampNeg = N) (hby : N ≤ 10000) (hc : cells + 1 ≤ R.cells) (hs : slots + N ≤ R.slots) (hd : decode cc pc = .ok (.newarray atype, 2))
    (kk : ∀ (q : Nat) (H1 : Heap), WS D cA ev (un hr n) (up ad n q) A kl' s H1 locs (zi g n) → W p l e R s m args below meth c H1 locs (cells + 1) (slots + N) Q (F0 m (pc + 2) ls (.ref q :: rest))) : W p l e R s m args below meth c H locs cells slots Q (F0 m pc ls (.int x :: rest)) := by
  have w1 := C.w har
  obtain ⟨⟨hx, hb, hml, hown, hts⟩, -, -, -, hK⟩ := C
  obtain ⟨hP, hD, hS, hA, hE⟩ := hw
  rcases ht with ⟨rfl, rfl⟩ | ⟨rfl, rfl⟩ | ⟨rfl, rfl⟩ | ⟨rfl, rfl⟩
  · refine va_newa (a0 := (N, .inl (gi (zi g n) n))) hx hb (by rw [hty]; exact w1) hty hK hP hD hS hA (fun cA1 => by rw [vp_cell_i]; congr 1; funext b; rw [zi_at]; rfl) hx0 hN (by show N * 4 ≤ _; omega) hc hs hd (fun q cA1 H1 q0 q1 q2 q3 => ?_)
    have e : cA1 = cA 8 := Option.some.inj (((q0.2 4 _ rfl).2).symm.trans (hK.2 0 _ rfl).2)
    subst e
    have e2 : (Sum.inl (cA 8, N, .inl (gi (zi g n) n)) : va_E) = ent cA ev (un hr n) (zi g n) (8, N) n := rfl
    rw [e2, wl_push hn, hkl] at q1 q2
    exact kk q H1 ⟨q1, q2, q3, hA, hE⟩
  · refine va_newa (a0 := (N, .inr (.inl (gl (zi g n) n)))) hx hb (by rw [hty]; exact w1) hty hK hP hD hS hA (fun cA1 => by rw [vp_cell_l]; congr 1; funext b; rw [zi_atl]; rfl) hx0 hN (by show N * 8 ≤ _; omega) hc hs hd (fun q cA1 H1 q0 q1 q2 q3 => ?_)
    have e : cA1 = cA 9 := Option.some.inj (((q0.2 4 _ rfl).2).symm.trans (hK.2 1 _ rfl).2)
    subst e
    have e2 : (Sum.inl (cA 9, N, .inr (.inl (gl (zi g n) n))) : va_E) = ent cA ev (un hr n) (zi g n) (9, N) n := rfl
    rw [e2, wl_push hn, hkl] at q1 q2
    exact kk q H1 ⟨q1, q2, q3, hA, hE⟩
  · refine va_newa (a0 := (N, .inl (gi (zi g n) n))) hx hb (by rw [hty]; exact w1) hty hK hP hD hS hA (fun cA1 => by rw [vp_cell_i]; congr 1; funext b; rw [zi_at]; rfl) hx0 hN (by show N * 1 ≤ _; omega) hc hs hd (fun q cA1 H1 q0 q1 q2 q3 => ?_)
    have e : cA1 = cA 10 := Option.some.inj (((q0.2 4 _ rfl).2).symm.trans (hK.2 2 _ rfl).2)
    subst e
    have e2 : (Sum.inl (cA 10, N, .inl (gi (zi g n) n)) : va_E) = ent cA ev (un hr n) (zi g n) (10, N) n := rfl
    rw [e2, wl_push hn, hkl] at q1 q2
    exact kk q H1 ⟨q1, q2, q3, hA, hE⟩
  · refine va_newa (a0 := (N, .inl (gi (zi g n) n))) hx hb (by rw [hty]; exact w1) hty hK hP hD hS hA (fun cA1 => by rw [vp_cell_i]; congr 1; funext b; rw [zi_at]; rfl) hx0 hN (by show N * 1 ≤ _; omega) hc hs hd (fun q cA1 H1 q0 q1 q2 q3 => ?_)
    have e : cA1 = cA 11 := Option.some.inj (((q0.2 4 _ rfl).2).symm.trans (hK.2 3 _ rfl).2)
    subst e
    have e2 : (Sum.inl (cA 11, N, .inl (gi (zi g n) n)) : va_E) = ent cA ev (un hr n) (zi g n) (11, N) n := rfl
    rw [e2, wl_push hn, hkl] at q1 q2
    exact kk q H1 ⟨q1, q2, q3, hA, hE⟩
theorem kwo : Cond.instanceMethod objectInit ∈ lw_ok := ok_t1 (i := 23) ⟨rfl, rfl⟩
theorem kwoc : Cond.code objectInit ⟨#[0xb1]⟩ 1 none ∈ lw_ok := ok_t1 (i := 24) ⟨rfl, rfl⟩
theorem r_obj {q : Nat} (C : CX p s m args meth c own y cc nL ret D cA) (hml : Cond.methodLink own idx objectInit ∈ lw_ok) (hls : ls.size = nL) (hd : decode cc pc = .ok (.invokespecial idx, 3)) (hd1 : 1 ≤ d) (hro : (rest.map fun v => v.category).sum ≤ 8)
    (kk : W p l e (RM d mc ms) s m args below meth c H locs cells slots Q (F0 m (pc + 3) ls rest)) : W p l e (RM d mc ms) s m args below meth c H locs cells slots Q (F0 m pc ls (.ref q :: rest)) := by
  have w1 := C.w hml
  have w2 := C.w kwo
  have w3 := C.w kwoc
  obtain ⟨⟨hx, hb, hmx, hown, hts⟩, -, -, -, hK⟩ := C
  have hr1 := lv_room (m := m) (pc := pc) (ls := ls) (rest := .ref q :: rest) hro
  refine W.objInit hx hb hown w1 w2 w3 rfl (by rw [hmx]; exact hls) rfl hd hd1 ?_ kk
  show _ ≤ 60 * d
  omega
/-- the end of a constructor that makes cells: from n on the addresses are new -/
abbrev QVA (D : va_G) (cA : Nat → ClassId) (ev : EVa) (hr : (Nat → Nat) → Nat → Nat → Value) (ad : Nat → Nat) (n : Nat) (A : Nat → Prop) (kl : List (Nat × Nat)) (g : GM) : Array Value → State → Outcome → State → Prop := va_Qv (fun (_ : Nat → Nat) => True) (fun a1 t => BX D cA ev (hr (ex ad n a1)) (ex ad n a1) A kl g t) A
theorem r_vretA {hrf : (Nat → Nat) → Nat → Nat → Value} {a0 a1 : Nat → Nat} (C : CX p s m args meth c own y cc nL ret D cA) (hw : WS D cA ev hr a1 A kl s H locs g) (he : ex a0 n a1 = a1) (hh : hrf a1 = hr) (hret : ret = none) (hd : decode cc pc = .ok (.return_, 1)) :
    W p l e R s m args below meth c H locs cells slots (MQ below (QVA D cA ev hrf a0 n A kl g) args s cells slots A) (F0 m pc ls []) := by
  obtain ⟨⟨hx, hb, hml, hown, hts⟩, hrt, hlocks, -, hK⟩ := C
  obtain ⟨hP, hD, hS, hA, hE⟩ := hw
  subst hret
  exact W.vret hx hb hrt (fun t ht hW => ⟨⟨a1, rfl, trivial, by rw [he, hh, ht]; exact hP, va_K.moved hW.alike hK, by rw [he, hh]; exact hD⟩, hS.F ht⟩) hS.2.2 hd
theorem r_iVA {hrf : (Nat → Nat) → Nat → Nat → Value} (C : CX p s m args meth c own y cc nL ret D cA) (hw : WS D cA ev hr ad A kl s H locs g) (hcv : CI own idx y2 bytes maxL n)
    {k : Nat} (hM : ∀ sz, Met l y2 (WSX y2 bytes maxL none) (RM dc mcc msc) (va_Pc (.ref (ad i) :: As) (PX D cA ev hr ad kl g sz)) (QVA D cA ev hrf ad k (AX ad kl.length sz) kl' g') mcc msc (AX ad kl.length sz))
    (hdd : dc + 1 ≤ d) (hn : As.length = n) (hst : st0 = As.reverse ++ .ref (ad i) :: rest) (hls : ls.size = nL) (hro : (rest.map fun v => v.category).sum ≤ 8) (hd : decode cc pc = .ok (.invokespecial idx, 3)) (hf : cells + mcc ≤ mc ∧ slots + msc ≤ ms)
    (kk : ∀ (a1 : Nat → Nat) (H1 : Heap) (locs1 : List Loc), WS D cA ev (hrf (ex ad k a1)) (ex ad k a1) A kl' s H1 locs1 g' → W p l e (RM d mc ms) s m args below meth c H1 locs1 (cells + mcc) (slots + msc) Q (F0 m (pc + 3) ls rest)) : W p l e (RM d mc ms) s m args below meth c H locs cells slots Q (F0 m pc ls st0) := by
  obtain ⟨hAA, hpre⟩ := hw.pre C.2.2.2.2
  exact va_callv (va_runI (As := As) (rest := rest) C.1 (hM H.size) (ci_w C hcv rfl rfl (room_ok hdd hcv.2.2.1)) ⟨PX.blind, fun U hU hW => ⟨rfl, hpre U hU hW⟩⟩ rfl hn hls hst (lv_room hro) hd hf) hw.2.2.1 (fun q _ h => hAA q h) hAA (fun u t H1 locs1 ht hvm hp hB hz1 hk1 hS1 => kk u H1 locs1 (hw.post hB ht hS1 hAA))
end ALLOC

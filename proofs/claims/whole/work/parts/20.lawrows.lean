def R_law : String := "TruePieceLaw"
def lw_P (b : Addr) (xs : List Int32) (args : Array Value) (s : State) : Prop := args = #[.ref b] ∧ s.IntsAt b xs ∧ xs.length ≤ 3072 ∧ (Jvm.Cond.and given_1 narrow_1).before args s = true
def lw_Q (_ : Array Value) (s : State) (o : Outcome) (t : State) : Prop := o = .returned (some (.int 1)) ∧ Framed s o t [] 600000 7302250
def lw_Z (below : List Frame) (a : Array Value) (s : State) : State → Prop := fun t => ∃ o, t.status = .running ∧ Ended t below o ∧ lw_Q a s o t
/-- the law's own end, with 1 on the stack, nothing written that was there before, its room as the claim has it -/
theorem lw_ret {p : Program} {l : Launch} {e : Env} {s : State} {m : MethodId} {below : List Frame} {meth : Method} {c : Code} {b : Nat} (hx : p.tables.exec = Jvm.exec) (hb : c.code = code) (hr : meth.sig.returnType = ret) (hlocks : meth.locks = false) {pc : Nat} {H : Heap} {ls : Array Slot} (hdg : decode code pc = .ok (.ireturn, 1)) : W p l e room_1 s m #[Value.ref b] below meth c H [] 600000 7302250 (lw_Z below #[Value.ref b] s) (F0 m pc ls [.int 1]) := by
  intro T hT X
  obtain ⟨fs, hret, hrun, hended, hW, hframe⟩ := X.leave (v := some (.int 1)) (hlocks := hlocks) (fun h => by rw [hr] at h; cases h)
  have hmeth' : T.vm.method? m = some meth := X.method'
  refine ⟨T.setFrames fs, ?_, .returned (some (.int 1)), hrun, hended, rfl, ⟨_, rfl⟩, hW, hframe⟩
  jvm_step X.here [X.here.top, hx, hb, hdg, hmeth', hr, ret, narrow_b1]
  (try refine ⟨rfl, ?_⟩); (try refine ⟨rfl, ?_⟩)
  first | (intro acts; rw [hret _ acts rfl rfl rfl]) | rw [hret _ _ rfl rfl rfl]
  exact Steps.refl _
/-- what holds at the law's entry: the machine, the code, the tables' words (any of lw_tbl by 'hts w (by decide +kernel)'), the script of L ints xs at the cell b, what the Statement gives of the start (any of its parts by flat_of_before) -/
def lw_At (p : Program) (s : State) (m : MethodId) (meth : Method) (c : Code) (b L : Nat) (xs : Nat → Int32) : Prop :=
  p.tables.exec = Jvm.exec ∧ c.code = code ∧ meth.sig.returnType = ret ∧ c.maxLocals = 4 ∧ s.vm.findClass R_law = some m.cls ∧ (∀ w ∈ lw_tbl, w.before #[Value.ref b] s = true) ∧ va_X b L xs s s.heap ∧ b < s.heap.size ∧ meth.locks = false ∧ (Jvm.Cond.and given_1 narrow_1).before #[Value.ref b] s = true
/-! both worlds in one heap -/
abbrev Alw (s : State) : Nat → Prop := fun q => s.heap.size ≤ q
def W2 (D : va_G) (cA : Nat → ClassId) (ev : EVa) (s : State) (H : Heap) (locs : List Loc) (hx : Nat → Nat → Value) (ax : Nat → Nat) (gx : GM) (hm : Nat → Nat → Value) (am : Nat → Nat) (gm : GM) : Prop :=
  va_P D vwCl (wl cA ev hx ax gx (KX ++ [])) H ∧ va_P D vwCl (wl cA ev hm am gm KM) H ∧ va_D (Alw s) (wl cA ev hx ax gx (KX ++ [])) ∧ va_D (Alw s) (wl cA ev hm am gm KM) ∧ (∀ i j, i < 42 → j < 33 → ax i ≠ am j) ∧ va_S (Alw s) s.heap H locs ∧ HX hx ax ∧ HM hm am
section LAWROWS
variable {p : Program} {l : Launch} {e : Env} {s : State} {m : MethodId} {args : Array Value} {below : List Frame} {meth : Method} {c : Code} {H : Heap} {locs : List Loc} {cells slots mcc msc : Nat} {Q : State → Prop}
variable {D : va_G} {cA : Nat → ClassId} {ev : EVa} {hx hm : Nat → Nat → Value} {ax am : Nat → Nat} {gx gm gx' gm' : GM} {pc : Nat} {ls : Array Slot} {rest st0 As : List Value}
variable {dc maxL n idx : Nat} {y2 : MethodName} {bytes : ByteArray} {ret2 : Option FieldType} {r : Int32}
theorem KX0_len : (KX ++ []).length = 42 := rfl
theorem KM_len : KM.length = 33 := rfl
theorem W2.X (hE : EV ev (Alw s) s s.heap) (h : W2 D cA ev s H locs hx ax gx hm am gm) : WS D cA ev hx ax (Alw s) (KX ++ []) s H locs gx := ⟨h.1, h.2.2.1, h.2.2.2.2.2.1, fun _ h => h, hE⟩
theorem W2.M (hE : EV ev (Alw s) s s.heap) (h : W2 D cA ev s H locs hx ax gx hm am gm) : WS D cA ev hm am (Alw s) KM s H locs gm := ⟨h.2.1, h.2.2.2.1, h.2.2.2.2.2.1, fun _ h => h, hE⟩
theorem wl_in {hr : Nat → Nat → Value} {ad : Nat → Nat} {g : GM} {kl : List (Nat × Nat)} {i : Nat} (hi : i < kl.length) : (wl cA ev hr ad g kl)[i]? = some (ad i, ent cA ev hr g kl[i] i) := wl_at (List.getElem?_eq_getElem hi)
theorem wl_ad {hr : Nat → Nat → Value} {ad : Nat → Nat} {g : GM} {kl : List (Nat × Nat)} {k : Nat} {q : Nat × va_E} (h : (wl cA ev hr ad g kl)[k]? = some q) : k < kl.length ∧ q.1 = ad k := by
  have hk : k < kl.length := by rw [← wl_len (cA := cA) (ev := ev) (hr := hr) (ad := ad) (g := g)]; exact (List.getElem?_eq_some_iff.mp h).1
  rw [wl_in hk] at h
  cases h
  exact ⟨hk, rfl⟩
theorem W2.postX {hx' : Nat → Nat → Value} {ax' : Nat → Nat} {t : State} {H1 : Heap} {locs1 : List Loc} (h : W2 D cA ev s H locs hx ax gx hm am gm) (hB : BX D cA ev hx' ax' (AX ax (KX ++ []).length H.size) (KX ++ []) gx' t) (ht : t.heap = H1) (hk1 : ∀ q : Nat, q < H.size → ¬ AX ax (KX ++ []).length H.size q → H1[q]? = H[q]?) (hS1 : va_S (Alw s) s.heap H1 locs1) (hH : HX hx' ax') : W2 D cA ev s H1 locs1 hx' ax' gx' hm am gm := by
  obtain ⟨h1, h2, h3, h4, h5, h6, h7, h8⟩ := h
  obtain ⟨b1, b2, b3⟩ := hB
  have lt : ∀ j, j < 33 → am j < H.size := fun j hj => (h2 j _ (wl_in (by rw [KM_len]; exact hj))).lt
  have off : ∀ j, j < 33 → ¬ AX ax (KX ++ []).length H.size (am j) := by
    intro j hj hA
    rcases hA with ⟨i, hi, e⟩ | h'
    · exact h5 i j (by rw [KX0_len] at hi; exact hi) hj e.symm
    · have := lt j hj; omega
  have sub : ∀ q, AX ax (KX ++ []).length H.size q → Alw s q := by
    intro q hq
    rcases hq with ⟨i, hi, rfl⟩ | h'
    · exact h3.2 i _ (wl_in hi)
    · exact Nat.le_trans h6.1 h'
  refine ⟨by rw [← ht]; exact b1, h2.kept (fun k q hq => ?_), b3.weaken (fun k q _ hq => sub _ hq), h4, fun i j hi hj e => ?_, hS1, hH, h8⟩
  · obtain ⟨hk, e⟩ := wl_ad hq
    rw [KM_len] at hk
    rw [e]
    exact hk1 _ (lt k hk) (off k hk)
  · have hq := b3.2 i _ (wl_in (by rw [KX0_len]; exact hi))
    exact off j hj (e ▸ hq)
theorem W2.postM {hm' : Nat → Nat → Value} {am' : Nat → Nat} {t : State} {H1 : Heap} {locs1 : List Loc} (h : W2 D cA ev s H locs hx ax gx hm am gm) (hB : BX D cA ev hm' am' (AX am KM.length H.size) KM gm' t) (ht : t.heap = H1) (hk1 : ∀ q : Nat, q < H.size → ¬ AX am KM.length H.size q → H1[q]? = H[q]?) (hS1 : va_S (Alw s) s.heap H1 locs1) (hH : HM hm' am') : W2 D cA ev s H1 locs1 hx ax gx hm' am' gm' := by
  obtain ⟨h1, h2, h3, h4, h5, h6, h7, h8⟩ := h
  obtain ⟨b1, b2, b3⟩ := hB
  have lt : ∀ j, j < 42 → ax j < H.size := fun j hj => (h1 j _ (wl_in (by rw [KX0_len]; exact hj))).lt
  have off : ∀ j, j < 42 → ¬ AX am KM.length H.size (ax j) := by
    intro j hj hA
    rcases hA with ⟨i, hi, e⟩ | h'
    · exact h5 j i hj (by rw [KM_len] at hi; exact hi) e
    · have := lt j hj; omega
  have sub : ∀ q, AX am KM.length H.size q → Alw s q := by
    intro q hq
    rcases hq with ⟨i, hi, rfl⟩ | h'
    · exact h4.2 i _ (wl_in hi)
    · exact Nat.le_trans h6.1 h'
  refine ⟨h1.kept (fun k q hq => ?_), by rw [← ht]; exact b1, h3, b3.weaken (fun k q _ hq => sub _ hq), fun i j hi hj e => ?_, hS1, h7, hH⟩
  · obtain ⟨hk, e⟩ := wl_ad hq
    rw [KX0_len] at hk
    rw [e]
    exact hk1 _ (lt k hk) (off k hk)
  · have hq := b3.2 j _ (wl_in (by rw [KM_len]; exact hj))
    exact off i hi (e ▸ hq)
/-- what stays the same in the law's walk -/
def CL (p : Program) (s : State) (m : MethodId) (args : Array Value) (c : Code) (D : va_G) (cA : Nat → ClassId) (ev : EVa) : Prop := CallFix p m c code 4 s args lw_tbl RL ∧ va_K D vwCl (tysA cA) s ∧ EV ev (Alw s) s s.heap
theorem ws_goodL {y' : MethodName} {c' : ByteArray} {n' : Nat} {r' : Option FieldType} (h : Cond.code y' c' n' r' ∈ lw_ok) : GoodIn lw_tbl (WSX y' c' n' r') := by
  intro w hw
  rcases List.mem_cons.mp hw with e | e
  · subst e; exact ⟨ok_in h, ok_good h⟩
  · exact ⟨ok_in e, ok_good e⟩
theorem cvL (C : CL p s m args c D cA ev) (hcv : CV RL idx y2 bytes maxL n ret2) (hdc : dc ≤ 1000) : CallW room_1 s args RL y2.cls idx y2 bytes maxL ret2 (WSX y2 bytes maxL ret2) (RM dc mcc msc) mcc msc n := by
  obtain ⟨⟨h1, h2, h3, h4, h5⟩, hd, hm⟩ := hcv
  have hts := C.1.2.2.2.2
  exact ⟨callB_of n hts (ws_goodL h5) rfl rfl rfl (hts _ (ok_in h4)) (hts _ (ok_in h1)) hd ⟨by show dc + 1 ≤ 2048; omega, by show 8 + (maxL + 11) + 60 * dc ≤ 84000; omega⟩, hts _ (ok_in h2), hts _ (ok_in h3)⟩
theorem rl_XI (C : CL p s m args c D cA ev) (hw : W2 D cA ev s H locs hx ax gx hm am gm) (hcv : CV RL idx y2 bytes maxL n ret2) (hcls : RX6 = y2.cls)
    (hM : ∀ sz, Met l y2 (WSX y2 bytes maxL ret2) (RM dc mcc msc) (va_Pc (.ref (ax 0) :: As) (PX D cA ev hx ax (KX ++ []) gx sz)) (QI D cA ev hx ax (AX ax (KX ++ []).length sz) (KX ++ []) r gx') mcc msc (AX ax (KX ++ []).length sz))
    (hdc : dc ≤ 1000) (hn : As.length = n) (hst : st0 = As.reverse ++ .ref (ax 0) :: rest) (hls : ls.size = 4) (hro : (rest.map fun v => v.category).sum ≤ 8) (hd : decode code pc = .ok (.invokevirtual idx, 3)) (hf : cells + mcc ≤ 600000 ∧ slots + msc ≤ 7302250)
    (kk : ∀ (H1 : Heap) (locs1 : List Loc), W2 D cA ev s H1 locs1 hx ax gx' hm am gm → W p l e room_1 s m args below meth c H1 locs1 (cells + mcc) (slots + msc) Q (F0 m (pc + 3) ls (.int r :: rest))) : W p l e room_1 s m args below meth c H locs cells slots Q (F0 m pc ls st0) := by
  have hE := C.2.2
  have hK := C.2.1
  obtain ⟨hAA, hpre⟩ := (hw.X hE).pre hK
  have hrv := (hw.X hE).recv hK (kx0 []) (by decide)
  rw [show RR 6 = y2.cls from hcls] at hrv
  refine va_calli (va_runV (As := As) (rest := rest) C.1 (hM H.size) (cvL C hcv hdc) ⟨PX.blind, hrv, fun U hU hW => ⟨rfl, hpre U hU hW⟩⟩ rfl hn hls hst (lv_room hro) hd hf) hw.2.2.2.2.2.1 (fun q _ h => hAA q h) hAA (fun r1 u t H1 locs1 ht hvm hp hB hz1 hk1 hS1 => ?_)
  subst hp
  exact kk H1 locs1 (hw.postX hB ht hk1 hS1 hw.2.2.2.2.2.2.1)
theorem rl_XD (C : CL p s m args c D cA ev) (hw : W2 D cA ev s H locs hx ax gx hm am gm) (hcv : CV RL idx y2 bytes maxL n ret2) (hcls : RX6 = y2.cls)
    (hM : ∀ sz, Met l y2 (WSX y2 bytes maxL ret2) (RM dc mcc msc) (va_Pc (.ref (ax 0) :: As) (PX D cA ev hx ax (KX ++ []) gx sz)) (QID D cA ev (ax 0) (AX ax (KX ++ []).length sz) r gx') mcc msc (AX ax (KX ++ []).length sz))
    (hdc : dc ≤ 1000) (hn : As.length = n) (hst : st0 = As.reverse ++ .ref (ax 0) :: rest) (hls : ls.size = 4) (hro : (rest.map fun v => v.category).sum ≤ 8) (hd : decode code pc = .ok (.invokevirtual idx, 3)) (hf : cells + mcc ≤ 600000 ∧ slots + msc ≤ 7302250)
    (kk : ∀ (hx' : Nat → Nat → Value) (ax' : Nat → Nat) (H1 : Heap) (locs1 : List Loc), ax' 0 = ax 0 → W2 D cA ev s H1 locs1 hx' ax' gx' hm am gm → W p l e room_1 s m args below meth c H1 locs1 (cells + mcc) (slots + msc) Q (F0 m (pc + 3) ls (.int r :: rest))) : W p l e room_1 s m args below meth c H locs cells slots Q (F0 m pc ls st0) := by
  have hE := C.2.2
  have hK := C.2.1
  obtain ⟨hAA, hpre⟩ := (hw.X hE).pre hK
  have hrv := (hw.X hE).recv hK (kx0 []) (by decide)
  rw [show RR 6 = y2.cls from hcls] at hrv
  refine va_calli (va_runV (As := As) (rest := rest) C.1 (hM H.size) (cvL C hcv hdc) ⟨PX.blind, hrv, fun U hU hW => ⟨rfl, hpre U hU hW⟩⟩ rfl hn hls hst (lv_room hro) hd hf) hw.2.2.2.2.2.1 (fun q _ h => hAA q h) hAA (fun r1 u t H1 locs1 ht hvm hp hB hz1 hk1 hS1 => ?_)
  obtain ⟨rfl, hp2, hp3⟩ := hp
  exact kk _ _ H1 locs1 hp3 (hw.postX hB ht hk1 hS1 hp2)
theorem rl_MI (C : CL p s m args c D cA ev) (hw : W2 D cA ev s H locs hx ax gx hm am gm) (hcv : CV RL idx y2 bytes maxL n ret2) (hcls : RX7 = y2.cls)
    (hM : ∀ sz, Met l y2 (WSX y2 bytes maxL ret2) (RM dc mcc msc) (va_Pc (.ref (am 0) :: As) (PX D cA ev hm am KM gm sz)) (QI D cA ev hm am (AX am KM.length sz) KM r gm') mcc msc (AX am KM.length sz))
    (hdc : dc ≤ 1000) (hn : As.length = n) (hst : st0 = As.reverse ++ .ref (am 0) :: rest) (hls : ls.size = 4) (hro : (rest.map fun v => v.category).sum ≤ 8) (hd : decode code pc = .ok (.invokevirtual idx, 3)) (hf : cells + mcc ≤ 600000 ∧ slots + msc ≤ 7302250)
    (kk : ∀ (H1 : Heap) (locs1 : List Loc), W2 D cA ev s H1 locs1 hx ax gx hm am gm' → W p l e room_1 s m args below meth c H1 locs1 (cells + mcc) (slots + msc) Q (F0 m (pc + 3) ls (.int r :: rest))) : W p l e room_1 s m args below meth c H locs cells slots Q (F0 m pc ls st0) := by
  have hE := C.2.2
  have hK := C.2.1
  obtain ⟨hAA, hpre⟩ := (hw.M hE).pre hK
  have hrv := (hw.M hE).recv hK km0 (by decide)
  rw [show RR 7 = y2.cls from hcls] at hrv
  refine va_calli (va_runV (As := As) (rest := rest) C.1 (hM H.size) (cvL C hcv hdc) ⟨PX.blind, hrv, fun U hU hW => ⟨rfl, hpre U hU hW⟩⟩ rfl hn hls hst (lv_room hro) hd hf) hw.2.2.2.2.2.1 (fun q _ h => hAA q h) hAA (fun r1 u t H1 locs1 ht hvm hp hB hz1 hk1 hS1 => ?_)
  subst hp
  exact kk H1 locs1 (hw.postM hB ht hk1 hS1 hw.2.2.2.2.2.2.2)
/-- the script's cell i + k -/
theorem rl_sld {b L i k : Nat} {xs : Nat → Int32} {x : Int32} (C : CL p s m args c D cA ev) (hX : va_X b L xs s s.heap) (hbl : b < s.heap.size) (hw : W2 D cA ev s H locs hx ax gx hm am gm) (hk : i + k < L) (hL : L ≤ 3072) (hxi : x = nI (i + k)) (hd : decode code pc = .ok (.iaload, 1))
    (kk : W p l e room_1 s m args below meth c H locs cells slots Q (F0 m (pc + 1) ls (.int (xs (i + k)) :: rest))) : W p l e room_1 s m args below meth c H locs cells slots Q (F0 m pc ls (.int x :: .ref b :: rest)) := by
  subst hxi
  refine va_sld C.1.1 C.1.2.1 hX hbl (Nat.not_le.mpr hbl) hw.2.2.2.2.2.1 (vp_in_nI hk (by omega)) hd ?_
  rw [nI_clamp (by omega)]
  exact kk
end LAWROWS

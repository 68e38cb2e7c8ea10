def G0 : GM := (fun _ _ => 0, fun _ _ => 0)
def hr00 : Nat → Nat → Value := fun _ _ => .null
def ad00 : Nat → Nat := fun _ => 0
theorem kl17 : Cond.classLink RL 7 (RR 6) ∈ lw_ok := ok_t1 (i := 17) ⟨rfl, rfl⟩
theorem kl18 : Cond.instantiable (RR 6) (NN 6) ∈ lw_ok := ok_t1 (i := 18) ⟨rfl, rfl⟩
theorem kl1030 : Cond.classLink RL 10 (RR 7) ∈ lw_ok := ok_t5 (i := 70) ⟨rfl, rfl⟩
theorem kl794 : Cond.instantiable (RR 7) (NN 7) ∈ lw_ok := ok_t4 (i := 74) ⟨rfl, rfl⟩
section LAWI
variable {p : Program} {l : Launch} {e : Env} {s : State} {m : MethodId} {args : Array Value} {below : List Frame} {meth : Method} {c : Code} {H : Heap} {locs : List Loc} {cells slots mcc msc : Nat} {Q : State → Prop}
variable {D : va_G} {cA : Nat → ClassId} {ev : EVa} {hx hm : Nat → Nat → Value} {ax am : Nat → Nat} {gx gm gx' gm' : GM} {pc : Nat} {ls : Array Slot} {rest st0 As : List Value} {b : Nat}
variable {dc maxL n idx c0 : Nat} {y2 : MethodName} {bytes : ByteArray}
theorem rl_new {ws : va_W} (C : CL p s m args c D cA ev) (hP : va_P D vwCl ws H) (hD : va_D (Alw s) ws) (hS : va_S (Alw s) s.heap H locs) (h8 : c0 < 8) (hcl : Cond.classLink RL idx (RR c0) ∈ lw_ok) (hin : Cond.instantiable (RR c0) (NN c0) ∈ lw_ok) (hini : Cond.initialized (RR c0) ∈ lw_ok) (hc : cells + 1 ≤ 600000) (hs : slots + NN c0 ≤ 7302250) (hd : decode code pc = .ok (.new idx, 3))
    (kk : ∀ (q : Nat) (H1 : Heap), va_P D vwCl (ws ++ wl cA ev (un hr00 0) (up ad00 0 q) (zi G0 0) [(c0, NN c0)]) H1 → va_D (Alw s) (ws ++ wl cA ev (un hr00 0) (up ad00 0 q) (zi G0 0) [(c0, NN c0)]) → va_S (Alw s) s.heap H1 locs → W p l e room_1 s m args below meth c H1 locs (cells + 1) (slots + NN c0) Q (F0 m (pc + 3) ls (.ref q :: rest))) : W p l e room_1 s m args below meth c H locs cells slots Q (F0 m pc ls rest) := by
  obtain ⟨⟨hx, hb, hml, hown, hts⟩, hK, hE⟩ := C
  refine va_new (C := RR c0) (T := TT c0) (N := NN c0) (ci := c0) (fs := (List.range (NN c0)).map (fv ev (un hr00 0) (zi G0 0) c0 0)) hx hb hts (fun w h => ok_in (cl_in c0 h8 w h)) (YY c0) (cl_ty c0 h8) hown (hts _ (ok_in hcl)) (hts _ (ok_in hin)) (hts _ (ok_in hini)) hK hP hD hS (fun _ h => h) (cl_at c0 h8) (fun j hj => ?_) hc hs hd (fun q H1 q1 q2 q3 => ?_)
  · rw [dflt_ok c0 h8 j hj]
    simp only [vp_V, List.getD_eq_getElem?_getD, List.getElem?_map, List.getElem?_range hj, Option.map_some, Option.getD_some, fv, zi_at, zi_atl, un, svK, if_true]
    by_cases h0 : fk c0 j = 0
    · simp [h0]
    · by_cases h1 : fk c0 j = 1
      · simp [h1]
      · by_cases h2 : fk c0 j = 2
        · simp [h2]
        · simp [h0, h1, h2]
  · rw [← ent_obj (cA := cA) (n := NN c0) h8] at q1 q2
    have e : ([(q, ent cA ev (un hr00 0) (zi G0 0) (c0, NN c0) 0)] : va_W) = wl cA ev (un hr00 0) (up ad00 0 q) (zi G0 0) [(c0, NN c0)] := by simp [wl, up]
    rw [e] at q1 q2
    exact kk q H1 q1 q2 q3
/-- a constructor of a world that is one cell, beside another world -/
theorem rl_ctor {ws : va_W} {kl' : List (Nat × Nat)} {L : List (Nat × Nat × Nat)} {q n2 : Nat} {g' : GM} (C : CL p s m args c D cA ev) (hP : va_P D vwCl (ws ++ wl cA ev (un hr00 0) (up ad00 0 q) (zi G0 0) [(c0, NN c0)]) H) (hD : va_D (Alw s) (ws ++ wl cA ev (un hr00 0) (up ad00 0 q) (zi G0 0) [(c0, NN c0)])) (hS : va_S (Alw s) s.heap H locs) (hcv : CI RL idx y2 bytes maxL 0)
    (hM : ∀ sz, Met l y2 (WSX y2 bytes maxL none) (RM dc mcc msc) (va_Pc [.ref q] (PX D cA ev (un hr00 0) (up ad00 0 q) [(c0, NN c0)] (zi G0 0) sz)) (QVH D cA ev q n2 L (AX (up ad00 0 q) 1 sz) kl' g') mcc msc (AX (up ad00 0 q) 1 sz))
    (hdc : dc ≤ 1000) (hls : ls.size = 4) (hro : (rest.map fun v => v.category).sum ≤ 8) (hd : decode code pc = .ok (.invokespecial idx, 3)) (hf : cells + mcc ≤ 600000 ∧ slots + msc ≤ 7302250)
    (kk : ∀ (hr1 : Nat → Nat → Value) (ad1 : Nat → Nat) (H1 : Heap) (locs1 : List Loc), ad1 0 = q → HF hr1 ad1 n2 L → va_P D vwCl ws H1 → va_P D vwCl (wl cA ev hr1 ad1 g' kl') H1 → va_D (Alw s) ws → va_D (Alw s) (wl cA ev hr1 ad1 g' kl') → (∀ (i j : Nat) (x z : Nat × va_E), ws[i]? = some x → (wl cA ev hr1 ad1 g' kl')[j]? = some z → x.1 ≠ z.1) → va_S (Alw s) s.heap H1 locs1 → W p l e room_1 s m args below meth c H1 locs1 (cells + mcc) (slots + msc) Q (F0 m (pc + 3) ls rest)) : W p l e room_1 s m args below meth c H locs cells slots Q (F0 m pc ls (.ref q :: rest)) := by
  have hts := C.1.2.2.2.2
  have hK := C.2.1
  have hE := C.2.2
  have hw1 : (wl cA ev (un hr00 0) (up ad00 0 q) (zi G0 0) [(c0, NN c0)])[0]? = some (q, ent cA ev (un hr00 0) (zi G0 0) (c0, NN c0) 0) := by simp [wl, up]
  have hPl : va_P D vwCl ws H := fun k x hk => hP k x (by rw [List.getElem?_append_left (List.getElem?_eq_some_iff.mp hk).1]; exact hk)
  have hPr : va_P D vwCl (wl cA ev (un hr00 0) (up ad00 0 q) (zi G0 0) [(c0, NN c0)]) H := fun k x hk => hP (ws.length + k) x (by rw [List.getElem?_append_right (Nat.le_add_right _ _), Nat.add_sub_cancel_left]; exact hk)
  have hDl : va_D (Alw s) ws := ⟨fun i j x z hi hj ee => hD.1 i j x z (by rw [List.getElem?_append_left (List.getElem?_eq_some_iff.mp hi).1]; exact hi) (by rw [List.getElem?_append_left (List.getElem?_eq_some_iff.mp hj).1]; exact hj) ee, fun k x hk => hD.2 k x (by rw [List.getElem?_append_left (List.getElem?_eq_some_iff.mp hk).1]; exact hk)⟩
  have hDr : va_D (fun _ => True) (wl cA ev (un hr00 0) (up ad00 0 q) (zi G0 0) [(c0, NN c0)]) := ⟨fun i j x z hi hj ee => by
    have h := hD.1 (ws.length + i) (ws.length + j) x z (by rw [List.getElem?_append_right (Nat.le_add_right _ _), Nat.add_sub_cancel_left]; exact hi) (by rw [List.getElem?_append_right (Nat.le_add_right _ _), Nat.add_sub_cancel_left]; exact hj) ee
    omega, fun _ _ _ => trivial⟩
  have hqA : Alw s q := hD.2 (ws.length + 0) _ (by rw [List.getElem?_append_right (Nat.le_add_right _ _), Nat.add_sub_cancel_left]; exact hw1)
  have hqne : ∀ (i : Nat) (x : Nat × va_E), ws[i]? = some x → x.1 ≠ q := by
    intro i x hi ee
    have hl := (List.getElem?_eq_some_iff.mp hi).1
    have h := hD.1 i (ws.length + 0) x _ (by rw [List.getElem?_append_left hl]; exact hi) (by rw [List.getElem?_append_right (Nat.le_add_right _ _), Nat.add_sub_cancel_left]; exact hw1) ee
    omega
  have hAA : ∀ z, AX (up ad00 0 q) 1 H.size z → Alw s z := by
    intro z hz
    rcases hz with ⟨i, hi, rfl⟩ | h'
    · have : i = 0 := by omega
      subst this
      exact hqA
    · exact Nat.le_trans hS.1 h'
  obtain ⟨⟨h1, h2, h4, h5⟩, hdd, hm, hnm⟩ := hcv
  have cw : CallB room_1 s args RL idx y2 bytes maxL none (WSX y2 bytes maxL none) (RM dc mcc msc) mcc msc 0 ∧ y2.name = "<init>" ∧ (Cond.instanceMethod y2).before args s = true :=
    ⟨callB_of 0 hts (ws_goodL h5) rfl rfl rfl (hts _ (ok_in h4)) (hts _ (ok_in h1)) hdd ⟨by show dc + 1 ≤ 2048; omega, by show 8 + (maxL + 11) + 60 * dc ≤ 84000; omega⟩, hnm, hts _ (ok_in h2)⟩
  refine va_callv (va_runI (As := []) (rest := rest) C.1 (hM H.size) cw ⟨PX.blind, fun U hU hW => ⟨rfl, by rw [hU], by rw [hU]; exact hPr, va_K.moved hW.alike hK, hDr, by rw [hU]; exact hE.warm hW hAA (fun a h1 h2 => hS.2.1 a h1 h2)⟩⟩ rfl rfl hls rfl (lv_room hro) hd hf) hS (fun z _ h => hAA z h) hAA (fun u t H1 locs1 ht hvm hp hB hz1 hk1 hS1 => ?_)
  obtain ⟨b1, b2, b3⟩ := hB
  have off : ∀ (k : Nat) (x : Nat × va_E), ws[k]? = some x → x.1 < H.size ∧ ¬ AX (up ad00 0 q) 1 H.size x.1 := by
    intro k x hk
    have hlt := (hPl k x hk).lt
    refine ⟨hlt, fun hz => ?_⟩
    rcases hz with ⟨i, hi, ee⟩ | h'
    · have : i = 0 := by omega
      subst this
      exact hqne k x hk ee
    · omega
  refine kk u.1 u.2 H1 locs1 hp.2 hp.1 (hPl.kept (fun k x hk => hk1 _ (off k x hk).1 (off k x hk).2)) (by rw [← ht]; exact b1) hDl (b3.weaken (fun k x _ h => hAA _ h)) (fun i j x z hi hj ee => ?_) hS1
  exact (off i x hi).2 (by rw [ee]; exact b3.2 j z hj)
set_option maxHeartbeats 1000000 in
theorem law_init (C : CL p s m args c D cA ev) (hl : lv_has ls 4 [(0, .ref b)]) {gx0 gm0 : GM} (hX0 : F_X6_init (zi G0 0) = some gx0) (hM0 : F_X7_init (zi G0 0) = some gm0)
    (K : ∀ (H : Heap) (locs : List Loc) (hx : Nat → Nat → Value) (ax : Nat → Nat) (hm : Nat → Nat → Value) (am : Nat → Nat) (ls : Array Slot), W2 D cA ev s H locs hx ax gx0 hm am gm0 → lv_has ls 4 [(0, .ref b), (1, .ref (ax 0)), (2, .ref (am 0))] → W p l e room_1 s m args below meth c H locs 75 9215 Q (F0 m 16 ls [])) : W p l e room_1 s m args below meth c s.heap [] 0 0 Q (F0 m 0 ls []) := by
  have hS : va_S (Alw s) s.heap s.heap [] := va_S.rf
  have hP : va_P D vwCl [] s.heap := fun k q h => by simp at h
  have hD : va_D (Alw s) [] := ⟨fun i j p q h => by simp at h, fun k q h => by simp at h⟩
  refine rl_new (c0 := 6) C hP hD hS (by decide) kl17 kl18 kw1 (by decide) (by decide) dL_law_0 (fun q H hP hD hS => ?_)
  refine lv_dup C.1.1 C.1.2.1 dL_law_3 rfl ?_
  refine rl_ctor (dc := 12) (rest := [.ref q]) C hP hD hS iL_9 (fun sz => c_X6_init (a := q) rfl hX0 sz) (by decide) hl.1 (Nat.le_of_ble_eq_true rfl) dL_law_4 (by decide) (fun hx ax H locs h0 hF hP0 hPx hD0 hDx hdis hS => ?_)
  refine lv_astore_n (lv' := [(1, .ref q), (0, .ref b)]) C.1.1 C.1.2.1 dL_law_7 rfl hl (by decide) rfl (fun ls hl => ?_)
  refine rl_new (c0 := 7) C hPx hDx hS (by decide) kl1030 kl794 kw10 (by decide) (by decide) dL_law_8 (fun q2 H hP hD hS => ?_)
  refine lv_dup C.1.1 C.1.2.1 dL_law_11 rfl ?_
  refine rl_ctor (dc := 3) (rest := [.ref q2]) C hP hD hS iL_12 (fun sz => c_X7_init (a := q2) rfl hM0 sz) (by decide) hl.1 (Nat.le_of_ble_eq_true rfl) dL_law_12 (by decide) (fun hm am H locs h02 hF2 hPx hPm hDx hDm hdis hS => ?_)
  refine lv_astore_n (lv' := [(2, .ref q2), (1, .ref q), (0, .ref b)]) C.1.1 C.1.2.1 dL_law_15 rfl hl (by decide) rfl (fun ls hl => ?_)
  subst h0
  subst h02
  refine W.widen (k := 75) (n := 9215) (by decide) (by decide) ?_
  exact K H locs hx ax hm am ls ⟨hPx, hPm, hDx, hDm, fun i j hi hj ee => hdis i j _ _ (wl_in (by rw [KX0_len]; exact hi)) (wl_in (by rw [KM_len]; exact hj)) ee, hS, hx_of hF, hm_of hF2⟩ (lv_sub hl [2, 1, 0] rfl)
theorem sub6 {L : Nat} (hL : L ≤ 3072) : (nI L - 6).toInt = (L : Int) - 6 := pk_sub_toInt (a := L) (b := 6) (by omega) (by omega)
set_option maxHeartbeats 1000000 in
theorem law_loop {L : Nat} {xs : Nat → Int32} (C : CL p s m #[Value.ref b] c D cA ev) (hr : meth.sig.returnType = ret) (hlocks : meth.locks = false) (hX : va_X b L xs s s.heap) (hbl : b < s.heap.size) (hL : L ≤ 3072) :
    ∀ (n i : Nat) (cells slots : Nat) (gx gm : GM) (hx : Nat → Nat → Value) (ax : Nat → Nat) (hm : Nat → Nat → Value) (am : Nat → Nat) (H : Heap) (locs : List Loc) (ls : Array Slot), i + 6 * n ≤ L → L < i + 6 * n + 6 → cells + 2 * n ≤ 600000 → slots + 11 * n ≤ 7302250 → W2 D cA ev s H locs hx ax gx hm am gm → lv_has ls 4 [(0, .ref b), (1, .ref (ax 0)), (2, .ref (am 0)), (3, .int (nI i))] → lawF xs n i gx gm = some () →
      W p l e room_1 s m #[Value.ref b] below meth c H locs cells slots (lw_Z below #[Value.ref b] s) (F0 m 18 ls []) := by
  intro n
  induction n with
  | zero =>
    intro i cells slots gx gm hx ax hm am H locs ls h1 h2 hc hs hw hl h
    refine lv_iload_n C.1.1 C.1.2.1 dL_law_18 rfl (lv_at hl 3 rfl) ?_
    refine lv_aload_n C.1.1 C.1.2.1 dL_law_19 rfl (lv_at hl 0 rfl) ?_
    refine va_slen C.1.1 C.1.2.1 hX hbl (Nat.not_le.mpr hbl) hw.2.2.2.2.2.1 dL_law_20 ?_
    refine lv_bipush (v := 6) C.1.1 C.1.2.1 dL_law_21 (by decide) ?_
    refine lv_isub C.1.1 C.1.2.1 dL_law_23 ?_
    refine lv_icmp_gt (tgt := 670) C.1.1 C.1.2.1 dL_law_24 (by decide) (fun hq => ?_) (fun hq => ?_)
    · refine lv_iconst (v := 1) C.1.1 C.1.2.1 dL_law_670 (by decide) ?_
      refine va_forget (fun q hq => hw.2.2.2.2.2.1.2.2 q hq) ?_
      refine W.widen (k := 600000) (n := 7302250) (by omega) (by omega) ?_
      exact lw_ret C.1.1 C.1.2.1 hr hlocks dL_law_671
    · refine absurd ?_ hq
      rw [Int32.lt_iff_toInt_lt, show (Int32.ofNat L - 6).toInt = (L : Int) - 6 from sub6 hL, nI_toInt (by omega)]
      omega
  | succ n ih =>
    intro i cells slots gx gm hx ax hm am H locs ls h1 h2 hc hs hw hl h
    obtain ⟨⟨gx', gm'⟩, hop, h⟩ := bnd_some h
    refine lv_iload_n C.1.1 C.1.2.1 dL_law_18 rfl (lv_at hl 3 rfl) ?_
    refine lv_aload_n C.1.1 C.1.2.1 dL_law_19 rfl (lv_at hl 0 rfl) ?_
    refine va_slen C.1.1 C.1.2.1 hX hbl (Nat.not_le.mpr hbl) hw.2.2.2.2.2.1 dL_law_20 ?_
    refine lv_bipush (v := 6) C.1.1 C.1.2.1 dL_law_21 (by decide) ?_
    refine lv_isub C.1.1 C.1.2.1 dL_law_23 ?_
    refine lv_icmp_gt (tgt := 670) C.1.1 C.1.2.1 dL_law_24 (by decide) (fun hq => ?_) (fun hq => ?_)
    · refine absurd hq ?_
      rw [Int32.lt_iff_toInt_lt, show (Int32.ofNat L - 6).toInt = (L : Int) - 6 from sub6 hL, nI_toInt (by omega)]
      omega
    · refine lv_aload_n C.1.1 C.1.2.1 dL_law_27 rfl (lv_at hl 0 rfl) ?_
      refine lv_iload_n C.1.1 C.1.2.1 dL_law_28 rfl (lv_at hl 3 rfl) ?_
      refine rl_sld (i := i) (k := 0) C hX hbl hw (by omega) hL rfl dL_law_29 ?_
      refine lv_bipush (v := 31) C.1.1 C.1.2.1 dL_law_30 (by decide) ?_
      refine lv_iand C.1.1 C.1.2.1 dL_law_32 ?_
      refine lc_switch C hX hbl hL (by omega) hw hl hop (by omega) (by omega) (fun H locs hx ax' e0 hw => ?_)
      refine lv_iinc (v := nI i + 6) (lv' := [(3, .int (nI i + 6)), (0, .ref b), (1, .ref (ax 0)), (2, .ref (am 0))]) C.1.1 C.1.2.1 dL_law_664 hl (k := 3) rfl rfl (by decide) rfl (fun ls hl => ?_)
      refine lv_goto (tgt := 18) C.1.1 C.1.2.1 dL_law_667 (by decide) ?_
      rw [← e0] at hl
      have e6 : nI i + 6 = nI (i + 6) := nI_add i 6
      rw [e6] at hl
      exact ih (i + 6) (cells + 2) (slots + 11) gx' gm' hx ax' hm am H locs ls (by omega) (by omega) (by omega) (by omega) hw (lv_sub hl [1, 2, 3, 0] rfl) h
end LAWI

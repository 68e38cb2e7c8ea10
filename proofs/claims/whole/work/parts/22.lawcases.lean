section LAWC
variable {p : Program} {l : Launch} {e : Env} {s : State} {m : MethodId} {args : Array Value} {below : List Frame} {meth : Method} {c : Code} {H : Heap} {locs : List Loc} {cells slots : Nat} {Q : State → Prop}
variable {D : va_G} {cA : Nat → ClassId} {ev : EVa} {hx hm : Nat → Nat → Value} {ax am : Nat → Nat} {gx gm gx' gm' : GM} {ls : Array Slot} {b L i : Nat} {xs : Nat → Int32}
set_option maxHeartbeats 1000000 in
set_option maxRecDepth 100000 in
theorem lc_feed (C : CL p s m args c D cA ev) (hX : va_X b L xs s s.heap) (hbl : b < s.heap.size) (hL : L ≤ 3072) (hi : i + 6 ≤ L) (hw : W2 D cA ev s H locs hx ax gx hm am gm) (hl : lv_has ls 4 [(0, .ref b), (1, .ref (ax 0)), (2, .ref (am 0)), (3, .int (nI i))]) (h : op_feed (xs (i + 1)) (xs (i + 2)) (xs (i + 3)) (xs (i + 4)) (xs (i + 5)) gx gm = some (gx', gm')) (hcs : cells + 2 ≤ 600000) (hss : slots + 11 ≤ 7302250)
    (K : ∀ (H : Heap) (locs : List Loc) (hx : Nat → Nat → Value) (ax' : Nat → Nat), ax' 0 = ax 0 → W2 D cA ev s H locs hx ax' gx' hm am gm' → W p l e room_1 s m args below meth c H locs (cells + 2) (slots + 11) Q (F0 m 664 ls [])) : W p l e room_1 s m args below meth c H locs cells slots Q (F0 m 128 ls []) := by
  refine lv_aload_n C.1.1 C.1.2.1 dL_law_128 rfl (lv_at hl 1 rfl) ?_
  refine lv_aload_n C.1.1 C.1.2.1 dL_law_129 rfl (lv_at hl 0 rfl) ?_
  refine lv_iload_n C.1.1 C.1.2.1 dL_law_130 rfl (lv_at hl 3 rfl) ?_
  refine lv_iconst (v := 1) C.1.1 C.1.2.1 dL_law_131 (by decide) ?_
  refine lv_iadd C.1.1 C.1.2.1 dL_law_132 ?_
  refine rl_sld (i := i) (k := 1) C hX hbl hw (by omega) hL (nI_add i 1) dL_law_133 ?_
  refine lv_aload_n C.1.1 C.1.2.1 dL_law_134 rfl (lv_at hl 0 rfl) ?_
  refine lv_iload_n C.1.1 C.1.2.1 dL_law_135 rfl (lv_at hl 3 rfl) ?_
  refine lv_iconst (v := 2) C.1.1 C.1.2.1 dL_law_136 (by decide) ?_
  refine lv_iadd C.1.1 C.1.2.1 dL_law_137 ?_
  refine rl_sld (i := i) (k := 2) C hX hbl hw (by omega) hL (nI_add i 2) dL_law_138 ?_
  refine lv_aload_n C.1.1 C.1.2.1 dL_law_139 rfl (lv_at hl 0 rfl) ?_
  refine lv_iload_n C.1.1 C.1.2.1 dL_law_140 rfl (lv_at hl 3 rfl) ?_
  refine lv_iconst (v := 3) C.1.1 C.1.2.1 dL_law_141 (by decide) ?_
  refine lv_iadd C.1.1 C.1.2.1 dL_law_142 ?_
  refine rl_sld (i := i) (k := 3) C hX hbl hw (by omega) hL (nI_add i 3) dL_law_143 ?_
  refine lv_aload_n C.1.1 C.1.2.1 dL_law_144 rfl (lv_at hl 0 rfl) ?_
  refine lv_iload_n C.1.1 C.1.2.1 dL_law_145 rfl (lv_at hl 3 rfl) ?_
  refine lv_iconst (v := 4) C.1.1 C.1.2.1 dL_law_146 (by decide) ?_
  refine lv_iadd C.1.1 C.1.2.1 dL_law_147 ?_
  refine rl_sld (i := i) (k := 4) C hX hbl hw (by omega) hL (nI_add i 4) dL_law_148 ?_
  refine lv_aload_n C.1.1 C.1.2.1 dL_law_149 rfl (lv_at hl 0 rfl) ?_
  refine lv_iload_n C.1.1 C.1.2.1 dL_law_150 rfl (lv_at hl 3 rfl) ?_
  refine lv_iconst (v := 5) C.1.1 C.1.2.1 dL_law_151 (by decide) ?_
  refine lv_iadd C.1.1 C.1.2.1 dL_law_152 ?_
  refine rl_sld (i := i) (k := 5) C hX hbl hw (by omega) hL (nI_add i 5) dL_law_153 ?_
  obtain ⟨⟨r1, gx1⟩, hc, h⟩ := bnd_some h
  refine rl_XI (dc := 2) (As := [.int (xs (i + 1)), .int (xs (i + 2)), .int (xs (i + 3)), .int (xs (i + 4)), .int (xs (i + 5))]) (rest := []) C hw vL_13 rfl (fun sz => c_X6_feed hw.2.2.2.2.2.2.1 hc sz) (by decide) rfl rfl hl.1 (Nat.le_of_ble_eq_true rfl) dL_law_154 ⟨by omega, by omega⟩ (fun H locs hw => ?_)
  refine lv_aload_n C.1.1 C.1.2.1 dL_law_157 rfl (lv_at hl 2 rfl) ?_
  refine lv_aload_n C.1.1 C.1.2.1 dL_law_158 rfl (lv_at hl 0 rfl) ?_
  refine lv_iload_n C.1.1 C.1.2.1 dL_law_159 rfl (lv_at hl 3 rfl) ?_
  refine lv_iconst (v := 1) C.1.1 C.1.2.1 dL_law_160 (by decide) ?_
  refine lv_iadd C.1.1 C.1.2.1 dL_law_161 ?_
  refine rl_sld (i := i) (k := 1) C hX hbl hw (by omega) hL (nI_add i 1) dL_law_162 ?_
  refine lv_aload_n C.1.1 C.1.2.1 dL_law_163 rfl (lv_at hl 0 rfl) ?_
  refine lv_iload_n C.1.1 C.1.2.1 dL_law_164 rfl (lv_at hl 3 rfl) ?_
  refine lv_iconst (v := 2) C.1.1 C.1.2.1 dL_law_165 (by decide) ?_
  refine lv_iadd C.1.1 C.1.2.1 dL_law_166 ?_
  refine rl_sld (i := i) (k := 2) C hX hbl hw (by omega) hL (nI_add i 2) dL_law_167 ?_
  refine lv_aload_n C.1.1 C.1.2.1 dL_law_168 rfl (lv_at hl 0 rfl) ?_
  refine lv_iload_n C.1.1 C.1.2.1 dL_law_169 rfl (lv_at hl 3 rfl) ?_
  refine lv_iconst (v := 3) C.1.1 C.1.2.1 dL_law_170 (by decide) ?_
  refine lv_iadd C.1.1 C.1.2.1 dL_law_171 ?_
  refine rl_sld (i := i) (k := 3) C hX hbl hw (by omega) hL (nI_add i 3) dL_law_172 ?_
  refine lv_aload_n C.1.1 C.1.2.1 dL_law_173 rfl (lv_at hl 0 rfl) ?_
  refine lv_iload_n C.1.1 C.1.2.1 dL_law_174 rfl (lv_at hl 3 rfl) ?_
  refine lv_iconst (v := 4) C.1.1 C.1.2.1 dL_law_175 (by decide) ?_
  refine lv_iadd C.1.1 C.1.2.1 dL_law_176 ?_
  refine rl_sld (i := i) (k := 4) C hX hbl hw (by omega) hL (nI_add i 4) dL_law_177 ?_
  refine lv_aload_n C.1.1 C.1.2.1 dL_law_178 rfl (lv_at hl 0 rfl) ?_
  refine lv_iload_n C.1.1 C.1.2.1 dL_law_179 rfl (lv_at hl 3 rfl) ?_
  refine lv_iconst (v := 5) C.1.1 C.1.2.1 dL_law_180 (by decide) ?_
  refine lv_iadd C.1.1 C.1.2.1 dL_law_181 ?_
  refine rl_sld (i := i) (k := 5) C hX hbl hw (by omega) hL (nI_add i 5) dL_law_182 ?_
  obtain ⟨⟨r2, gm1⟩, hc, h⟩ := bnd_some h
  refine rl_MI (dc := 1) (As := [.int (xs (i + 1)), .int (xs (i + 2)), .int (xs (i + 3)), .int (xs (i + 4)), .int (xs (i + 5))]) (rest := [.int r1]) C hw vL_17 rfl (fun sz => c_X7_feed hw.2.2.2.2.2.2.2 hc sz) (by decide) rfl rfl hl.1 (Nat.le_of_ble_eq_true rfl) dL_law_183 ⟨by omega, by omega⟩ (fun H locs hw => ?_)
  refine lv_icmp_eq (tgt := 664) C.1.1 C.1.2.1 dL_law_186 (by decide) (fun hq => ?_) (fun hq => ?_)
  · replace h := ite_pos' h hq
    cases h
    refine W.widen (k := cells + 2) (n := slots + 11) (by omega) (by omega) ?_
    exact K _ _ _ _ rfl hw
  · replace h := ite_neg' h hq
    cases h
set_option maxHeartbeats 1000000 in
set_option maxRecDepth 100000 in
theorem lc_end (C : CL p s m args c D cA ev) (hX : va_X b L xs s s.heap) (hbl : b < s.heap.size) (hL : L ≤ 3072) (hi : i + 6 ≤ L) (hw : W2 D cA ev s H locs hx ax gx hm am gm) (hl : lv_has ls 4 [(0, .ref b), (1, .ref (ax 0)), (2, .ref (am 0)), (3, .int (nI i))]) (h : op_end (xs (i + 1)) (xs (i + 2)) (xs (i + 3)) (xs (i + 4)) (xs (i + 5)) gx gm = some (gx', gm')) (hcs : cells + 2 ≤ 600000) (hss : slots + 11 ≤ 7302250)
    (K : ∀ (H : Heap) (locs : List Loc) (hx : Nat → Nat → Value) (ax' : Nat → Nat), ax' 0 = ax 0 → W2 D cA ev s H locs hx ax' gx' hm am gm' → W p l e room_1 s m args below meth c H locs (cells + 2) (slots + 11) Q (F0 m 664 ls [])) : W p l e room_1 s m args below meth c H locs cells slots Q (F0 m 191 ls []) := by
  refine lv_aload_n C.1.1 C.1.2.1 dL_law_191 rfl (lv_at hl 1 rfl) ?_
  refine lv_aload_n C.1.1 C.1.2.1 dL_law_192 rfl (lv_at hl 0 rfl) ?_
  refine lv_iload_n C.1.1 C.1.2.1 dL_law_193 rfl (lv_at hl 3 rfl) ?_
  refine lv_iconst (v := 1) C.1.1 C.1.2.1 dL_law_194 (by decide) ?_
  refine lv_iadd C.1.1 C.1.2.1 dL_law_195 ?_
  refine rl_sld (i := i) (k := 1) C hX hbl hw (by omega) hL (nI_add i 1) dL_law_196 ?_
  obtain ⟨⟨r1, gx1⟩, hc, h⟩ := bnd_some h
  refine rl_XI (dc := 1) (As := [.int (xs (i + 1))]) (rest := []) C hw vL_18 rfl (fun sz => c_X6_end hw.2.2.2.2.2.2.1 hc sz) (by decide) rfl rfl hl.1 (Nat.le_of_ble_eq_true rfl) dL_law_197 ⟨by omega, by omega⟩ (fun H locs hw => ?_)
  refine lv_aload_n C.1.1 C.1.2.1 dL_law_200 rfl (lv_at hl 2 rfl) ?_
  refine lv_aload_n C.1.1 C.1.2.1 dL_law_201 rfl (lv_at hl 0 rfl) ?_
  refine lv_iload_n C.1.1 C.1.2.1 dL_law_202 rfl (lv_at hl 3 rfl) ?_
  refine lv_iconst (v := 1) C.1.1 C.1.2.1 dL_law_203 (by decide) ?_
  refine lv_iadd C.1.1 C.1.2.1 dL_law_204 ?_
  refine rl_sld (i := i) (k := 1) C hX hbl hw (by omega) hL (nI_add i 1) dL_law_205 ?_
  obtain ⟨⟨r2, gm1⟩, hc, h⟩ := bnd_some h
  refine rl_MI (dc := 1) (As := [.int (xs (i + 1))]) (rest := [.int r1]) C hw vL_22 rfl (fun sz => c_X7_end hw.2.2.2.2.2.2.2 hc sz) (by decide) rfl rfl hl.1 (Nat.le_of_ble_eq_true rfl) dL_law_206 ⟨by omega, by omega⟩ (fun H locs hw => ?_)
  refine lv_icmp_eq (tgt := 664) C.1.1 C.1.2.1 dL_law_209 (by decide) (fun hq => ?_) (fun hq => ?_)
  · replace h := ite_pos' h hq
    cases h
    refine W.widen (k := cells + 2) (n := slots + 11) (by omega) (by omega) ?_
    exact K _ _ _ _ rfl hw
  · replace h := ite_neg' h hq
    cases h
set_option maxHeartbeats 1000000 in
set_option maxRecDepth 100000 in
theorem lc_store (C : CL p s m args c D cA ev) (hX : va_X b L xs s s.heap) (hbl : b < s.heap.size) (hL : L ≤ 3072) (hi : i + 6 ≤ L) (hw : W2 D cA ev s H locs hx ax gx hm am gm) (hl : lv_has ls 4 [(0, .ref b), (1, .ref (ax 0)), (2, .ref (am 0)), (3, .int (nI i))]) (h : op_store (xs (i + 1)) (xs (i + 2)) (xs (i + 3)) (xs (i + 4)) (xs (i + 5)) gx gm = some (gx', gm')) (hcs : cells + 2 ≤ 600000) (hss : slots + 11 ≤ 7302250)
    (K : ∀ (H : Heap) (locs : List Loc) (hx : Nat → Nat → Value) (ax' : Nat → Nat), ax' 0 = ax 0 → W2 D cA ev s H locs hx ax' gx' hm am gm' → W p l e room_1 s m args below meth c H locs (cells + 2) (slots + 11) Q (F0 m 664 ls [])) : W p l e room_1 s m args below meth c H locs cells slots Q (F0 m 214 ls []) := by
  refine lv_aload_n C.1.1 C.1.2.1 dL_law_214 rfl (lv_at hl 1 rfl) ?_
  obtain ⟨⟨r1, gx1⟩, hc, h⟩ := bnd_some h
  refine rl_XD (dc := 40) (As := []) (rest := []) C hw vL_23 rfl (fun sz => c_X6_store hw.2.2.2.2.2.2.1 hc sz) (by decide) rfl rfl hl.1 (Nat.le_of_ble_eq_true rfl) dL_law_215 ⟨by omega, by omega⟩ (fun hx ax1 H locs e0 hw => ?_)
  refine lv_aload_n C.1.1 C.1.2.1 dL_law_218 rfl (lv_at hl 2 rfl) ?_
  obtain ⟨⟨r2, gm1⟩, hc, h⟩ := bnd_some h
  refine rl_MI (dc := 6) (As := []) (rest := [.int r1]) C hw vL_27 rfl (fun sz => c_X7_store hw.2.2.2.2.2.2.2 hc sz) (by decide) rfl rfl hl.1 (Nat.le_of_ble_eq_true rfl) dL_law_219 ⟨by omega, by omega⟩ (fun H locs hw => ?_)
  refine lv_icmp_eq (tgt := 664) C.1.1 C.1.2.1 dL_law_222 (by decide) (fun hq => ?_) (fun hq => ?_)
  · replace h := ite_pos' h hq
    cases h
    refine W.widen (k := cells + 2) (n := slots + 11) (by omega) (by omega) ?_
    exact K _ _ _ _ e0 hw
  · replace h := ite_neg' h hq
    cases h
set_option maxHeartbeats 1000000 in
set_option maxRecDepth 100000 in
theorem lc_wishes (C : CL p s m args c D cA ev) (hX : va_X b L xs s s.heap) (hbl : b < s.heap.size) (hL : L ≤ 3072) (hi : i + 6 ≤ L) (hw : W2 D cA ev s H locs hx ax gx hm am gm) (hl : lv_has ls 4 [(0, .ref b), (1, .ref (ax 0)), (2, .ref (am 0)), (3, .int (nI i))]) (h : op_wishes (xs (i + 1)) (xs (i + 2)) (xs (i + 3)) (xs (i + 4)) (xs (i + 5)) gx gm = some (gx', gm')) (hcs : cells + 2 ≤ 600000) (hss : slots + 11 ≤ 7302250)
    (K : ∀ (H : Heap) (locs : List Loc) (hx : Nat → Nat → Value) (ax' : Nat → Nat), ax' 0 = ax 0 → W2 D cA ev s H locs hx ax' gx' hm am gm' → W p l e room_1 s m args below meth c H locs (cells + 2) (slots + 11) Q (F0 m 664 ls [])) : W p l e room_1 s m args below meth c H locs cells slots Q (F0 m 227 ls []) := by
  refine lv_aload_n C.1.1 C.1.2.1 dL_law_227 rfl (lv_at hl 1 rfl) ?_
  obtain ⟨⟨r1, gx1⟩, hc, h⟩ := bnd_some h
  refine rl_XD (dc := 410) (As := []) (rest := []) C hw vL_28 rfl (fun sz => c_X6_wishes hw.2.2.2.2.2.2.1 hc sz) (by decide) rfl rfl hl.1 (Nat.le_of_ble_eq_true rfl) dL_law_228 ⟨by omega, by omega⟩ (fun hx ax1 H locs e0 hw => ?_)
  refine lv_aload_n C.1.1 C.1.2.1 dL_law_231 rfl (lv_at hl 2 rfl) ?_
  obtain ⟨⟨r2, gm1⟩, hc, h⟩ := bnd_some h
  refine rl_MI (dc := 7) (As := []) (rest := [.int r1]) C hw vL_31 rfl (fun sz => c_X7_wishes hw.2.2.2.2.2.2.2 hc sz) (by decide) rfl rfl hl.1 (Nat.le_of_ble_eq_true rfl) dL_law_232 ⟨by omega, by omega⟩ (fun H locs hw => ?_)
  refine lv_icmp_eq (tgt := 664) C.1.1 C.1.2.1 dL_law_235 (by decide) (fun hq => ?_) (fun hq => ?_)
  · replace h := ite_pos' h hq
    cases h
    refine W.widen (k := cells + 2) (n := slots + 11) (by omega) (by omega) ?_
    exact K _ _ _ _ e0 hw
  · replace h := ite_neg' h hq
    cases h
set_option maxHeartbeats 1000000 in
set_option maxRecDepth 100000 in
theorem lc_fault (C : CL p s m args c D cA ev) (hX : va_X b L xs s s.heap) (hbl : b < s.heap.size) (hL : L ≤ 3072) (hi : i + 6 ≤ L) (hw : W2 D cA ev s H locs hx ax gx hm am gm) (hl : lv_has ls 4 [(0, .ref b), (1, .ref (ax 0)), (2, .ref (am 0)), (3, .int (nI i))]) (h : op_fault (xs (i + 1)) (xs (i + 2)) (xs (i + 3)) (xs (i + 4)) (xs (i + 5)) gx gm = some (gx', gm')) (hcs : cells + 2 ≤ 600000) (hss : slots + 11 ≤ 7302250)
    (K : ∀ (H : Heap) (locs : List Loc) (hx : Nat → Nat → Value) (ax' : Nat → Nat), ax' 0 = ax 0 → W2 D cA ev s H locs hx ax' gx' hm am gm' → W p l e room_1 s m args below meth c H locs (cells + 2) (slots + 11) Q (F0 m 664 ls [])) : W p l e room_1 s m args below meth c H locs cells slots Q (F0 m 240 ls []) := by
  refine lv_aload_n C.1.1 C.1.2.1 dL_law_240 rfl (lv_at hl 1 rfl) ?_
  refine lv_aload_n C.1.1 C.1.2.1 dL_law_241 rfl (lv_at hl 0 rfl) ?_
  refine lv_iload_n C.1.1 C.1.2.1 dL_law_242 rfl (lv_at hl 3 rfl) ?_
  refine lv_iconst (v := 1) C.1.1 C.1.2.1 dL_law_243 (by decide) ?_
  refine lv_iadd C.1.1 C.1.2.1 dL_law_244 ?_
  refine rl_sld (i := i) (k := 1) C hX hbl hw (by omega) hL (nI_add i 1) dL_law_245 ?_
  obtain ⟨r1, hc, h⟩ := bnd_some h
  refine rl_XI (dc := 1) (As := [.int (xs (i + 1))]) (rest := []) C hw vL_32 rfl (fun sz => c_X6_fault hw.2.2.2.2.2.2.1 hc sz) (by decide) rfl rfl hl.1 (Nat.le_of_ble_eq_true rfl) dL_law_246 ⟨by omega, by omega⟩ (fun H locs hw => ?_)
  refine lv_aload_n C.1.1 C.1.2.1 dL_law_249 rfl (lv_at hl 2 rfl) ?_
  refine lv_aload_n C.1.1 C.1.2.1 dL_law_250 rfl (lv_at hl 0 rfl) ?_
  refine lv_iload_n C.1.1 C.1.2.1 dL_law_251 rfl (lv_at hl 3 rfl) ?_
  refine lv_iconst (v := 1) C.1.1 C.1.2.1 dL_law_252 (by decide) ?_
  refine lv_iadd C.1.1 C.1.2.1 dL_law_253 ?_
  refine rl_sld (i := i) (k := 1) C hX hbl hw (by omega) hL (nI_add i 1) dL_law_254 ?_
  obtain ⟨r2, hc, h⟩ := bnd_some h
  refine rl_MI (dc := 1) (As := [.int (xs (i + 1))]) (rest := [.int r1]) C hw vL_35 rfl (fun sz => c_X7_fault hw.2.2.2.2.2.2.2 hc sz) (by decide) rfl rfl hl.1 (Nat.le_of_ble_eq_true rfl) dL_law_255 ⟨by omega, by omega⟩ (fun H locs hw => ?_)
  refine lv_icmp_eq (tgt := 664) C.1.1 C.1.2.1 dL_law_258 (by decide) (fun hq => ?_) (fun hq => ?_)
  · replace h := ite_pos' h hq
    cases h
    refine W.widen (k := cells + 2) (n := slots + 11) (by omega) (by omega) ?_
    exact K _ _ _ _ rfl hw
  · replace h := ite_neg' h hq
    cases h
set_option maxHeartbeats 1000000 in
set_option maxRecDepth 100000 in
theorem lc_row (C : CL p s m args c D cA ev) (hX : va_X b L xs s s.heap) (hbl : b < s.heap.size) (hL : L ≤ 3072) (hi : i + 6 ≤ L) (hw : W2 D cA ev s H locs hx ax gx hm am gm) (hl : lv_has ls 4 [(0, .ref b), (1, .ref (ax 0)), (2, .ref (am 0)), (3, .int (nI i))]) (h : op_row (xs (i + 1)) (xs (i + 2)) (xs (i + 3)) (xs (i + 4)) (xs (i + 5)) gx gm = some (gx', gm')) (hcs : cells + 2 ≤ 600000) (hss : slots + 11 ≤ 7302250)
    (K : ∀ (H : Heap) (locs : List Loc) (hx : Nat → Nat → Value) (ax' : Nat → Nat), ax' 0 = ax 0 → W2 D cA ev s H locs hx ax' gx' hm am gm' → W p l e room_1 s m args below meth c H locs (cells + 2) (slots + 11) Q (F0 m 664 ls [])) : W p l e room_1 s m args below meth c H locs cells slots Q (F0 m 263 ls []) := by
  refine lv_aload_n C.1.1 C.1.2.1 dL_law_263 rfl (lv_at hl 1 rfl) ?_
  refine lv_aload_n C.1.1 C.1.2.1 dL_law_264 rfl (lv_at hl 0 rfl) ?_
  refine lv_iload_n C.1.1 C.1.2.1 dL_law_265 rfl (lv_at hl 3 rfl) ?_
  refine lv_iconst (v := 1) C.1.1 C.1.2.1 dL_law_266 (by decide) ?_
  refine lv_iadd C.1.1 C.1.2.1 dL_law_267 ?_
  refine rl_sld (i := i) (k := 1) C hX hbl hw (by omega) hL (nI_add i 1) dL_law_268 ?_
  refine lv_aload_n C.1.1 C.1.2.1 dL_law_269 rfl (lv_at hl 0 rfl) ?_
  refine lv_iload_n C.1.1 C.1.2.1 dL_law_270 rfl (lv_at hl 3 rfl) ?_
  refine lv_iconst (v := 2) C.1.1 C.1.2.1 dL_law_271 (by decide) ?_
  refine lv_iadd C.1.1 C.1.2.1 dL_law_272 ?_
  refine rl_sld (i := i) (k := 2) C hX hbl hw (by omega) hL (nI_add i 2) dL_law_273 ?_
  obtain ⟨r1, hc, h⟩ := bnd_some h
  refine rl_XI (dc := 2) (As := [.int (xs (i + 1)), .int (xs (i + 2))]) (rest := []) C hw vL_36 rfl (fun sz => c_X6_row hw.2.2.2.2.2.2.1 hc sz) (by decide) rfl rfl hl.1 (Nat.le_of_ble_eq_true rfl) dL_law_274 ⟨by omega, by omega⟩ (fun H locs hw => ?_)
  refine lv_aload_n C.1.1 C.1.2.1 dL_law_277 rfl (lv_at hl 2 rfl) ?_
  refine lv_aload_n C.1.1 C.1.2.1 dL_law_278 rfl (lv_at hl 0 rfl) ?_
  refine lv_iload_n C.1.1 C.1.2.1 dL_law_279 rfl (lv_at hl 3 rfl) ?_
  refine lv_iconst (v := 1) C.1.1 C.1.2.1 dL_law_280 (by decide) ?_
  refine lv_iadd C.1.1 C.1.2.1 dL_law_281 ?_
  refine rl_sld (i := i) (k := 1) C hX hbl hw (by omega) hL (nI_add i 1) dL_law_282 ?_
  refine lv_aload_n C.1.1 C.1.2.1 dL_law_283 rfl (lv_at hl 0 rfl) ?_
  refine lv_iload_n C.1.1 C.1.2.1 dL_law_284 rfl (lv_at hl 3 rfl) ?_
  refine lv_iconst (v := 2) C.1.1 C.1.2.1 dL_law_285 (by decide) ?_
  refine lv_iadd C.1.1 C.1.2.1 dL_law_286 ?_
  refine rl_sld (i := i) (k := 2) C hX hbl hw (by omega) hL (nI_add i 2) dL_law_287 ?_
  obtain ⟨r2, hc, h⟩ := bnd_some h
  refine rl_MI (dc := 2) (As := [.int (xs (i + 1)), .int (xs (i + 2))]) (rest := [.int r1]) C hw vL_40 rfl (fun sz => c_X7_row hw.2.2.2.2.2.2.2 hc sz) (by decide) rfl rfl hl.1 (Nat.le_of_ble_eq_true rfl) dL_law_288 ⟨by omega, by omega⟩ (fun H locs hw => ?_)
  refine lv_icmp_eq (tgt := 664) C.1.1 C.1.2.1 dL_law_291 (by decide) (fun hq => ?_) (fun hq => ?_)
  · replace h := ite_pos' h hq
    cases h
    refine W.widen (k := cells + 2) (n := slots + 11) (by omega) (by omega) ?_
    exact K _ _ _ _ rfl hw
  · replace h := ite_neg' h hq
    cases h
set_option maxHeartbeats 1000000 in
set_option maxRecDepth 100000 in
theorem lc_value (C : CL p s m args c D cA ev) (hX : va_X b L xs s s.heap) (hbl : b < s.heap.size) (hL : L ≤ 3072) (hi : i + 6 ≤ L) (hw : W2 D cA ev s H locs hx ax gx hm am gm) (hl : lv_has ls 4 [(0, .ref b), (1, .ref (ax 0)), (2, .ref (am 0)), (3, .int (nI i))]) (h : op_value (xs (i + 1)) (xs (i + 2)) (xs (i + 3)) (xs (i + 4)) (xs (i + 5)) gx gm = some (gx', gm')) (hcs : cells + 2 ≤ 600000) (hss : slots + 11 ≤ 7302250)
    (K : ∀ (H : Heap) (locs : List Loc) (hx : Nat → Nat → Value) (ax' : Nat → Nat), ax' 0 = ax 0 → W2 D cA ev s H locs hx ax' gx' hm am gm' → W p l e room_1 s m args below meth c H locs (cells + 2) (slots + 11) Q (F0 m 664 ls [])) : W p l e room_1 s m args below meth c H locs cells slots Q (F0 m 296 ls []) := by
  refine lv_aload_n C.1.1 C.1.2.1 dL_law_296 rfl (lv_at hl 1 rfl) ?_
  refine lv_aload_n C.1.1 C.1.2.1 dL_law_297 rfl (lv_at hl 0 rfl) ?_
  refine lv_iload_n C.1.1 C.1.2.1 dL_law_298 rfl (lv_at hl 3 rfl) ?_
  refine lv_iconst (v := 1) C.1.1 C.1.2.1 dL_law_299 (by decide) ?_
  refine lv_iadd C.1.1 C.1.2.1 dL_law_300 ?_
  refine rl_sld (i := i) (k := 1) C hX hbl hw (by omega) hL (nI_add i 1) dL_law_301 ?_
  refine lv_aload_n C.1.1 C.1.2.1 dL_law_302 rfl (lv_at hl 0 rfl) ?_
  refine lv_iload_n C.1.1 C.1.2.1 dL_law_303 rfl (lv_at hl 3 rfl) ?_
  refine lv_iconst (v := 2) C.1.1 C.1.2.1 dL_law_304 (by decide) ?_
  refine lv_iadd C.1.1 C.1.2.1 dL_law_305 ?_
  refine rl_sld (i := i) (k := 2) C hX hbl hw (by omega) hL (nI_add i 2) dL_law_306 ?_
  obtain ⟨r1, hc, h⟩ := bnd_some h
  refine rl_XI (dc := 2) (As := [.int (xs (i + 1)), .int (xs (i + 2))]) (rest := []) C hw vL_41 rfl (fun sz => c_X6_value hw.2.2.2.2.2.2.1 hc sz) (by decide) rfl rfl hl.1 (Nat.le_of_ble_eq_true rfl) dL_law_307 ⟨by omega, by omega⟩ (fun H locs hw => ?_)
  refine lv_aload_n C.1.1 C.1.2.1 dL_law_310 rfl (lv_at hl 2 rfl) ?_
  refine lv_aload_n C.1.1 C.1.2.1 dL_law_311 rfl (lv_at hl 0 rfl) ?_
  refine lv_iload_n C.1.1 C.1.2.1 dL_law_312 rfl (lv_at hl 3 rfl) ?_
  refine lv_iconst (v := 1) C.1.1 C.1.2.1 dL_law_313 (by decide) ?_
  refine lv_iadd C.1.1 C.1.2.1 dL_law_314 ?_
  refine rl_sld (i := i) (k := 1) C hX hbl hw (by omega) hL (nI_add i 1) dL_law_315 ?_
  refine lv_aload_n C.1.1 C.1.2.1 dL_law_316 rfl (lv_at hl 0 rfl) ?_
  refine lv_iload_n C.1.1 C.1.2.1 dL_law_317 rfl (lv_at hl 3 rfl) ?_
  refine lv_iconst (v := 2) C.1.1 C.1.2.1 dL_law_318 (by decide) ?_
  refine lv_iadd C.1.1 C.1.2.1 dL_law_319 ?_
  refine rl_sld (i := i) (k := 2) C hX hbl hw (by omega) hL (nI_add i 2) dL_law_320 ?_
  obtain ⟨r2, hc, h⟩ := bnd_some h
  refine rl_MI (dc := 3) (As := [.int (xs (i + 1)), .int (xs (i + 2))]) (rest := [.int r1]) C hw vL_44 rfl (fun sz => c_X7_value hw.2.2.2.2.2.2.2 hc sz) (by decide) rfl rfl hl.1 (Nat.le_of_ble_eq_true rfl) dL_law_321 ⟨by omega, by omega⟩ (fun H locs hw => ?_)
  refine lv_icmp_eq (tgt := 664) C.1.1 C.1.2.1 dL_law_324 (by decide) (fun hq => ?_) (fun hq => ?_)
  · replace h := ite_pos' h hq
    cases h
    refine W.widen (k := cells + 2) (n := slots + 11) (by omega) (by omega) ?_
    exact K _ _ _ _ rfl hw
  · replace h := ite_neg' h hq
    cases h
set_option maxHeartbeats 1000000 in
set_option maxRecDepth 100000 in
theorem lc_holds (C : CL p s m args c D cA ev) (hX : va_X b L xs s s.heap) (hbl : b < s.heap.size) (hL : L ≤ 3072) (hi : i + 6 ≤ L) (hw : W2 D cA ev s H locs hx ax gx hm am gm) (hl : lv_has ls 4 [(0, .ref b), (1, .ref (ax 0)), (2, .ref (am 0)), (3, .int (nI i))]) (h : op_holds (xs (i + 1)) (xs (i + 2)) (xs (i + 3)) (xs (i + 4)) (xs (i + 5)) gx gm = some (gx', gm')) (hcs : cells + 2 ≤ 600000) (hss : slots + 11 ≤ 7302250)
    (K : ∀ (H : Heap) (locs : List Loc) (hx : Nat → Nat → Value) (ax' : Nat → Nat), ax' 0 = ax 0 → W2 D cA ev s H locs hx ax' gx' hm am gm' → W p l e room_1 s m args below meth c H locs (cells + 2) (slots + 11) Q (F0 m 664 ls [])) : W p l e room_1 s m args below meth c H locs cells slots Q (F0 m 329 ls []) := by
  refine lv_aload_n C.1.1 C.1.2.1 dL_law_329 rfl (lv_at hl 1 rfl) ?_
  refine lv_aload_n C.1.1 C.1.2.1 dL_law_330 rfl (lv_at hl 0 rfl) ?_
  refine lv_iload_n C.1.1 C.1.2.1 dL_law_331 rfl (lv_at hl 3 rfl) ?_
  refine lv_iconst (v := 1) C.1.1 C.1.2.1 dL_law_332 (by decide) ?_
  refine lv_iadd C.1.1 C.1.2.1 dL_law_333 ?_
  refine rl_sld (i := i) (k := 1) C hX hbl hw (by omega) hL (nI_add i 1) dL_law_334 ?_
  refine lv_aload_n C.1.1 C.1.2.1 dL_law_335 rfl (lv_at hl 0 rfl) ?_
  refine lv_iload_n C.1.1 C.1.2.1 dL_law_336 rfl (lv_at hl 3 rfl) ?_
  refine lv_iconst (v := 2) C.1.1 C.1.2.1 dL_law_337 (by decide) ?_
  refine lv_iadd C.1.1 C.1.2.1 dL_law_338 ?_
  refine rl_sld (i := i) (k := 2) C hX hbl hw (by omega) hL (nI_add i 2) dL_law_339 ?_
  obtain ⟨r1, hc, h⟩ := bnd_some h
  refine rl_XI (dc := 2) (As := [.int (xs (i + 1)), .int (xs (i + 2))]) (rest := []) C hw vL_45 rfl (fun sz => c_X6_holds hw.2.2.2.2.2.2.1 hc sz) (by decide) rfl rfl hl.1 (Nat.le_of_ble_eq_true rfl) dL_law_340 ⟨by omega, by omega⟩ (fun H locs hw => ?_)
  refine lv_aload_n C.1.1 C.1.2.1 dL_law_343 rfl (lv_at hl 2 rfl) ?_
  refine lv_aload_n C.1.1 C.1.2.1 dL_law_344 rfl (lv_at hl 0 rfl) ?_
  refine lv_iload_n C.1.1 C.1.2.1 dL_law_345 rfl (lv_at hl 3 rfl) ?_
  refine lv_iconst (v := 1) C.1.1 C.1.2.1 dL_law_346 (by decide) ?_
  refine lv_iadd C.1.1 C.1.2.1 dL_law_347 ?_
  refine rl_sld (i := i) (k := 1) C hX hbl hw (by omega) hL (nI_add i 1) dL_law_348 ?_
  refine lv_aload_n C.1.1 C.1.2.1 dL_law_349 rfl (lv_at hl 0 rfl) ?_
  refine lv_iload_n C.1.1 C.1.2.1 dL_law_350 rfl (lv_at hl 3 rfl) ?_
  refine lv_iconst (v := 2) C.1.1 C.1.2.1 dL_law_351 (by decide) ?_
  refine lv_iadd C.1.1 C.1.2.1 dL_law_352 ?_
  refine rl_sld (i := i) (k := 2) C hX hbl hw (by omega) hL (nI_add i 2) dL_law_353 ?_
  obtain ⟨⟨r2, gm1⟩, hc, h⟩ := bnd_some h
  refine rl_MI (dc := 5) (As := [.int (xs (i + 1)), .int (xs (i + 2))]) (rest := [.int r1]) C hw vL_48 rfl (fun sz => c_X7_holds hw.2.2.2.2.2.2.2 hc sz) (by decide) rfl rfl hl.1 (Nat.le_of_ble_eq_true rfl) dL_law_354 ⟨by omega, by omega⟩ (fun H locs hw => ?_)
  refine lv_icmp_eq (tgt := 664) C.1.1 C.1.2.1 dL_law_357 (by decide) (fun hq => ?_) (fun hq => ?_)
  · replace h := ite_pos' h hq
    cases h
    refine W.widen (k := cells + 2) (n := slots + 11) (by omega) (by omega) ?_
    exact K _ _ _ _ rfl hw
  · replace h := ite_neg' h hq
    cases h
set_option maxHeartbeats 1000000 in
set_option maxRecDepth 100000 in
theorem lc_gone (C : CL p s m args c D cA ev) (hX : va_X b L xs s s.heap) (hbl : b < s.heap.size) (hL : L ≤ 3072) (hi : i + 6 ≤ L) (hw : W2 D cA ev s H locs hx ax gx hm am gm) (hl : lv_has ls 4 [(0, .ref b), (1, .ref (ax 0)), (2, .ref (am 0)), (3, .int (nI i))]) (h : op_gone (xs (i + 1)) (xs (i + 2)) (xs (i + 3)) (xs (i + 4)) (xs (i + 5)) gx gm = some (gx', gm')) (hcs : cells + 2 ≤ 600000) (hss : slots + 11 ≤ 7302250)
    (K : ∀ (H : Heap) (locs : List Loc) (hx : Nat → Nat → Value) (ax' : Nat → Nat), ax' 0 = ax 0 → W2 D cA ev s H locs hx ax' gx' hm am gm' → W p l e room_1 s m args below meth c H locs (cells + 2) (slots + 11) Q (F0 m 664 ls [])) : W p l e room_1 s m args below meth c H locs cells slots Q (F0 m 362 ls []) := by
  refine lv_aload_n C.1.1 C.1.2.1 dL_law_362 rfl (lv_at hl 1 rfl) ?_
  refine lv_aload_n C.1.1 C.1.2.1 dL_law_363 rfl (lv_at hl 0 rfl) ?_
  refine lv_iload_n C.1.1 C.1.2.1 dL_law_364 rfl (lv_at hl 3 rfl) ?_
  refine lv_iconst (v := 1) C.1.1 C.1.2.1 dL_law_365 (by decide) ?_
  refine lv_iadd C.1.1 C.1.2.1 dL_law_366 ?_
  refine rl_sld (i := i) (k := 1) C hX hbl hw (by omega) hL (nI_add i 1) dL_law_367 ?_
  obtain ⟨⟨r1, gx1⟩, hc, h⟩ := bnd_some h
  refine rl_XI (dc := 3) (As := [.int (xs (i + 1))]) (rest := []) C hw vL_49 rfl (fun sz => c_X6_gone hw.2.2.2.2.2.2.1 hc sz) (by decide) rfl rfl hl.1 (Nat.le_of_ble_eq_true rfl) dL_law_368 ⟨by omega, by omega⟩ (fun H locs hw => ?_)
  refine lv_aload_n C.1.1 C.1.2.1 dL_law_371 rfl (lv_at hl 2 rfl) ?_
  refine lv_aload_n C.1.1 C.1.2.1 dL_law_372 rfl (lv_at hl 0 rfl) ?_
  refine lv_iload_n C.1.1 C.1.2.1 dL_law_373 rfl (lv_at hl 3 rfl) ?_
  refine lv_iconst (v := 1) C.1.1 C.1.2.1 dL_law_374 (by decide) ?_
  refine lv_iadd C.1.1 C.1.2.1 dL_law_375 ?_
  refine rl_sld (i := i) (k := 1) C hX hbl hw (by omega) hL (nI_add i 1) dL_law_376 ?_
  obtain ⟨⟨r2, gm1⟩, hc, h⟩ := bnd_some h
  refine rl_MI (dc := 6) (As := [.int (xs (i + 1))]) (rest := [.int r1]) C hw vL_53 rfl (fun sz => c_X7_gone hw.2.2.2.2.2.2.2 hc sz) (by decide) rfl rfl hl.1 (Nat.le_of_ble_eq_true rfl) dL_law_377 ⟨by omega, by omega⟩ (fun H locs hw => ?_)
  refine lv_icmp_eq (tgt := 664) C.1.1 C.1.2.1 dL_law_380 (by decide) (fun hq => ?_) (fun hq => ?_)
  · replace h := ite_pos' h hq
    cases h
    refine W.widen (k := cells + 2) (n := slots + 11) (by omega) (by omega) ?_
    exact K _ _ _ _ rfl hw
  · replace h := ite_neg' h hq
    cases h
set_option maxHeartbeats 1000000 in
set_option maxRecDepth 100000 in
theorem lc_least (C : CL p s m args c D cA ev) (hX : va_X b L xs s s.heap) (hbl : b < s.heap.size) (hL : L ≤ 3072) (hi : i + 6 ≤ L) (hw : W2 D cA ev s H locs hx ax gx hm am gm) (hl : lv_has ls 4 [(0, .ref b), (1, .ref (ax 0)), (2, .ref (am 0)), (3, .int (nI i))]) (h : op_least (xs (i + 1)) (xs (i + 2)) (xs (i + 3)) (xs (i + 4)) (xs (i + 5)) gx gm = some (gx', gm')) (hcs : cells + 2 ≤ 600000) (hss : slots + 11 ≤ 7302250)
    (K : ∀ (H : Heap) (locs : List Loc) (hx : Nat → Nat → Value) (ax' : Nat → Nat), ax' 0 = ax 0 → W2 D cA ev s H locs hx ax' gx' hm am gm' → W p l e room_1 s m args below meth c H locs (cells + 2) (slots + 11) Q (F0 m 664 ls [])) : W p l e room_1 s m args below meth c H locs cells slots Q (F0 m 385 ls []) := by
  refine lv_aload_n C.1.1 C.1.2.1 dL_law_385 rfl (lv_at hl 1 rfl) ?_
  obtain ⟨⟨r1, gx1⟩, hc, h⟩ := bnd_some h
  refine rl_XI (dc := 250) (As := []) (rest := []) C hw vL_54 rfl (fun sz => c_X6_least hw.2.2.2.2.2.2.1 hc sz) (by decide) rfl rfl hl.1 (Nat.le_of_ble_eq_true rfl) dL_law_386 ⟨by omega, by omega⟩ (fun H locs hw => ?_)
  refine lv_aload_n C.1.1 C.1.2.1 dL_law_389 rfl (lv_at hl 2 rfl) ?_
  obtain ⟨⟨r2, gm1⟩, hc, h⟩ := bnd_some h
  refine rl_MI (dc := 7) (As := []) (rest := [.int r1]) C hw vL_57 rfl (fun sz => c_X7_least hw.2.2.2.2.2.2.2 hc sz) (by decide) rfl rfl hl.1 (Nat.le_of_ble_eq_true rfl) dL_law_390 ⟨by omega, by omega⟩ (fun H locs hw => ?_)
  refine lv_icmp_eq (tgt := 664) C.1.1 C.1.2.1 dL_law_393 (by decide) (fun hq => ?_) (fun hq => ?_)
  · replace h := ite_pos' h hq
    cases h
    refine W.widen (k := cells + 2) (n := slots + 11) (by omega) (by omega) ?_
    exact K _ _ _ _ rfl hw
  · replace h := ite_neg' h hq
    cases h
set_option maxHeartbeats 1000000 in
set_option maxRecDepth 100000 in
theorem lc_keep (C : CL p s m args c D cA ev) (hX : va_X b L xs s s.heap) (hbl : b < s.heap.size) (hL : L ≤ 3072) (hi : i + 6 ≤ L) (hw : W2 D cA ev s H locs hx ax gx hm am gm) (hl : lv_has ls 4 [(0, .ref b), (1, .ref (ax 0)), (2, .ref (am 0)), (3, .int (nI i))]) (h : op_keep (xs (i + 1)) (xs (i + 2)) (xs (i + 3)) (xs (i + 4)) (xs (i + 5)) gx gm = some (gx', gm')) (hcs : cells + 2 ≤ 600000) (hss : slots + 11 ≤ 7302250)
    (K : ∀ (H : Heap) (locs : List Loc) (hx : Nat → Nat → Value) (ax' : Nat → Nat), ax' 0 = ax 0 → W2 D cA ev s H locs hx ax' gx' hm am gm' → W p l e room_1 s m args below meth c H locs (cells + 2) (slots + 11) Q (F0 m 664 ls [])) : W p l e room_1 s m args below meth c H locs cells slots Q (F0 m 398 ls []) := by
  refine lv_aload_n C.1.1 C.1.2.1 dL_law_398 rfl (lv_at hl 1 rfl) ?_
  obtain ⟨⟨r1, gx1⟩, hc, h⟩ := bnd_some h
  refine rl_XI (dc := 252) (As := []) (rest := []) C hw vL_58 rfl (fun sz => c_X6_keep hw.2.2.2.2.2.2.1 hc sz) (by decide) rfl rfl hl.1 (Nat.le_of_ble_eq_true rfl) dL_law_399 ⟨by omega, by omega⟩ (fun H locs hw => ?_)
  refine lv_aload_n C.1.1 C.1.2.1 dL_law_402 rfl (lv_at hl 2 rfl) ?_
  obtain ⟨⟨r2, gm1⟩, hc, h⟩ := bnd_some h
  refine rl_MI (dc := 7) (As := []) (rest := [.int r1]) C hw vL_62 rfl (fun sz => c_X7_keep hw.2.2.2.2.2.2.2 hc sz) (by decide) rfl rfl hl.1 (Nat.le_of_ble_eq_true rfl) dL_law_403 ⟨by omega, by omega⟩ (fun H locs hw => ?_)
  refine lv_icmp_eq (tgt := 664) C.1.1 C.1.2.1 dL_law_406 (by decide) (fun hq => ?_) (fun hq => ?_)
  · replace h := ite_pos' h hq
    cases h
    refine W.widen (k := cells + 2) (n := slots + 11) (by omega) (by omega) ?_
    exact K _ _ _ _ rfl hw
  · replace h := ite_neg' h hq
    cases h
set_option maxHeartbeats 1000000 in
set_option maxRecDepth 100000 in
theorem lc_steady (C : CL p s m args c D cA ev) (hX : va_X b L xs s s.heap) (hbl : b < s.heap.size) (hL : L ≤ 3072) (hi : i + 6 ≤ L) (hw : W2 D cA ev s H locs hx ax gx hm am gm) (hl : lv_has ls 4 [(0, .ref b), (1, .ref (ax 0)), (2, .ref (am 0)), (3, .int (nI i))]) (h : op_steady (xs (i + 1)) (xs (i + 2)) (xs (i + 3)) (xs (i + 4)) (xs (i + 5)) gx gm = some (gx', gm')) (hcs : cells + 2 ≤ 600000) (hss : slots + 11 ≤ 7302250)
    (K : ∀ (H : Heap) (locs : List Loc) (hx : Nat → Nat → Value) (ax' : Nat → Nat), ax' 0 = ax 0 → W2 D cA ev s H locs hx ax' gx' hm am gm' → W p l e room_1 s m args below meth c H locs (cells + 2) (slots + 11) Q (F0 m 664 ls [])) : W p l e room_1 s m args below meth c H locs cells slots Q (F0 m 411 ls []) := by
  refine lv_aload_n C.1.1 C.1.2.1 dL_law_411 rfl (lv_at hl 1 rfl) ?_
  obtain ⟨⟨r1, gx1⟩, hc, h⟩ := bnd_some h
  refine rl_XI (dc := 250) (As := []) (rest := []) C hw vL_63 rfl (fun sz => c_X6_steady hw.2.2.2.2.2.2.1 hc sz) (by decide) rfl rfl hl.1 (Nat.le_of_ble_eq_true rfl) dL_law_412 ⟨by omega, by omega⟩ (fun H locs hw => ?_)
  refine lv_aload_n C.1.1 C.1.2.1 dL_law_415 rfl (lv_at hl 2 rfl) ?_
  obtain ⟨⟨r2, gm1⟩, hc, h⟩ := bnd_some h
  refine rl_MI (dc := 7) (As := []) (rest := [.int r1]) C hw vL_66 rfl (fun sz => c_X7_steady hw.2.2.2.2.2.2.2 hc sz) (by decide) rfl rfl hl.1 (Nat.le_of_ble_eq_true rfl) dL_law_416 ⟨by omega, by omega⟩ (fun H locs hw => ?_)
  refine lv_icmp_eq (tgt := 664) C.1.1 C.1.2.1 dL_law_419 (by decide) (fun hq => ?_) (fun hq => ?_)
  · replace h := ite_pos' h hq
    cases h
    refine W.widen (k := cells + 2) (n := slots + 11) (by omega) (by omega) ?_
    exact K _ _ _ _ rfl hw
  · replace h := ite_neg' h hq
    cases h
set_option maxHeartbeats 1000000 in
set_option maxRecDepth 100000 in
theorem lc_piece (C : CL p s m args c D cA ev) (hX : va_X b L xs s s.heap) (hbl : b < s.heap.size) (hL : L ≤ 3072) (hi : i + 6 ≤ L) (hw : W2 D cA ev s H locs hx ax gx hm am gm) (hl : lv_has ls 4 [(0, .ref b), (1, .ref (ax 0)), (2, .ref (am 0)), (3, .int (nI i))]) (h : op_piece (xs (i + 1)) (xs (i + 2)) (xs (i + 3)) (xs (i + 4)) (xs (i + 5)) gx gm = some (gx', gm')) (hcs : cells + 2 ≤ 600000) (hss : slots + 11 ≤ 7302250)
    (K : ∀ (H : Heap) (locs : List Loc) (hx : Nat → Nat → Value) (ax' : Nat → Nat), ax' 0 = ax 0 → W2 D cA ev s H locs hx ax' gx' hm am gm' → W p l e room_1 s m args below meth c H locs (cells + 2) (slots + 11) Q (F0 m 664 ls [])) : W p l e room_1 s m args below meth c H locs cells slots Q (F0 m 424 ls []) := by
  refine lv_aload_n C.1.1 C.1.2.1 dL_law_424 rfl (lv_at hl 1 rfl) ?_
  refine lv_aload_n C.1.1 C.1.2.1 dL_law_425 rfl (lv_at hl 0 rfl) ?_
  refine lv_iload_n C.1.1 C.1.2.1 dL_law_426 rfl (lv_at hl 3 rfl) ?_
  refine lv_iconst (v := 1) C.1.1 C.1.2.1 dL_law_427 (by decide) ?_
  refine lv_iadd C.1.1 C.1.2.1 dL_law_428 ?_
  refine rl_sld (i := i) (k := 1) C hX hbl hw (by omega) hL (nI_add i 1) dL_law_429 ?_
  obtain ⟨⟨r1, gx1⟩, hc, h⟩ := bnd_some h
  refine rl_XI (dc := 20) (As := [.int (xs (i + 1))]) (rest := []) C hw vL_67 rfl (fun sz => c_X6_piece hw.2.2.2.2.2.2.1 hc sz) (by decide) rfl rfl hl.1 (Nat.le_of_ble_eq_true rfl) dL_law_430 ⟨by omega, by omega⟩ (fun H locs hw => ?_)
  refine lv_aload_n C.1.1 C.1.2.1 dL_law_433 rfl (lv_at hl 2 rfl) ?_
  refine lv_aload_n C.1.1 C.1.2.1 dL_law_434 rfl (lv_at hl 0 rfl) ?_
  refine lv_iload_n C.1.1 C.1.2.1 dL_law_435 rfl (lv_at hl 3 rfl) ?_
  refine lv_iconst (v := 1) C.1.1 C.1.2.1 dL_law_436 (by decide) ?_
  refine lv_iadd C.1.1 C.1.2.1 dL_law_437 ?_
  refine rl_sld (i := i) (k := 1) C hX hbl hw (by omega) hL (nI_add i 1) dL_law_438 ?_
  obtain ⟨⟨r2, gm1⟩, hc, h⟩ := bnd_some h
  refine rl_MI (dc := 7) (As := [.int (xs (i + 1))]) (rest := [.int r1]) C hw vL_70 rfl (fun sz => c_X7_piece hw.2.2.2.2.2.2.2 hc sz) (by decide) rfl rfl hl.1 (Nat.le_of_ble_eq_true rfl) dL_law_439 ⟨by omega, by omega⟩ (fun H locs hw => ?_)
  refine lv_icmp_eq (tgt := 664) C.1.1 C.1.2.1 dL_law_442 (by decide) (fun hq => ?_) (fun hq => ?_)
  · replace h := ite_pos' h hq
    cases h
    refine W.widen (k := cells + 2) (n := slots + 11) (by omega) (by omega) ?_
    exact K _ _ _ _ rfl hw
  · replace h := ite_neg' h hq
    cases h
set_option maxHeartbeats 1000000 in
set_option maxRecDepth 100000 in
theorem lc_why (C : CL p s m args c D cA ev) (hX : va_X b L xs s s.heap) (hbl : b < s.heap.size) (hL : L ≤ 3072) (hi : i + 6 ≤ L) (hw : W2 D cA ev s H locs hx ax gx hm am gm) (hl : lv_has ls 4 [(0, .ref b), (1, .ref (ax 0)), (2, .ref (am 0)), (3, .int (nI i))]) (h : op_why (xs (i + 1)) (xs (i + 2)) (xs (i + 3)) (xs (i + 4)) (xs (i + 5)) gx gm = some (gx', gm')) (hcs : cells + 2 ≤ 600000) (hss : slots + 11 ≤ 7302250)
    (K : ∀ (H : Heap) (locs : List Loc) (hx : Nat → Nat → Value) (ax' : Nat → Nat), ax' 0 = ax 0 → W2 D cA ev s H locs hx ax' gx' hm am gm' → W p l e room_1 s m args below meth c H locs (cells + 2) (slots + 11) Q (F0 m 664 ls [])) : W p l e room_1 s m args below meth c H locs cells slots Q (F0 m 447 ls []) := by
  refine lv_aload_n C.1.1 C.1.2.1 dL_law_447 rfl (lv_at hl 1 rfl) ?_
  refine lv_aload_n C.1.1 C.1.2.1 dL_law_448 rfl (lv_at hl 0 rfl) ?_
  refine lv_iload_n C.1.1 C.1.2.1 dL_law_449 rfl (lv_at hl 3 rfl) ?_
  refine lv_iconst (v := 1) C.1.1 C.1.2.1 dL_law_450 (by decide) ?_
  refine lv_iadd C.1.1 C.1.2.1 dL_law_451 ?_
  refine rl_sld (i := i) (k := 1) C hX hbl hw (by omega) hL (nI_add i 1) dL_law_452 ?_
  obtain ⟨⟨r1, gx1⟩, hc, h⟩ := bnd_some h
  refine rl_XI (dc := 252) (As := [.int (xs (i + 1))]) (rest := []) C hw vL_71 rfl (fun sz => c_X6_why hw.2.2.2.2.2.2.1 hc sz) (by decide) rfl rfl hl.1 (Nat.le_of_ble_eq_true rfl) dL_law_453 ⟨by omega, by omega⟩ (fun H locs hw => ?_)
  refine lv_aload_n C.1.1 C.1.2.1 dL_law_456 rfl (lv_at hl 2 rfl) ?_
  refine lv_aload_n C.1.1 C.1.2.1 dL_law_457 rfl (lv_at hl 0 rfl) ?_
  refine lv_iload_n C.1.1 C.1.2.1 dL_law_458 rfl (lv_at hl 3 rfl) ?_
  refine lv_iconst (v := 1) C.1.1 C.1.2.1 dL_law_459 (by decide) ?_
  refine lv_iadd C.1.1 C.1.2.1 dL_law_460 ?_
  refine rl_sld (i := i) (k := 1) C hX hbl hw (by omega) hL (nI_add i 1) dL_law_461 ?_
  obtain ⟨⟨r2, gm1⟩, hc, h⟩ := bnd_some h
  refine rl_MI (dc := 8) (As := [.int (xs (i + 1))]) (rest := [.int r1]) C hw vL_74 rfl (fun sz => c_X7_why hw.2.2.2.2.2.2.2 hc sz) (by decide) rfl rfl hl.1 (Nat.le_of_ble_eq_true rfl) dL_law_462 ⟨by omega, by omega⟩ (fun H locs hw => ?_)
  refine lv_icmp_eq (tgt := 664) C.1.1 C.1.2.1 dL_law_465 (by decide) (fun hq => ?_) (fun hq => ?_)
  · replace h := ite_pos' h hq
    cases h
    refine W.widen (k := cells + 2) (n := slots + 11) (by omega) (by omega) ?_
    exact K _ _ _ _ rfl hw
  · replace h := ite_neg' h hq
    cases h
set_option maxHeartbeats 1000000 in
set_option maxRecDepth 100000 in
theorem lc_order (C : CL p s m args c D cA ev) (hX : va_X b L xs s s.heap) (hbl : b < s.heap.size) (hL : L ≤ 3072) (hi : i + 6 ≤ L) (hw : W2 D cA ev s H locs hx ax gx hm am gm) (hl : lv_has ls 4 [(0, .ref b), (1, .ref (ax 0)), (2, .ref (am 0)), (3, .int (nI i))]) (h : op_order (xs (i + 1)) (xs (i + 2)) (xs (i + 3)) (xs (i + 4)) (xs (i + 5)) gx gm = some (gx', gm')) (hcs : cells + 2 ≤ 600000) (hss : slots + 11 ≤ 7302250)
    (K : ∀ (H : Heap) (locs : List Loc) (hx : Nat → Nat → Value) (ax' : Nat → Nat), ax' 0 = ax 0 → W2 D cA ev s H locs hx ax' gx' hm am gm' → W p l e room_1 s m args below meth c H locs (cells + 2) (slots + 11) Q (F0 m 664 ls [])) : W p l e room_1 s m args below meth c H locs cells slots Q (F0 m 470 ls []) := by
  refine lv_aload_n C.1.1 C.1.2.1 dL_law_470 rfl (lv_at hl 1 rfl) ?_
  refine lv_aload_n C.1.1 C.1.2.1 dL_law_471 rfl (lv_at hl 0 rfl) ?_
  refine lv_iload_n C.1.1 C.1.2.1 dL_law_472 rfl (lv_at hl 3 rfl) ?_
  refine lv_iconst (v := 1) C.1.1 C.1.2.1 dL_law_473 (by decide) ?_
  refine lv_iadd C.1.1 C.1.2.1 dL_law_474 ?_
  refine rl_sld (i := i) (k := 1) C hX hbl hw (by omega) hL (nI_add i 1) dL_law_475 ?_
  obtain ⟨⟨r1, gx1⟩, hc, h⟩ := bnd_some h
  refine rl_XI (dc := 252) (As := [.int (xs (i + 1))]) (rest := []) C hw vL_75 rfl (fun sz => c_X6_order hw.2.2.2.2.2.2.1 hc sz) (by decide) rfl rfl hl.1 (Nat.le_of_ble_eq_true rfl) dL_law_476 ⟨by omega, by omega⟩ (fun H locs hw => ?_)
  refine lv_aload_n C.1.1 C.1.2.1 dL_law_479 rfl (lv_at hl 2 rfl) ?_
  refine lv_aload_n C.1.1 C.1.2.1 dL_law_480 rfl (lv_at hl 0 rfl) ?_
  refine lv_iload_n C.1.1 C.1.2.1 dL_law_481 rfl (lv_at hl 3 rfl) ?_
  refine lv_iconst (v := 1) C.1.1 C.1.2.1 dL_law_482 (by decide) ?_
  refine lv_iadd C.1.1 C.1.2.1 dL_law_483 ?_
  refine rl_sld (i := i) (k := 1) C hX hbl hw (by omega) hL (nI_add i 1) dL_law_484 ?_
  obtain ⟨⟨r2, gm1⟩, hc, h⟩ := bnd_some h
  refine rl_MI (dc := 8) (As := [.int (xs (i + 1))]) (rest := [.int r1]) C hw vL_78 rfl (fun sz => c_X7_order hw.2.2.2.2.2.2.2 hc sz) (by decide) rfl rfl hl.1 (Nat.le_of_ble_eq_true rfl) dL_law_485 ⟨by omega, by omega⟩ (fun H locs hw => ?_)
  refine lv_icmp_eq (tgt := 664) C.1.1 C.1.2.1 dL_law_488 (by decide) (fun hq => ?_) (fun hq => ?_)
  · replace h := ite_pos' h hq
    cases h
    refine W.widen (k := cells + 2) (n := slots + 11) (by omega) (by omega) ?_
    exact K _ _ _ _ rfl hw
  · replace h := ite_neg' h hq
    cases h
set_option maxHeartbeats 1000000 in
set_option maxRecDepth 100000 in
theorem lc_rings (C : CL p s m args c D cA ev) (hX : va_X b L xs s s.heap) (hbl : b < s.heap.size) (hL : L ≤ 3072) (hi : i + 6 ≤ L) (hw : W2 D cA ev s H locs hx ax gx hm am gm) (hl : lv_has ls 4 [(0, .ref b), (1, .ref (ax 0)), (2, .ref (am 0)), (3, .int (nI i))]) (h : op_rings (xs (i + 1)) (xs (i + 2)) (xs (i + 3)) (xs (i + 4)) (xs (i + 5)) gx gm = some (gx', gm')) (hcs : cells + 2 ≤ 600000) (hss : slots + 11 ≤ 7302250)
    (K : ∀ (H : Heap) (locs : List Loc) (hx : Nat → Nat → Value) (ax' : Nat → Nat), ax' 0 = ax 0 → W2 D cA ev s H locs hx ax' gx' hm am gm' → W p l e room_1 s m args below meth c H locs (cells + 2) (slots + 11) Q (F0 m 664 ls [])) : W p l e room_1 s m args below meth c H locs cells slots Q (F0 m 493 ls []) := by
  refine lv_aload_n C.1.1 C.1.2.1 dL_law_493 rfl (lv_at hl 1 rfl) ?_
  obtain ⟨⟨r1, gx1⟩, hc, h⟩ := bnd_some h
  refine rl_XI (dc := 252) (As := []) (rest := []) C hw vL_79 rfl (fun sz => c_X6_rings hw.2.2.2.2.2.2.1 hc sz) (by decide) rfl rfl hl.1 (Nat.le_of_ble_eq_true rfl) dL_law_494 ⟨by omega, by omega⟩ (fun H locs hw => ?_)
  refine lv_aload_n C.1.1 C.1.2.1 dL_law_497 rfl (lv_at hl 2 rfl) ?_
  obtain ⟨⟨r2, gm1⟩, hc, h⟩ := bnd_some h
  refine rl_MI (dc := 8) (As := []) (rest := [.int r1]) C hw vL_82 rfl (fun sz => c_X7_rings hw.2.2.2.2.2.2.2 hc sz) (by decide) rfl rfl hl.1 (Nat.le_of_ble_eq_true rfl) dL_law_498 ⟨by omega, by omega⟩ (fun H locs hw => ?_)
  refine lv_icmp_eq (tgt := 664) C.1.1 C.1.2.1 dL_law_501 (by decide) (fun hq => ?_) (fun hq => ?_)
  · replace h := ite_pos' h hq
    cases h
    refine W.widen (k := cells + 2) (n := slots + 11) (by omega) (by omega) ?_
    exact K _ _ _ _ rfl hw
  · replace h := ite_neg' h hq
    cases h
set_option maxHeartbeats 1000000 in
set_option maxRecDepth 100000 in
theorem lc_hide (C : CL p s m args c D cA ev) (hX : va_X b L xs s s.heap) (hbl : b < s.heap.size) (hL : L ≤ 3072) (hi : i + 6 ≤ L) (hw : W2 D cA ev s H locs hx ax gx hm am gm) (hl : lv_has ls 4 [(0, .ref b), (1, .ref (ax 0)), (2, .ref (am 0)), (3, .int (nI i))]) (h : op_hide (xs (i + 1)) (xs (i + 2)) (xs (i + 3)) (xs (i + 4)) (xs (i + 5)) gx gm = some (gx', gm')) (hcs : cells + 2 ≤ 600000) (hss : slots + 11 ≤ 7302250)
    (K : ∀ (H : Heap) (locs : List Loc) (hx : Nat → Nat → Value) (ax' : Nat → Nat), ax' 0 = ax 0 → W2 D cA ev s H locs hx ax' gx' hm am gm' → W p l e room_1 s m args below meth c H locs (cells + 2) (slots + 11) Q (F0 m 664 ls [])) : W p l e room_1 s m args below meth c H locs cells slots Q (F0 m 506 ls []) := by
  refine lv_aload_n C.1.1 C.1.2.1 dL_law_506 rfl (lv_at hl 1 rfl) ?_
  refine lv_aload_n C.1.1 C.1.2.1 dL_law_507 rfl (lv_at hl 0 rfl) ?_
  refine lv_iload_n C.1.1 C.1.2.1 dL_law_508 rfl (lv_at hl 3 rfl) ?_
  refine lv_iconst (v := 1) C.1.1 C.1.2.1 dL_law_509 (by decide) ?_
  refine lv_iadd C.1.1 C.1.2.1 dL_law_510 ?_
  refine rl_sld (i := i) (k := 1) C hX hbl hw (by omega) hL (nI_add i 1) dL_law_511 ?_
  refine lv_aload_n C.1.1 C.1.2.1 dL_law_512 rfl (lv_at hl 0 rfl) ?_
  refine lv_iload_n C.1.1 C.1.2.1 dL_law_513 rfl (lv_at hl 3 rfl) ?_
  refine lv_iconst (v := 2) C.1.1 C.1.2.1 dL_law_514 (by decide) ?_
  refine lv_iadd C.1.1 C.1.2.1 dL_law_515 ?_
  refine rl_sld (i := i) (k := 2) C hX hbl hw (by omega) hL (nI_add i 2) dL_law_516 ?_
  refine lv_aload_n C.1.1 C.1.2.1 dL_law_517 rfl (lv_at hl 0 rfl) ?_
  refine lv_iload_n C.1.1 C.1.2.1 dL_law_518 rfl (lv_at hl 3 rfl) ?_
  refine lv_iconst (v := 3) C.1.1 C.1.2.1 dL_law_519 (by decide) ?_
  refine lv_iadd C.1.1 C.1.2.1 dL_law_520 ?_
  refine rl_sld (i := i) (k := 3) C hX hbl hw (by omega) hL (nI_add i 3) dL_law_521 ?_
  obtain ⟨⟨r1, gx1⟩, hc, h⟩ := bnd_some h
  refine rl_XI (dc := 3) (As := [.int (xs (i + 1)), .int (xs (i + 2)), .int (xs (i + 3))]) (rest := []) C hw vL_83 rfl (fun sz => c_X6_hide hw.2.2.2.2.2.2.1 hc sz) (by decide) rfl rfl hl.1 (Nat.le_of_ble_eq_true rfl) dL_law_522 ⟨by omega, by omega⟩ (fun H locs hw => ?_)
  refine lv_aload_n C.1.1 C.1.2.1 dL_law_525 rfl (lv_at hl 2 rfl) ?_
  refine lv_aload_n C.1.1 C.1.2.1 dL_law_526 rfl (lv_at hl 0 rfl) ?_
  refine lv_iload_n C.1.1 C.1.2.1 dL_law_527 rfl (lv_at hl 3 rfl) ?_
  refine lv_iconst (v := 1) C.1.1 C.1.2.1 dL_law_528 (by decide) ?_
  refine lv_iadd C.1.1 C.1.2.1 dL_law_529 ?_
  refine rl_sld (i := i) (k := 1) C hX hbl hw (by omega) hL (nI_add i 1) dL_law_530 ?_
  refine lv_aload_n C.1.1 C.1.2.1 dL_law_531 rfl (lv_at hl 0 rfl) ?_
  refine lv_iload_n C.1.1 C.1.2.1 dL_law_532 rfl (lv_at hl 3 rfl) ?_
  refine lv_iconst (v := 2) C.1.1 C.1.2.1 dL_law_533 (by decide) ?_
  refine lv_iadd C.1.1 C.1.2.1 dL_law_534 ?_
  refine rl_sld (i := i) (k := 2) C hX hbl hw (by omega) hL (nI_add i 2) dL_law_535 ?_
  refine lv_aload_n C.1.1 C.1.2.1 dL_law_536 rfl (lv_at hl 0 rfl) ?_
  refine lv_iload_n C.1.1 C.1.2.1 dL_law_537 rfl (lv_at hl 3 rfl) ?_
  refine lv_iconst (v := 3) C.1.1 C.1.2.1 dL_law_538 (by decide) ?_
  refine lv_iadd C.1.1 C.1.2.1 dL_law_539 ?_
  refine rl_sld (i := i) (k := 3) C hX hbl hw (by omega) hL (nI_add i 3) dL_law_540 ?_
  obtain ⟨⟨r2, gm1⟩, hc, h⟩ := bnd_some h
  refine rl_MI (dc := 2) (As := [.int (xs (i + 1)), .int (xs (i + 2)), .int (xs (i + 3))]) (rest := [.int r1]) C hw vL_87 rfl (fun sz => c_X7_hide hw.2.2.2.2.2.2.2 hc sz) (by decide) rfl rfl hl.1 (Nat.le_of_ble_eq_true rfl) dL_law_541 ⟨by omega, by omega⟩ (fun H locs hw => ?_)
  refine lv_icmp_eq (tgt := 664) C.1.1 C.1.2.1 dL_law_544 (by decide) (fun hq => ?_) (fun hq => ?_)
  · replace h := ite_pos' h hq
    cases h
    refine W.widen (k := cells + 2) (n := slots + 11) (by omega) (by omega) ?_
    exact K _ _ _ _ rfl hw
  · replace h := ite_neg' h hq
    cases h
set_option maxHeartbeats 1000000 in
set_option maxRecDepth 100000 in
theorem lc_shown (C : CL p s m args c D cA ev) (hX : va_X b L xs s s.heap) (hbl : b < s.heap.size) (hL : L ≤ 3072) (hi : i + 6 ≤ L) (hw : W2 D cA ev s H locs hx ax gx hm am gm) (hl : lv_has ls 4 [(0, .ref b), (1, .ref (ax 0)), (2, .ref (am 0)), (3, .int (nI i))]) (h : op_shown (xs (i + 1)) (xs (i + 2)) (xs (i + 3)) (xs (i + 4)) (xs (i + 5)) gx gm = some (gx', gm')) (hcs : cells + 2 ≤ 600000) (hss : slots + 11 ≤ 7302250)
    (K : ∀ (H : Heap) (locs : List Loc) (hx : Nat → Nat → Value) (ax' : Nat → Nat), ax' 0 = ax 0 → W2 D cA ev s H locs hx ax' gx' hm am gm' → W p l e room_1 s m args below meth c H locs (cells + 2) (slots + 11) Q (F0 m 664 ls [])) : W p l e room_1 s m args below meth c H locs cells slots Q (F0 m 549 ls []) := by
  refine lv_aload_n C.1.1 C.1.2.1 dL_law_549 rfl (lv_at hl 1 rfl) ?_
  refine lv_aload_n C.1.1 C.1.2.1 dL_law_550 rfl (lv_at hl 0 rfl) ?_
  refine lv_iload_n C.1.1 C.1.2.1 dL_law_551 rfl (lv_at hl 3 rfl) ?_
  refine lv_iconst (v := 1) C.1.1 C.1.2.1 dL_law_552 (by decide) ?_
  refine lv_iadd C.1.1 C.1.2.1 dL_law_553 ?_
  refine rl_sld (i := i) (k := 1) C hX hbl hw (by omega) hL (nI_add i 1) dL_law_554 ?_
  refine lv_aload_n C.1.1 C.1.2.1 dL_law_555 rfl (lv_at hl 0 rfl) ?_
  refine lv_iload_n C.1.1 C.1.2.1 dL_law_556 rfl (lv_at hl 3 rfl) ?_
  refine lv_iconst (v := 2) C.1.1 C.1.2.1 dL_law_557 (by decide) ?_
  refine lv_iadd C.1.1 C.1.2.1 dL_law_558 ?_
  refine rl_sld (i := i) (k := 2) C hX hbl hw (by omega) hL (nI_add i 2) dL_law_559 ?_
  obtain ⟨r1, hc, h⟩ := bnd_some h
  refine rl_XI (dc := 2) (As := [.int (xs (i + 1)), .int (xs (i + 2))]) (rest := []) C hw vL_88 rfl (fun sz => c_X6_shown hw.2.2.2.2.2.2.1 hc sz) (by decide) rfl rfl hl.1 (Nat.le_of_ble_eq_true rfl) dL_law_560 ⟨by omega, by omega⟩ (fun H locs hw => ?_)
  refine lv_aload_n C.1.1 C.1.2.1 dL_law_563 rfl (lv_at hl 2 rfl) ?_
  refine lv_aload_n C.1.1 C.1.2.1 dL_law_564 rfl (lv_at hl 0 rfl) ?_
  refine lv_iload_n C.1.1 C.1.2.1 dL_law_565 rfl (lv_at hl 3 rfl) ?_
  refine lv_iconst (v := 1) C.1.1 C.1.2.1 dL_law_566 (by decide) ?_
  refine lv_iadd C.1.1 C.1.2.1 dL_law_567 ?_
  refine rl_sld (i := i) (k := 1) C hX hbl hw (by omega) hL (nI_add i 1) dL_law_568 ?_
  refine lv_aload_n C.1.1 C.1.2.1 dL_law_569 rfl (lv_at hl 0 rfl) ?_
  refine lv_iload_n C.1.1 C.1.2.1 dL_law_570 rfl (lv_at hl 3 rfl) ?_
  refine lv_iconst (v := 2) C.1.1 C.1.2.1 dL_law_571 (by decide) ?_
  refine lv_iadd C.1.1 C.1.2.1 dL_law_572 ?_
  refine rl_sld (i := i) (k := 2) C hX hbl hw (by omega) hL (nI_add i 2) dL_law_573 ?_
  obtain ⟨r2, hc, h⟩ := bnd_some h
  refine rl_MI (dc := 4) (As := [.int (xs (i + 1)), .int (xs (i + 2))]) (rest := [.int r1]) C hw vL_91 rfl (fun sz => c_X7_shown hw.2.2.2.2.2.2.2 hc sz) (by decide) rfl rfl hl.1 (Nat.le_of_ble_eq_true rfl) dL_law_574 ⟨by omega, by omega⟩ (fun H locs hw => ?_)
  refine lv_icmp_eq (tgt := 664) C.1.1 C.1.2.1 dL_law_577 (by decide) (fun hq => ?_) (fun hq => ?_)
  · replace h := ite_pos' h hq
    cases h
    refine W.widen (k := cells + 2) (n := slots + 11) (by omega) (by omega) ?_
    exact K _ _ _ _ rfl hw
  · replace h := ite_neg' h hq
    cases h
set_option maxHeartbeats 1000000 in
set_option maxRecDepth 100000 in
theorem lc_weight (C : CL p s m args c D cA ev) (hX : va_X b L xs s s.heap) (hbl : b < s.heap.size) (hL : L ≤ 3072) (hi : i + 6 ≤ L) (hw : W2 D cA ev s H locs hx ax gx hm am gm) (hl : lv_has ls 4 [(0, .ref b), (1, .ref (ax 0)), (2, .ref (am 0)), (3, .int (nI i))]) (h : op_weight (xs (i + 1)) (xs (i + 2)) (xs (i + 3)) (xs (i + 4)) (xs (i + 5)) gx gm = some (gx', gm')) (hcs : cells + 2 ≤ 600000) (hss : slots + 11 ≤ 7302250)
    (K : ∀ (H : Heap) (locs : List Loc) (hx : Nat → Nat → Value) (ax' : Nat → Nat), ax' 0 = ax 0 → W2 D cA ev s H locs hx ax' gx' hm am gm' → W p l e room_1 s m args below meth c H locs (cells + 2) (slots + 11) Q (F0 m 664 ls [])) : W p l e room_1 s m args below meth c H locs cells slots Q (F0 m 582 ls []) := by
  refine lv_aload_n C.1.1 C.1.2.1 dL_law_582 rfl (lv_at hl 1 rfl) ?_
  refine lv_aload_n C.1.1 C.1.2.1 dL_law_583 rfl (lv_at hl 0 rfl) ?_
  refine lv_iload_n C.1.1 C.1.2.1 dL_law_584 rfl (lv_at hl 3 rfl) ?_
  refine lv_iconst (v := 1) C.1.1 C.1.2.1 dL_law_585 (by decide) ?_
  refine lv_iadd C.1.1 C.1.2.1 dL_law_586 ?_
  refine rl_sld (i := i) (k := 1) C hX hbl hw (by omega) hL (nI_add i 1) dL_law_587 ?_
  refine lv_aload_n C.1.1 C.1.2.1 dL_law_588 rfl (lv_at hl 0 rfl) ?_
  refine lv_iload_n C.1.1 C.1.2.1 dL_law_589 rfl (lv_at hl 3 rfl) ?_
  refine lv_iconst (v := 2) C.1.1 C.1.2.1 dL_law_590 (by decide) ?_
  refine lv_iadd C.1.1 C.1.2.1 dL_law_591 ?_
  refine rl_sld (i := i) (k := 2) C hX hbl hw (by omega) hL (nI_add i 2) dL_law_592 ?_
  refine lv_aload_n C.1.1 C.1.2.1 dL_law_593 rfl (lv_at hl 0 rfl) ?_
  refine lv_iload_n C.1.1 C.1.2.1 dL_law_594 rfl (lv_at hl 3 rfl) ?_
  refine lv_iconst (v := 3) C.1.1 C.1.2.1 dL_law_595 (by decide) ?_
  refine lv_iadd C.1.1 C.1.2.1 dL_law_596 ?_
  refine rl_sld (i := i) (k := 3) C hX hbl hw (by omega) hL (nI_add i 3) dL_law_597 ?_
  refine lv_if_eq (tgt := 605) C.1.1 C.1.2.1 dL_law_598 (by decide) (fun hz => ?_) (fun hz => ?_)
  · rw [op_weight, if_pos hz] at h
    have hz0 := hz
    refine lv_iconst (v := 0) C.1.1 C.1.2.1 dL_law_605 (by decide) ?_
    obtain ⟨⟨r1, gx1⟩, hc, h⟩ := bnd_some h
    refine rl_XI (dc := 252) (As := [.int (xs (i + 1)), .int (xs (i + 2)), .int 0]) (rest := []) C hw vL_92 rfl (fun sz => c_X6_weight hw.2.2.2.2.2.2.1 hc sz) (by decide) rfl rfl hl.1 (Nat.le_of_ble_eq_true rfl) dL_law_606 ⟨by omega, by omega⟩ (fun H locs hw => ?_)
    refine lv_aload_n C.1.1 C.1.2.1 dL_law_609 rfl (lv_at hl 2 rfl) ?_
    refine lv_aload_n C.1.1 C.1.2.1 dL_law_610 rfl (lv_at hl 0 rfl) ?_
    refine lv_iload_n C.1.1 C.1.2.1 dL_law_611 rfl (lv_at hl 3 rfl) ?_
    refine lv_iconst (v := 1) C.1.1 C.1.2.1 dL_law_612 (by decide) ?_
    refine lv_iadd C.1.1 C.1.2.1 dL_law_613 ?_
    refine rl_sld (i := i) (k := 1) C hX hbl hw (by omega) hL (nI_add i 1) dL_law_614 ?_
    refine lv_aload_n C.1.1 C.1.2.1 dL_law_615 rfl (lv_at hl 0 rfl) ?_
    refine lv_iload_n C.1.1 C.1.2.1 dL_law_616 rfl (lv_at hl 3 rfl) ?_
    refine lv_iconst (v := 2) C.1.1 C.1.2.1 dL_law_617 (by decide) ?_
    refine lv_iadd C.1.1 C.1.2.1 dL_law_618 ?_
    refine rl_sld (i := i) (k := 2) C hX hbl hw (by omega) hL (nI_add i 2) dL_law_619 ?_
    refine lv_aload_n C.1.1 C.1.2.1 dL_law_620 rfl (lv_at hl 0 rfl) ?_
    refine lv_iload_n C.1.1 C.1.2.1 dL_law_621 rfl (lv_at hl 3 rfl) ?_
    refine lv_iconst (v := 3) C.1.1 C.1.2.1 dL_law_622 (by decide) ?_
    refine lv_iadd C.1.1 C.1.2.1 dL_law_623 ?_
    refine rl_sld (i := i) (k := 3) C hX hbl hw (by omega) hL (nI_add i 3) dL_law_624 ?_
    refine lv_if_eq (tgt := 632) C.1.1 C.1.2.1 dL_law_625 (by decide) (fun hz => ?_) (fun hz => ?_)
    · refine lv_iconst (v := 0) C.1.1 C.1.2.1 dL_law_632 (by decide) ?_
      obtain ⟨⟨r2, gm1⟩, hc, h⟩ := bnd_some h
      refine rl_MI (dc := 8) (As := [.int (xs (i + 1)), .int (xs (i + 2)), .int 0]) (rest := [.int r1]) C hw vL_96 rfl (fun sz => c_X7_weight hw.2.2.2.2.2.2.2 hc sz) (by decide) rfl rfl hl.1 (Nat.le_of_ble_eq_true rfl) dL_law_633 ⟨by omega, by omega⟩ (fun H locs hw => ?_)
      refine lv_icmp_eq (tgt := 664) C.1.1 C.1.2.1 dL_law_636 (by decide) (fun hq => ?_) (fun hq => ?_)
      · replace h := ite_pos' h hq
        cases h
        refine W.widen (k := cells + 2) (n := slots + 11) (by omega) (by omega) ?_
        exact K _ _ _ _ rfl hw
      · replace h := ite_neg' h hq
        cases h
    · exact absurd hz0 hz
  · rw [op_weight, if_neg hz] at h
    have hz0 := hz
    refine lv_iconst (v := 1) C.1.1 C.1.2.1 dL_law_601 (by decide) ?_
    refine lv_goto (tgt := 606) C.1.1 C.1.2.1 dL_law_602 (by decide) ?_
    obtain ⟨⟨r1, gx1⟩, hc, h⟩ := bnd_some h
    refine rl_XI (dc := 252) (As := [.int (xs (i + 1)), .int (xs (i + 2)), .int 1]) (rest := []) C hw vL_92 rfl (fun sz => c_X6_weight hw.2.2.2.2.2.2.1 hc sz) (by decide) rfl rfl hl.1 (Nat.le_of_ble_eq_true rfl) dL_law_606 ⟨by omega, by omega⟩ (fun H locs hw => ?_)
    refine lv_aload_n C.1.1 C.1.2.1 dL_law_609 rfl (lv_at hl 2 rfl) ?_
    refine lv_aload_n C.1.1 C.1.2.1 dL_law_610 rfl (lv_at hl 0 rfl) ?_
    refine lv_iload_n C.1.1 C.1.2.1 dL_law_611 rfl (lv_at hl 3 rfl) ?_
    refine lv_iconst (v := 1) C.1.1 C.1.2.1 dL_law_612 (by decide) ?_
    refine lv_iadd C.1.1 C.1.2.1 dL_law_613 ?_
    refine rl_sld (i := i) (k := 1) C hX hbl hw (by omega) hL (nI_add i 1) dL_law_614 ?_
    refine lv_aload_n C.1.1 C.1.2.1 dL_law_615 rfl (lv_at hl 0 rfl) ?_
    refine lv_iload_n C.1.1 C.1.2.1 dL_law_616 rfl (lv_at hl 3 rfl) ?_
    refine lv_iconst (v := 2) C.1.1 C.1.2.1 dL_law_617 (by decide) ?_
    refine lv_iadd C.1.1 C.1.2.1 dL_law_618 ?_
    refine rl_sld (i := i) (k := 2) C hX hbl hw (by omega) hL (nI_add i 2) dL_law_619 ?_
    refine lv_aload_n C.1.1 C.1.2.1 dL_law_620 rfl (lv_at hl 0 rfl) ?_
    refine lv_iload_n C.1.1 C.1.2.1 dL_law_621 rfl (lv_at hl 3 rfl) ?_
    refine lv_iconst (v := 3) C.1.1 C.1.2.1 dL_law_622 (by decide) ?_
    refine lv_iadd C.1.1 C.1.2.1 dL_law_623 ?_
    refine rl_sld (i := i) (k := 3) C hX hbl hw (by omega) hL (nI_add i 3) dL_law_624 ?_
    refine lv_if_eq (tgt := 632) C.1.1 C.1.2.1 dL_law_625 (by decide) (fun hz => ?_) (fun hz => ?_)
    · exact absurd hz hz0
    · refine lv_iconst (v := 1) C.1.1 C.1.2.1 dL_law_628 (by decide) ?_
      refine lv_goto (tgt := 633) C.1.1 C.1.2.1 dL_law_629 (by decide) ?_
      obtain ⟨⟨r2, gm1⟩, hc, h⟩ := bnd_some h
      refine rl_MI (dc := 8) (As := [.int (xs (i + 1)), .int (xs (i + 2)), .int 1]) (rest := [.int r1]) C hw vL_96 rfl (fun sz => c_X7_weight hw.2.2.2.2.2.2.2 hc sz) (by decide) rfl rfl hl.1 (Nat.le_of_ble_eq_true rfl) dL_law_633 ⟨by omega, by omega⟩ (fun H locs hw => ?_)
      refine lv_icmp_eq (tgt := 664) C.1.1 C.1.2.1 dL_law_636 (by decide) (fun hq => ?_) (fun hq => ?_)
      · replace h := ite_pos' h hq
        cases h
        refine W.widen (k := cells + 2) (n := slots + 11) (by omega) (by omega) ?_
        exact K _ _ _ _ rfl hw
      · replace h := ite_neg' h hq
        cases h
set_option maxHeartbeats 1000000 in
set_option maxRecDepth 100000 in
theorem lc_about (C : CL p s m args c D cA ev) (hX : va_X b L xs s s.heap) (hbl : b < s.heap.size) (hL : L ≤ 3072) (hi : i + 6 ≤ L) (hw : W2 D cA ev s H locs hx ax gx hm am gm) (hl : lv_has ls 4 [(0, .ref b), (1, .ref (ax 0)), (2, .ref (am 0)), (3, .int (nI i))]) (h : op_about (xs (i + 1)) (xs (i + 2)) (xs (i + 3)) (xs (i + 4)) (xs (i + 5)) gx gm = some (gx', gm')) (hcs : cells + 2 ≤ 600000) (hss : slots + 11 ≤ 7302250)
    (K : ∀ (H : Heap) (locs : List Loc) (hx : Nat → Nat → Value) (ax' : Nat → Nat), ax' 0 = ax 0 → W2 D cA ev s H locs hx ax' gx' hm am gm' → W p l e room_1 s m args below meth c H locs (cells + 2) (slots + 11) Q (F0 m 664 ls [])) : W p l e room_1 s m args below meth c H locs cells slots Q (F0 m 641 ls []) := by
  refine lv_aload_n C.1.1 C.1.2.1 dL_law_641 rfl (lv_at hl 1 rfl) ?_
  refine lv_aload_n C.1.1 C.1.2.1 dL_law_642 rfl (lv_at hl 0 rfl) ?_
  refine lv_iload_n C.1.1 C.1.2.1 dL_law_643 rfl (lv_at hl 3 rfl) ?_
  refine lv_iconst (v := 1) C.1.1 C.1.2.1 dL_law_644 (by decide) ?_
  refine lv_iadd C.1.1 C.1.2.1 dL_law_645 ?_
  refine rl_sld (i := i) (k := 1) C hX hbl hw (by omega) hL (nI_add i 1) dL_law_646 ?_
  obtain ⟨r1, hc, h⟩ := bnd_some h
  refine rl_XI (dc := 3) (As := [.int (xs (i + 1))]) (rest := []) C hw vL_97 rfl (fun sz => c_X6_about hw.2.2.2.2.2.2.1 hc sz) (by decide) rfl rfl hl.1 (Nat.le_of_ble_eq_true rfl) dL_law_647 ⟨by omega, by omega⟩ (fun H locs hw => ?_)
  refine lv_aload_n C.1.1 C.1.2.1 dL_law_650 rfl (lv_at hl 2 rfl) ?_
  refine lv_aload_n C.1.1 C.1.2.1 dL_law_651 rfl (lv_at hl 0 rfl) ?_
  refine lv_iload_n C.1.1 C.1.2.1 dL_law_652 rfl (lv_at hl 3 rfl) ?_
  refine lv_iconst (v := 1) C.1.1 C.1.2.1 dL_law_653 (by decide) ?_
  refine lv_iadd C.1.1 C.1.2.1 dL_law_654 ?_
  refine rl_sld (i := i) (k := 1) C hX hbl hw (by omega) hL (nI_add i 1) dL_law_655 ?_
  obtain ⟨r2, hc, h⟩ := bnd_some h
  refine rl_MI (dc := 2) (As := [.int (xs (i + 1))]) (rest := [.int r1]) C hw vL_100 rfl (fun sz => c_X7_about hw.2.2.2.2.2.2.2 hc sz) (by decide) rfl rfl hl.1 (Nat.le_of_ble_eq_true rfl) dL_law_656 ⟨by omega, by omega⟩ (fun H locs hw => ?_)
  refine lv_icmp_eq (tgt := 664) C.1.1 C.1.2.1 dL_law_659 (by decide) (fun hq => ?_) (fun hq => ?_)
  · replace h := ite_pos' h hq
    cases h
    refine W.widen (k := cells + 2) (n := slots + 11) (by omega) (by omega) ?_
    exact K _ _ _ _ rfl hw
  · replace h := ite_neg' h hq
    cases h
set_option maxHeartbeats 1000000 in
set_option maxRecDepth 100000 in
theorem lc_switch (C : CL p s m args c D cA ev) (hX : va_X b L xs s s.heap) (hbl : b < s.heap.size) (hL : L ≤ 3072) (hi : i + 6 ≤ L) (hw : W2 D cA ev s H locs hx ax gx hm am gm) (hl : lv_has ls 4 [(0, .ref b), (1, .ref (ax 0)), (2, .ref (am 0)), (3, .int (nI i))]) (h : opF (xs i &&& 31) (xs (i + 1)) (xs (i + 2)) (xs (i + 3)) (xs (i + 4)) (xs (i + 5)) gx gm = some (gx', gm')) (hcs : cells + 2 ≤ 600000) (hss : slots + 11 ≤ 7302250)
    (K : ∀ (H : Heap) (locs : List Loc) (hx : Nat → Nat → Value) (ax' : Nat → Nat), ax' 0 = ax 0 → W2 D cA ev s H locs hx ax' gx' hm am gm' → W p l e room_1 s m args below meth c H locs (cells + 2) (slots + 11) Q (F0 m 664 ls [])) : W p l e room_1 s m args below meth c H locs cells slots Q (F0 m 33 ls [.int (xs i &&& 31)]) := by
  unfold opF at h
  by_cases h0 : xs i &&& 31 = 0
  · replace h := ite_pos' h h0
    refine lv_tableIn (off := 95) (tgt := 128) C.1.1 C.1.2.1 dL_law_33 (by rw [h0]; decide) (by rw [h0]; decide) (by rw [h0]; rfl) (by decide) ?_
    exact lc_feed C hX hbl hL hi hw hl h hcs hss K
  · replace h := ite_neg' h h0
    by_cases h1 : xs i &&& 31 = 1
    · replace h := ite_pos' h h1
      refine lv_tableIn (off := 158) (tgt := 191) C.1.1 C.1.2.1 dL_law_33 (by rw [h1]; decide) (by rw [h1]; decide) (by rw [h1]; rfl) (by decide) ?_
      exact lc_end C hX hbl hL hi hw hl h hcs hss K
    · replace h := ite_neg' h h1
      by_cases h2 : xs i &&& 31 = 2
      · replace h := ite_pos' h h2
        refine lv_tableIn (off := 181) (tgt := 214) C.1.1 C.1.2.1 dL_law_33 (by rw [h2]; decide) (by rw [h2]; decide) (by rw [h2]; rfl) (by decide) ?_
        exact lc_store C hX hbl hL hi hw hl h hcs hss K
      · replace h := ite_neg' h h2
        by_cases h3 : xs i &&& 31 = 3
        · replace h := ite_pos' h h3
          refine lv_tableIn (off := 194) (tgt := 227) C.1.1 C.1.2.1 dL_law_33 (by rw [h3]; decide) (by rw [h3]; decide) (by rw [h3]; rfl) (by decide) ?_
          exact lc_wishes C hX hbl hL hi hw hl h hcs hss K
        · replace h := ite_neg' h h3
          by_cases h4 : xs i &&& 31 = 4
          · replace h := ite_pos' h h4
            refine lv_tableIn (off := 207) (tgt := 240) C.1.1 C.1.2.1 dL_law_33 (by rw [h4]; decide) (by rw [h4]; decide) (by rw [h4]; rfl) (by decide) ?_
            exact lc_fault C hX hbl hL hi hw hl h hcs hss K
          · replace h := ite_neg' h h4
            by_cases h5 : xs i &&& 31 = 5
            · replace h := ite_pos' h h5
              refine lv_tableIn (off := 230) (tgt := 263) C.1.1 C.1.2.1 dL_law_33 (by rw [h5]; decide) (by rw [h5]; decide) (by rw [h5]; rfl) (by decide) ?_
              exact lc_row C hX hbl hL hi hw hl h hcs hss K
            · replace h := ite_neg' h h5
              by_cases h6 : xs i &&& 31 = 6
              · replace h := ite_pos' h h6
                refine lv_tableIn (off := 263) (tgt := 296) C.1.1 C.1.2.1 dL_law_33 (by rw [h6]; decide) (by rw [h6]; decide) (by rw [h6]; rfl) (by decide) ?_
                exact lc_value C hX hbl hL hi hw hl h hcs hss K
              · replace h := ite_neg' h h6
                by_cases h7 : xs i &&& 31 = 7
                · replace h := ite_pos' h h7
                  refine lv_tableIn (off := 296) (tgt := 329) C.1.1 C.1.2.1 dL_law_33 (by rw [h7]; decide) (by rw [h7]; decide) (by rw [h7]; rfl) (by decide) ?_
                  exact lc_holds C hX hbl hL hi hw hl h hcs hss K
                · replace h := ite_neg' h h7
                  by_cases h8 : xs i &&& 31 = 8
                  · replace h := ite_pos' h h8
                    refine lv_tableIn (off := 329) (tgt := 362) C.1.1 C.1.2.1 dL_law_33 (by rw [h8]; decide) (by rw [h8]; decide) (by rw [h8]; rfl) (by decide) ?_
                    exact lc_gone C hX hbl hL hi hw hl h hcs hss K
                  · replace h := ite_neg' h h8
                    by_cases h9 : xs i &&& 31 = 9
                    · replace h := ite_pos' h h9
                      refine lv_tableIn (off := 352) (tgt := 385) C.1.1 C.1.2.1 dL_law_33 (by rw [h9]; decide) (by rw [h9]; decide) (by rw [h9]; rfl) (by decide) ?_
                      exact lc_least C hX hbl hL hi hw hl h hcs hss K
                    · replace h := ite_neg' h h9
                      by_cases h10 : xs i &&& 31 = 10
                      · replace h := ite_pos' h h10
                        refine lv_tableIn (off := 365) (tgt := 398) C.1.1 C.1.2.1 dL_law_33 (by rw [h10]; decide) (by rw [h10]; decide) (by rw [h10]; rfl) (by decide) ?_
                        exact lc_keep C hX hbl hL hi hw hl h hcs hss K
                      · replace h := ite_neg' h h10
                        by_cases h11 : xs i &&& 31 = 11
                        · replace h := ite_pos' h h11
                          refine lv_tableIn (off := 378) (tgt := 411) C.1.1 C.1.2.1 dL_law_33 (by rw [h11]; decide) (by rw [h11]; decide) (by rw [h11]; rfl) (by decide) ?_
                          exact lc_steady C hX hbl hL hi hw hl h hcs hss K
                        · replace h := ite_neg' h h11
                          by_cases h12 : xs i &&& 31 = 12
                          · replace h := ite_pos' h h12
                            refine lv_tableIn (off := 391) (tgt := 424) C.1.1 C.1.2.1 dL_law_33 (by rw [h12]; decide) (by rw [h12]; decide) (by rw [h12]; rfl) (by decide) ?_
                            exact lc_piece C hX hbl hL hi hw hl h hcs hss K
                          · replace h := ite_neg' h h12
                            by_cases h13 : xs i &&& 31 = 13
                            · replace h := ite_pos' h h13
                              refine lv_tableIn (off := 414) (tgt := 447) C.1.1 C.1.2.1 dL_law_33 (by rw [h13]; decide) (by rw [h13]; decide) (by rw [h13]; rfl) (by decide) ?_
                              exact lc_why C hX hbl hL hi hw hl h hcs hss K
                            · replace h := ite_neg' h h13
                              by_cases h14 : xs i &&& 31 = 14
                              · replace h := ite_pos' h h14
                                refine lv_tableIn (off := 437) (tgt := 470) C.1.1 C.1.2.1 dL_law_33 (by rw [h14]; decide) (by rw [h14]; decide) (by rw [h14]; rfl) (by decide) ?_
                                exact lc_order C hX hbl hL hi hw hl h hcs hss K
                              · replace h := ite_neg' h h14
                                by_cases h15 : xs i &&& 31 = 15
                                · replace h := ite_pos' h h15
                                  refine lv_tableIn (off := 460) (tgt := 493) C.1.1 C.1.2.1 dL_law_33 (by rw [h15]; decide) (by rw [h15]; decide) (by rw [h15]; rfl) (by decide) ?_
                                  exact lc_rings C hX hbl hL hi hw hl h hcs hss K
                                · replace h := ite_neg' h h15
                                  by_cases h16 : xs i &&& 31 = 16
                                  · replace h := ite_pos' h h16
                                    refine lv_tableIn (off := 473) (tgt := 506) C.1.1 C.1.2.1 dL_law_33 (by rw [h16]; decide) (by rw [h16]; decide) (by rw [h16]; rfl) (by decide) ?_
                                    exact lc_hide C hX hbl hL hi hw hl h hcs hss K
                                  · replace h := ite_neg' h h16
                                    by_cases h17 : xs i &&& 31 = 17
                                    · replace h := ite_pos' h h17
                                      refine lv_tableIn (off := 516) (tgt := 549) C.1.1 C.1.2.1 dL_law_33 (by rw [h17]; decide) (by rw [h17]; decide) (by rw [h17]; rfl) (by decide) ?_
                                      exact lc_shown C hX hbl hL hi hw hl h hcs hss K
                                    · replace h := ite_neg' h h17
                                      by_cases h18 : xs i &&& 31 = 18
                                      · replace h := ite_pos' h h18
                                        refine lv_tableIn (off := 549) (tgt := 582) C.1.1 C.1.2.1 dL_law_33 (by rw [h18]; decide) (by rw [h18]; decide) (by rw [h18]; rfl) (by decide) ?_
                                        exact lc_weight C hX hbl hL hi hw hl h hcs hss K
                                      · replace h := ite_neg' h h18
                                        by_cases h19 : xs i &&& 31 = 19
                                        · replace h := ite_pos' h h19
                                          refine lv_tableIn (off := 608) (tgt := 641) C.1.1 C.1.2.1 dL_law_33 (by rw [h19]; decide) (by rw [h19]; decide) (by rw [h19]; rfl) (by decide) ?_
                                          exact lc_about C hX hbl hL hi hw hl h hcs hss K
                                        · replace h := ite_neg' h h19
                                          refine lv_tableOut (tgt := 664) C.1.1 C.1.2.1 dL_law_33 (by have q0 := lv_neT (k := 0) (a := 0) h0 (by decide); have q1 := lv_neT (k := 1) (a := 1) h1 (by decide); have q2 := lv_neT (k := 2) (a := 2) h2 (by decide); have q3 := lv_neT (k := 3) (a := 3) h3 (by decide); have q4 := lv_neT (k := 4) (a := 4) h4 (by decide); have q5 := lv_neT (k := 5) (a := 5) h5 (by decide); have q6 := lv_neT (k := 6) (a := 6) h6 (by decide); have q7 := lv_neT (k := 7) (a := 7) h7 (by decide); have q8 := lv_neT (k := 8) (a := 8) h8 (by decide); have q9 := lv_neT (k := 9) (a := 9) h9 (by decide); have q10 := lv_neT (k := 10) (a := 10) h10 (by decide); have q11 := lv_neT (k := 11) (a := 11) h11 (by decide); have q12 := lv_neT (k := 12) (a := 12) h12 (by decide); have q13 := lv_neT (k := 13) (a := 13) h13 (by decide); have q14 := lv_neT (k := 14) (a := 14) h14 (by decide); have q15 := lv_neT (k := 15) (a := 15) h15 (by decide); have q16 := lv_neT (k := 16) (a := 16) h16 (by decide); have q17 := lv_neT (k := 17) (a := 17) h17 (by decide); have q18 := lv_neT (k := 18) (a := 18) h18 (by decide); have q19 := lv_neT (k := 19) (a := 19) h19 (by decide); omega) (by decide) ?_
                                          cases h
                                          refine W.widen (k := cells + 2) (n := slots + 11) (by omega) (by omega) ?_
                                          exact K _ _ _ _ rfl hw
end LAWC

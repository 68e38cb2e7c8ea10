/-! MEMORY of a side: ints and longs by (cell's number, slot) -/
abbrev GM : Type := (Nat → Nat → Int32) × (Nat → Nat → Int64)
def gi (g : GM) (i k : Nat) : Int32 := g.1 i k
def gl (g : GM) (i k : Nat) : Int64 := g.2 i k
def si (g : GM) (i k : Nat) (v : Int32) : GM := (fun a b => if a = i ∧ b = k then v else g.1 a b, g.2)
def sl (g : GM) (i k : Nat) (v : Int64) : GM := (g.1, fun a b => if a = i ∧ b = k then v else g.2 a b)
theorem gi_si (g : GM) (i k a b : Nat) (v : Int32) : gi (si g i k v) a b = if a = i ∧ b = k then v else gi g a b := rfl
theorem gl_si (g : GM) (i k a b : Nat) (v : Int32) : gl (si g i k v) a b = gl g a b := rfl
theorem gi_sl (g : GM) (i k a b : Nat) (v : Int64) : gi (sl g i k v) a b = gi g a b := rfl
theorem gl_sl (g : GM) (i k a b : Nat) (v : Int64) : gl (sl g i k v) a b = if a = i ∧ b = k then v else gl g a b := rfl
def ur (hr : Nat → Nat → Value) (i k : Nat) (v : Value) : Nat → Nat → Value := fun a b => if a = i ∧ b = k then v else hr a b
/-! classes by number -/
def FK : List (List Nat) := [[2, 2, 0, 0, 0, 0], [0, 2, 2, 2, 0, 2, 2, 2], [0, 2, 2, 2, 2, 2, 0, 2, 2, 2, 2, 2], [2, 2], [2, 2, 0, 3, 0, 0, 0, 0, 1, 0, 0], [2, 2, 2, 2, 0, 0, 0], [2, 2, 2, 2, 2, 2, 2, 0, 0, 0, 0, 0, 0, 0], [2, 2, 0, 0, 0, 0, 0, 0, 0, 0, 1, 0, 2, 2, 2, 2, 2, 2, 2, 2, 2, 2, 2, 0, 0, 2, 2, 2, 2, 2, 2, 2, 2, 2, 2, 2, 2, 0, 0, 0, 0, 0, 2, 0, 0, 2, 2, 2, 2, 0, 0, 0, 0, 2, 2]]
def fk (c k : Nat) : Nat := (FK.getD c []).getD k 2
def RR (c : Nat) : String := match c with | 0 => RX0 | 1 => RX1 | 2 => RX2 | 3 => RX3 | 4 => RX4 | 5 => RX5 | 6 => RX6 | _ => RX7
def TT (c : Nat) : u_T := match c with | 0 => TX0 | 1 => TX1 | 2 => TX2 | 3 => TX3 | 4 => TX4 | 5 => TX5 | 6 => TX6 | _ => TX7
def YY (c : Nat) : Nat → FieldType := match c with | 0 => tyX0 | 1 => tyX1 | 2 => tyX2 | 3 => tyX3 | 4 => tyX4 | 5 => tyX5 | 6 => tyX6 | _ => tyX7
def NN (c : Nat) : Nat := match c with | 0 => 6 | 1 => 8 | 2 => 12 | 3 => 2 | 4 => 11 | 5 => 7 | 6 => 14 | _ => 55
def lw_ok : List Cond := lw_tbl.filter goodWord
theorem ok_tb {i : Nat} {w : Cond} (h : tables_1[i]? = some w) (hg : goodWord w = true) : w ∈ lw_ok := List.mem_filter.mpr ⟨List.mem_append_right _ (List.mem_of_getElem? h), hg⟩
theorem ok_pv {i : Nat} {w : Cond} (h : (k2_sels lw_privs)[i]? = some w) (hg : goodWord w = true) : w ∈ lw_ok := List.mem_filter.mpr ⟨List.mem_append_left _ (List.mem_of_getElem? h), hg⟩
theorem ok_in {w : Cond} (h : w ∈ lw_ok) : w ∈ lw_tbl := (List.mem_filter.mp h).1
theorem ok_good {w : Cond} (h : w ∈ lw_ok) : (w.onTables && w.keeps) = true ∨ ∃ ty, w = .arrayClass ty := good_of_word (List.mem_filter.mp h).2
theorem cl_at : ∀ c, c < 8 → vwCl[c]? = some (RR c, TT c, NN c) := by
  intro c h
  match c, h with
  | 0, _ => rfl
  | 1, _ => rfl
  | 2, _ => rfl
  | 3, _ => rfl
  | 4, _ => rfl
  | 5, _ => rfl
  | 6, _ => rfl
  | 7, _ => rfl
theorem cin0 : ∀ w ∈ u_ws RX0 TX0 6, w ∈ lw_ok := List.forall_mem_cons.mpr ⟨ok_tb (i := 657) (by decide +kernel) (by decide +kernel), List.forall_mem_cons.mpr ⟨ok_tb (i := 659) (by decide +kernel) (by decide +kernel), List.forall_mem_cons.mpr ⟨ok_tb (i := 661) (by decide +kernel) (by decide +kernel), List.forall_mem_cons.mpr ⟨ok_tb (i := 663) (by decide +kernel) (by decide +kernel), List.forall_mem_cons.mpr ⟨ok_tb (i := 665) (by decide +kernel) (by decide +kernel), List.forall_mem_cons.mpr ⟨ok_tb (i := 667) (by decide +kernel) (by decide +kernel), fun _ h => absurd h List.not_mem_nil⟩⟩⟩⟩⟩⟩
theorem cin1 : ∀ w ∈ u_ws RX1 TX1 8, w ∈ lw_ok := List.forall_mem_cons.mpr ⟨ok_tb (i := 218) (by decide +kernel) (by decide +kernel), List.forall_mem_cons.mpr ⟨ok_tb (i := 220) (by decide +kernel) (by decide +kernel), List.forall_mem_cons.mpr ⟨ok_tb (i := 222) (by decide +kernel) (by decide +kernel), List.forall_mem_cons.mpr ⟨ok_tb (i := 224) (by decide +kernel) (by decide +kernel), List.forall_mem_cons.mpr ⟨ok_tb (i := 226) (by decide +kernel) (by decide +kernel), List.forall_mem_cons.mpr ⟨ok_tb (i := 228) (by decide +kernel) (by decide +kernel), List.forall_mem_cons.mpr ⟨ok_tb (i := 230) (by decide +kernel) (by decide +kernel), List.forall_mem_cons.mpr ⟨ok_tb (i := 232) (by decide +kernel) (by decide +kernel), fun _ h => absurd h List.not_mem_nil⟩⟩⟩⟩⟩⟩⟩⟩
theorem cin2 : ∀ w ∈ u_ws RX2 TX2 12, w ∈ lw_ok := List.forall_mem_cons.mpr ⟨ok_tb (i := 172) (by decide +kernel) (by decide +kernel), List.forall_mem_cons.mpr ⟨ok_tb (i := 174) (by decide +kernel) (by decide +kernel), List.forall_mem_cons.mpr ⟨ok_tb (i := 176) (by decide +kernel) (by decide +kernel), List.forall_mem_cons.mpr ⟨ok_tb (i := 178) (by decide +kernel) (by decide +kernel), List.forall_mem_cons.mpr ⟨ok_tb (i := 180) (by decide +kernel) (by decide +kernel), List.forall_mem_cons.mpr ⟨ok_tb (i := 182) (by decide +kernel) (by decide +kernel), List.forall_mem_cons.mpr ⟨ok_tb (i := 184) (by decide +kernel) (by decide +kernel), List.forall_mem_cons.mpr ⟨ok_tb (i := 186) (by decide +kernel) (by decide +kernel), List.forall_mem_cons.mpr ⟨ok_tb (i := 188) (by decide +kernel) (by decide +kernel), List.forall_mem_cons.mpr ⟨ok_tb (i := 190) (by decide +kernel) (by decide +kernel), List.forall_mem_cons.mpr ⟨ok_tb (i := 192) (by decide +kernel) (by decide +kernel), List.forall_mem_cons.mpr ⟨ok_tb (i := 194) (by decide +kernel) (by decide +kernel), fun _ h => absurd h List.not_mem_nil⟩⟩⟩⟩⟩⟩⟩⟩⟩⟩⟩⟩
theorem cin3 : ∀ w ∈ u_ws RX3 TX3 2, w ∈ lw_ok := List.forall_mem_cons.mpr ⟨ok_tb (i := 306) (by decide +kernel) (by decide +kernel), List.forall_mem_cons.mpr ⟨ok_tb (i := 308) (by decide +kernel) (by decide +kernel), fun _ h => absurd h List.not_mem_nil⟩⟩
theorem cin4 : ∀ w ∈ u_ws RX4 TX4 11, w ∈ lw_ok := List.forall_mem_cons.mpr ⟨ok_tb (i := 106) (by decide +kernel) (by decide +kernel), List.forall_mem_cons.mpr ⟨ok_tb (i := 108) (by decide +kernel) (by decide +kernel), List.forall_mem_cons.mpr ⟨ok_tb (i := 110) (by decide +kernel) (by decide +kernel), List.forall_mem_cons.mpr ⟨ok_tb (i := 112) (by decide +kernel) (by decide +kernel), List.forall_mem_cons.mpr ⟨ok_tb (i := 114) (by decide +kernel) (by decide +kernel), List.forall_mem_cons.mpr ⟨ok_tb (i := 116) (by decide +kernel) (by decide +kernel), List.forall_mem_cons.mpr ⟨ok_tb (i := 118) (by decide +kernel) (by decide +kernel), List.forall_mem_cons.mpr ⟨ok_tb (i := 120) (by decide +kernel) (by decide +kernel), List.forall_mem_cons.mpr ⟨ok_tb (i := 122) (by decide +kernel) (by decide +kernel), List.forall_mem_cons.mpr ⟨ok_tb (i := 124) (by decide +kernel) (by decide +kernel), List.forall_mem_cons.mpr ⟨ok_tb (i := 126) (by decide +kernel) (by decide +kernel), fun _ h => absurd h List.not_mem_nil⟩⟩⟩⟩⟩⟩⟩⟩⟩⟩⟩
theorem cin5 : ∀ w ∈ u_ws RX5 TX5 7, w ∈ lw_ok := List.forall_mem_cons.mpr ⟨ok_tb (i := 508) (by decide +kernel) (by decide +kernel), List.forall_mem_cons.mpr ⟨ok_tb (i := 510) (by decide +kernel) (by decide +kernel), List.forall_mem_cons.mpr ⟨ok_tb (i := 512) (by decide +kernel) (by decide +kernel), List.forall_mem_cons.mpr ⟨ok_tb (i := 514) (by decide +kernel) (by decide +kernel), List.forall_mem_cons.mpr ⟨ok_tb (i := 516) (by decide +kernel) (by decide +kernel), List.forall_mem_cons.mpr ⟨ok_tb (i := 518) (by decide +kernel) (by decide +kernel), List.forall_mem_cons.mpr ⟨ok_tb (i := 520) (by decide +kernel) (by decide +kernel), fun _ h => absurd h List.not_mem_nil⟩⟩⟩⟩⟩⟩⟩
theorem cin6 : ∀ w ∈ u_ws RX6 TX6 14, w ∈ lw_ok := List.forall_mem_cons.mpr ⟨ok_tb (i := 253) (by decide +kernel) (by decide +kernel), List.forall_mem_cons.mpr ⟨ok_tb (i := 255) (by decide +kernel) (by decide +kernel), List.forall_mem_cons.mpr ⟨ok_tb (i := 257) (by decide +kernel) (by decide +kernel), List.forall_mem_cons.mpr ⟨ok_tb (i := 259) (by decide +kernel) (by decide +kernel), List.forall_mem_cons.mpr ⟨ok_tb (i := 261) (by decide +kernel) (by decide +kernel), List.forall_mem_cons.mpr ⟨ok_tb (i := 263) (by decide +kernel) (by decide +kernel), List.forall_mem_cons.mpr ⟨ok_tb (i := 265) (by decide +kernel) (by decide +kernel), List.forall_mem_cons.mpr ⟨ok_tb (i := 267) (by decide +kernel) (by decide +kernel), List.forall_mem_cons.mpr ⟨ok_tb (i := 269) (by decide +kernel) (by decide +kernel), List.forall_mem_cons.mpr ⟨ok_tb (i := 271) (by decide +kernel) (by decide +kernel), List.forall_mem_cons.mpr ⟨ok_tb (i := 273) (by decide +kernel) (by decide +kernel), List.forall_mem_cons.mpr ⟨ok_tb (i := 275) (by decide +kernel) (by decide +kernel), List.forall_mem_cons.mpr ⟨ok_tb (i := 277) (by decide +kernel) (by decide +kernel), List.forall_mem_cons.mpr ⟨ok_tb (i := 279) (by decide +kernel) (by decide +kernel), fun _ h => absurd h List.not_mem_nil⟩⟩⟩⟩⟩⟩⟩⟩⟩⟩⟩⟩⟩⟩
theorem cin7 : ∀ w ∈ u_ws RX7 TX7 55, w ∈ lw_ok := List.forall_mem_cons.mpr ⟨ok_tb (i := 1090) (by decide +kernel) (by decide +kernel), List.forall_mem_cons.mpr ⟨ok_tb (i := 1092) (by decide +kernel) (by decide +kernel), List.forall_mem_cons.mpr ⟨ok_tb (i := 1094) (by decide +kernel) (by decide +kernel), List.forall_mem_cons.mpr ⟨ok_tb (i := 1096) (by decide +kernel) (by decide +kernel), List.forall_mem_cons.mpr ⟨ok_tb (i := 1098) (by decide +kernel) (by decide +kernel), List.forall_mem_cons.mpr ⟨ok_tb (i := 1100) (by decide +kernel) (by decide +kernel), List.forall_mem_cons.mpr ⟨ok_tb (i := 1102) (by decide +kernel) (by decide +kernel), List.forall_mem_cons.mpr ⟨ok_tb (i := 1104) (by decide +kernel) (by decide +kernel), List.forall_mem_cons.mpr ⟨ok_tb (i := 1106) (by decide +kernel) (by decide +kernel), List.forall_mem_cons.mpr ⟨ok_tb (i := 1108) (by decide +kernel) (by decide +kernel), List.forall_mem_cons.mpr ⟨ok_tb (i := 1110) (by decide +kernel) (by decide +kernel), List.forall_mem_cons.mpr ⟨ok_tb (i := 1112) (by decide +kernel) (by decide +kernel), List.forall_mem_cons.mpr ⟨ok_tb (i := 1114) (by decide +kernel) (by decide +kernel), List.forall_mem_cons.mpr ⟨ok_tb (i := 1116) (by decide +kernel) (by decide +kernel), List.forall_mem_cons.mpr ⟨ok_tb (i := 1118) (by decide +kernel) (by decide +kernel), List.forall_mem_cons.mpr ⟨ok_tb (i := 1120) (by decide +kernel) (by decide +kernel), List.forall_mem_cons.mpr ⟨ok_tb (i := 1122) (by decide +kernel) (by decide +kernel), List.forall_mem_cons.mpr ⟨ok_tb (i := 1124) (by decide +kernel) (by decide +kernel), List.forall_mem_cons.mpr ⟨ok_tb (i := 1126) (by decide +kernel) (by decide +kernel), List.forall_mem_cons.mpr ⟨ok_tb (i := 1128) (by decide +kernel) (by decide +kernel), List.forall_mem_cons.mpr ⟨ok_tb (i := 1130) (by decide +kernel) (by decide +kernel), List.forall_mem_cons.mpr ⟨ok_tb (i := 1132) (by decide +kernel) (by decide +kernel), List.forall_mem_cons.mpr ⟨ok_tb (i := 1134) (by decide +kernel) (by decide +kernel), List.forall_mem_cons.mpr ⟨ok_tb (i := 1136) (by decide +kernel) (by decide +kernel), List.forall_mem_cons.mpr ⟨ok_tb (i := 1138) (by decide +kernel) (by decide +kernel), List.forall_mem_cons.mpr ⟨ok_tb (i := 1140) (by decide +kernel) (by decide +kernel), List.forall_mem_cons.mpr ⟨ok_tb (i := 1142) (by decide +kernel) (by decide +kernel), List.forall_mem_cons.mpr ⟨ok_tb (i := 1144) (by decide +kernel) (by decide +kernel), List.forall_mem_cons.mpr ⟨ok_tb (i := 1146) (by decide +kernel) (by decide +kernel), List.forall_mem_cons.mpr ⟨ok_tb (i := 1148) (by decide +kernel) (by decide +kernel), List.forall_mem_cons.mpr ⟨ok_tb (i := 1150) (by decide +kernel) (by decide +kernel), List.forall_mem_cons.mpr ⟨ok_tb (i := 1152) (by decide +kernel) (by decide +kernel), List.forall_mem_cons.mpr ⟨ok_tb (i := 1154) (by decide +kernel) (by decide +kernel), List.forall_mem_cons.mpr ⟨ok_tb (i := 1156) (by decide +kernel) (by decide +kernel), List.forall_mem_cons.mpr ⟨ok_tb (i := 1158) (by decide +kernel) (by decide +kernel), List.forall_mem_cons.mpr ⟨ok_tb (i := 1160) (by decide +kernel) (by decide +kernel), List.forall_mem_cons.mpr ⟨ok_tb (i := 1162) (by decide +kernel) (by decide +kernel), List.forall_mem_cons.mpr ⟨ok_tb (i := 1164) (by decide +kernel) (by decide +kernel), List.forall_mem_cons.mpr ⟨ok_tb (i := 1166) (by decide +kernel) (by decide +kernel), List.forall_mem_cons.mpr ⟨ok_tb (i := 1168) (by decide +kernel) (by decide +kernel), List.forall_mem_cons.mpr ⟨ok_tb (i := 1170) (by decide +kernel) (by decide +kernel), List.forall_mem_cons.mpr ⟨ok_tb (i := 1172) (by decide +kernel) (by decide +kernel), List.forall_mem_cons.mpr ⟨ok_tb (i := 1174) (by decide +kernel) (by decide +kernel), List.forall_mem_cons.mpr ⟨ok_tb (i := 1176) (by decide +kernel) (by decide +kernel), List.forall_mem_cons.mpr ⟨ok_tb (i := 1178) (by decide +kernel) (by decide +kernel), List.forall_mem_cons.mpr ⟨ok_tb (i := 1180) (by decide +kernel) (by decide +kernel), List.forall_mem_cons.mpr ⟨ok_tb (i := 1182) (by decide +kernel) (by decide +kernel), List.forall_mem_cons.mpr ⟨ok_tb (i := 1184) (by decide +kernel) (by decide +kernel), List.forall_mem_cons.mpr ⟨ok_tb (i := 1186) (by decide +kernel) (by decide +kernel), List.forall_mem_cons.mpr ⟨ok_tb (i := 1188) (by decide +kernel) (by decide +kernel), List.forall_mem_cons.mpr ⟨ok_tb (i := 1190) (by decide +kernel) (by decide +kernel), List.forall_mem_cons.mpr ⟨ok_tb (i := 1192) (by decide +kernel) (by decide +kernel), List.forall_mem_cons.mpr ⟨ok_tb (i := 1194) (by decide +kernel) (by decide +kernel), List.forall_mem_cons.mpr ⟨ok_tb (i := 1196) (by decide +kernel) (by decide +kernel), List.forall_mem_cons.mpr ⟨ok_tb (i := 1198) (by decide +kernel) (by decide +kernel), fun _ h => absurd h List.not_mem_nil⟩⟩⟩⟩⟩⟩⟩⟩⟩⟩⟩⟩⟩⟩⟩⟩⟩⟩⟩⟩⟩⟩⟩⟩⟩⟩⟩⟩⟩⟩⟩⟩⟩⟩⟩⟩⟩⟩⟩⟩⟩⟩⟩⟩⟩⟩⟩⟩⟩⟩⟩⟩⟩⟩⟩
theorem cl_in : ∀ c, c < 8 → ∀ w ∈ u_ws (RR c) (TT c) (NN c), w ∈ lw_ok := by
  intro c h
  match c, h with
  | 0, _ => exact cin0
  | 1, _ => exact cin1
  | 2, _ => exact cin2
  | 3, _ => exact cin3
  | 4, _ => exact cin4
  | 5, _ => exact cin5
  | 6, _ => exact cin6
  | 7, _ => exact cin7
theorem cl_ty : ∀ c, c < 8 → ∀ k, k < NN c → parseFieldDescriptor (TT c k).2.2.1 = some (YY c k) := by
  intro c h
  match c, h with
  | 0, _ => exact tyX0_ok
  | 1, _ => exact tyX1_ok
  | 2, _ => exact tyX2_ok
  | 3, _ => exact tyX3_ok
  | 4, _ => exact tyX4_ok
  | 5, _ => exact tyX5_ok
  | 6, _ => exact tyX6_ok
  | 7, _ => exact tyX7_ok
theorem cl_nm : ∀ c, c < 8 → ∀ a, a < NN c → ∀ b, b < NN c → a ≠ b → (TT c a).2.1 ≠ (TT c b).2.1 := by
  intro c h
  match c, h with
  | 0, _ => exact nmX0
  | 1, _ => exact nmX1
  | 2, _ => exact nmX2
  | 3, _ => exact nmX3
  | 4, _ => exact nmX4
  | 5, _ => exact nmX5
  | 6, _ => exact nmX6
  | 7, _ => exact nmX7
/-! the world of a side, as the kit's list of cells -/
abbrev EVa : Type := (Nat → Nat) × (Nat → Nat) × Option Nat
def svK (ev : EVa) (x : Int32) : Value := if x = 0 then .null else .ref (ev.1 (if x = 1 then 0 else 2))
def fv (ev : EVa) (hr : Nat → Nat → Value) (g : GM) (c i k : Nat) : Value := if fk c k = 0 then .int (gi g i k) else if fk c k = 1 then .long (gl g i k) else if fk c k = 2 then hr i k else svK ev (gi g i k)
def ent (cA : Nat → ClassId) (ev : EVa) (hr : Nat → Nat → Value) (g : GM) (q : Nat × Nat) (i : Nat) : va_E :=
  if q.1 < 8 then .inr (q.1, (List.range q.2).map (fv ev hr g q.1 i)) else if q.1 = 9 then .inl (cA 9, q.2, .inr (.inl (gl g i))) else .inl (cA q.1, q.2, .inl (gi g i))
def wl (cA : Nat → ClassId) (ev : EVa) (hr : Nat → Nat → Value) (ad : Nat → Nat) (g : GM) (kl : List (Nat × Nat)) : va_W := kl.mapIdx (fun i q => (ad i, ent cA ev hr g q i))
theorem wl_at {cA : Nat → ClassId} {ev : EVa} {hr : Nat → Nat → Value} {ad : Nat → Nat} {g : GM} {kl : List (Nat × Nat)} {i : Nat} {q : Nat × Nat} (h : kl[i]? = some q) : (wl cA ev hr ad g kl)[i]? = some (ad i, ent cA ev hr g q i) := by
  simp [wl, List.getElem?_mapIdx, h]
theorem wl_len {cA : Nat → ClassId} {ev : EVa} {hr : Nat → Nat → Value} {ad : Nat → Nat} {g : GM} {kl : List (Nat × Nat)} : (wl cA ev hr ad g kl).length = kl.length := by simp [wl]
theorem wl_set {cA : Nat → ClassId} {ev : EVa} {hr hr' : Nat → Nat → Value} {ad : Nat → Nat} {g g' : GM} {kl : List (Nat × Nat)} {i : Nat} {q : Nat × Nat} (h : kl[i]? = some q) (he : ∀ (j : Nat) (q' : Nat × Nat), j ≠ i → ent cA ev hr' g' q' j = ent cA ev hr g q' j) :
    (wl cA ev hr ad g kl).set i (ad i, ent cA ev hr' g' q i) = wl cA ev hr' ad g' kl := by
  have hlt : i < (wl cA ev hr ad g kl).length := by rw [wl_len]; exact (List.getElem?_eq_some_iff.mp h).1
  refine List.ext_getElem? fun j => ?_
  by_cases hj : j = i
  · subst hj
    rw [List.getElem?_set_self hlt, wl_at h]
  · rw [List.getElem?_set_ne (Ne.symm hj)]
    simp only [wl, List.getElem?_mapIdx]
    cases hk : kl[j]? with
    | none => rfl
    | some q' => simp only [Option.map_some]; rw [he j q' hj]
theorem ent_obj {cA : Nat → ClassId} {ev : EVa} {hr : Nat → Nat → Value} {g : GM} {c i n : Nat} (h : c < 8) : ent cA ev hr g (c, n) i = .inr (c, (List.range n).map (fv ev hr g c i)) := by simp [ent, h]
theorem fs_set {f f' : Nat → Value} {n k : Nat} (v : Value) (hv : f' k = v) (ho : ∀ j, j ≠ k → f' j = f j) : ((List.range n).map f).set k v = (List.range n).map f' := by
  refine List.ext_getElem? fun j => ?_
  by_cases hj : j = k
  · subst hj
    by_cases hl : j < n
    · rw [List.getElem?_set_self (by simpa using hl)]
      simp [hl, hv]
    · rw [List.getElem?_eq_none (by simpa using hl), List.getElem?_eq_none (by simpa using hl)]
  · rw [List.getElem?_set_ne (Ne.symm hj)]
    by_cases hl : j < n
    · simp [hl, ho j hj]
    · rw [List.getElem?_eq_none (by simpa using hl), List.getElem?_eq_none (by simpa using hl)]
theorem ent_o {cA : Nat → ClassId} {ev : EVa} {hr hr' : Nat → Nat → Value} {g g' : GM} {q : Nat × Nat} {j : Nat} (h1 : gi g' j = gi g j) (h2 : gl g' j = gl g j) (h3 : hr' j = hr j) : ent cA ev hr' g' q j = ent cA ev hr g q j := by
  have e : fv ev hr' g' q.1 j = fv ev hr g q.1 j := by
    funext k
    simp only [fv, h1, h2, h3]
  simp only [ent, e, h1, h2]
theorem si_row {g : GM} {i k : Nat} {v : Int32} : gi (si g i k v) i = upd (gi g i) k v := by
  funext b
  simp [gi_si, upd]
theorem si_off {g : GM} {i k j : Nat} {v : Int32} (h : j ≠ i) : gi (si g i k v) j = gi g j := by
  funext b
  simp [gi_si, h]
theorem sl_row {g : GM} {i k : Nat} {v : Int64} : gl (sl g i k v) i = vp_updL (gl g i) k v := by
  funext b
  simp [gl_sl, vp_updL]
theorem sl_off {g : GM} {i k j : Nat} {v : Int64} (h : j ≠ i) : gl (sl g i k v) j = gl g j := by
  funext b
  simp [gl_sl, h]
theorem ur_off {hr : Nat → Nat → Value} {i k j : Nat} {v : Value} (h : j ≠ i) : ur hr i k v j = hr j := by
  funext b
  simp [ur, h]
def tysA (cA : Nat → ClassId) : List (ClassId × FieldType) := [(cA 8, .int), (cA 9, .long), (cA 10, .byte), (cA 11, .boolean)]
/-! the surroundings: text constants, a static, the nest's words -/
def SLEN : List Nat := [6, 48, 11]
def SBYT : List (List Int32) := [[58, 44, 59, 35, 45, 46], [116, 97, 98, 108, 101, 32, 114, 111, 119, 32, 116, 111, 32, 119, 105, 115, 104, 32, 108, 97, 119, 32, 119, 104, 101, 114, 101, 32, 110, 101, 101, 100, 115, 32, 98, 121, 32, 110, 111, 116, 32, 97, 110, 100, 32, 111, 114, 32], [58, 44, 59, 35, 45, 46, 60, 62, 61, 40, 41]]
def NSTW : List Cond := [Cond.methodLinkNest RX2 60 yX6_slot RX6, Cond.methodLinkNest RX3 102 yX6_slot RX6, Cond.methodLinkNest RX2 67 yX6_has RX6, Cond.methodLinkNest RX0 31 yX6_has RX6]
def EV (ev : EVa) (A : Nat → Prop) (U : State) (H : Heap) : Prop :=
  vk_S 3 SLEN SBYT ev.1 ev.2.1 A U H ∧ (va_Z "java/lang/String" "COMPACT_STRINGS" "Z" (.int 1) A U H ∧ va_Z "jdk/internal/util/Preconditions" "SIOOBE_FORMATTER" "Ljava/util/function/BiFunction;" (va_rf ev.2.2) A U H) ∧ (vk_R RX4 19 ":,;#-." (ev.1 0) U ∧ vk_R RX4 29 "table row to wish law where needs by not and or " (ev.1 1) U ∧ vk_R RX4 45 ":,;#-.<>=()" (ev.1 2) U) ∧ ∀ w ∈ NSTW, va_Nw w U
theorem nst_of {w : Cond} (h : w ∈ NSTW) : ∃ a i x hh, w = Cond.methodLinkNest a i x hh := by
  simp only [NSTW, List.mem_cons, List.not_mem_nil, or_false] at h
  rcases h with h | h | h | h <;> exact ⟨_, _, _, _, h⟩
theorem EV.warm {ev : EVa} {A B : Nat → Prop} {s U : State} {H H1 : Heap} (h : EV ev A s H) (hW : s.WarmedH U.vm) (hAB : ∀ q, B q → A q) (hq : ∀ a : Nat, a < H.size → ¬ A a → H1[a]? = H[a]?) : EV ev B U H1 := by
  obtain ⟨h1, h2, ⟨h3, h4, h5⟩, h6⟩ := h
  refine ⟨((h1.kept hq).narrow hAB).moved hW.alike, ⟨((h2.1.kept hq).narrow hAB).moved hW.alike, ((h2.2.kept hq).narrow hAB).moved hW.alike⟩, ⟨h3.warm hW, h4.warm hW, h5.warm hW⟩, fun w hw => ?_⟩
  obtain ⟨a, i, x, hh, rfl⟩ := nst_of hw
  exact va_Nw.warmM hW (h6 _ hw)
theorem EV.same {ev : EVa} {A : Nat → Prop} {s U : State} {H : Heap} (h : EV ev A s H) (hv : U.vm = s.vm) : EV ev A U H := by
  obtain ⟨h1, h2, ⟨h3, h4, h5⟩, h6⟩ := h
  have ha : s.vm.Alike U.vm := by rw [hv]; exact Vm.Alike.refl _
  refine ⟨h1.moved ha, ⟨h2.1.moved ha, h2.2.moved ha⟩, ⟨h3.same hv, h4.same hv, h5.same hv⟩, fun w hw => ?_⟩
  obtain ⟨a, i, x, hh, rfl⟩ := nst_of hw
  exact va_Nw.same rfl hv.symm (h6 _ hw)
/-- which addresses a method may write -/
def AX (ad : Nat → Nat) (n sz : Nat) : Nat → Prop := fun q => (∃ i, i < n ∧ q = ad i) ∨ sz ≤ q
/-- a side's world within a walk -/
def WS (D : va_G) (cA : Nat → ClassId) (ev : EVa) (hr : Nat → Nat → Value) (ad : Nat → Nat) (A : Nat → Prop) (kl : List (Nat × Nat)) (s : State) (H : Heap) (locs : List Loc) (g : GM) : Prop :=
  va_P D vwCl (wl cA ev hr ad g kl) H ∧ va_D A (wl cA ev hr ad g kl) ∧ va_S A s.heap H locs ∧ (∀ q, s.heap.size ≤ q → A q) ∧ EV ev A s s.heap
/-- .. and at a method's start -/
def PX (D : va_G) (cA : Nat → ClassId) (ev : EVa) (hr : Nat → Nat → Value) (ad : Nat → Nat) (kl : List (Nat × Nat)) (g : GM) (sz : Nat) (U : State) : Prop :=
  U.heap.size = sz ∧ va_P D vwCl (wl cA ev hr ad g kl) U.heap ∧ va_K D vwCl (tysA cA) U ∧ va_D (fun _ => True) (wl cA ev hr ad g kl) ∧ EV ev (AX ad kl.length sz) U U.heap
/-- .. and behind it -/
def BX (D : va_G) (cA : Nat → ClassId) (ev : EVa) (hr : Nat → Nat → Value) (ad : Nat → Nat) (A : Nat → Prop) (kl : List (Nat × Nat)) (g : GM) (t : State) : Prop :=
  va_P D vwCl (wl cA ev hr ad g kl) t.heap ∧ va_K D vwCl (tysA cA) t ∧ va_D A (wl cA ev hr ad g kl)
def WSX (y : MethodName) (cc : ByteArray) (nL : Nat) (ret : Option FieldType) : List Cond := Cond.code y cc nL ret :: lw_ok
def RM (d mc ms : Nat) : Room := { frames := d, cells := mc, slots := ms, locals := 60 * d }
/-- what stays the same in a walk -/
def CX (p : Program) (s : State) (m : MethodId) (args : Array Value) (meth : Method) (c : Code) (own : String) (y : MethodName) (cc : ByteArray) (nL : Nat) (ret : Option FieldType) (D : va_G) (cA : Nat → ClassId) : Prop :=
  CallFix p m c cc nL s args (WSX y cc nL ret) own ∧ meth.sig.returnType = ret ∧ meth.locks = false ∧ meth.name = y.name ∧ va_K D vwCl (tysA cA) s
abbrev QI (D : va_G) (cA : Nat → ClassId) (ev : EVa) (hr : Nat → Nat → Value) (ad : Nat → Nat) (A : Nat → Prop) (kl : List (Nat × Nat)) (r : Int32) (g : GM) : Array Value → State → Outcome → State → Prop := va_Qi (fun (r' : Int32) (_ : Unit) => r' = r) (fun _ t => BX D cA ev hr ad A kl g t) A
abbrev QV (D : va_G) (cA : Nat → ClassId) (ev : EVa) (hr : Nat → Nat → Value) (ad : Nat → Nat) (A : Nat → Prop) (kl : List (Nat × Nat)) (g : GM) : Array Value → State → Outcome → State → Prop := va_Qv (fun (_ : Unit) => True) (fun _ t => BX D cA ev hr ad A kl g t) A
/-! words of fields and calls -/
def FL (own : String) (idx c k : Nat) : Prop := (c < 8 ∧ k < NN c) ∧ Cond.fieldLink own idx (TT c k).1 (TT c k).2.1 (TT c k).2.2.1 ∈ lw_ok
def CV (own : String) (idx : Nat) (y : MethodName) (bytes : ByteArray) (maxL n : Nat) (ret : Option FieldType) : Prop := (Cond.methodLink own idx y ∈ lw_ok ∧ Cond.instanceMethod y ∈ lw_ok ∧ Cond.selects y.cls y y ∈ lw_ok ∧ Cond.initialized y.cls ∈ lw_ok ∧ Cond.code y bytes maxL ret ∈ lw_ok) ∧ (y.cls ≠ "java/lang/invoke/MethodHandle" ∧ y.cls ≠ "java/lang/invoke/VarHandle" ∧ (parseMethodDescriptor y.desc).map (fun d => d.parameters.length) = some n) ∧ maxL ≤ 40
def CS (own : String) (idx : Nat) (y : MethodName) (bytes : ByteArray) (maxL n : Nat) (ret : Option FieldType) : Prop := (Cond.methodLink own idx y ∈ lw_ok ∧ Cond.static y ∈ lw_ok ∧ Cond.initialized y.cls ∈ lw_ok ∧ Cond.code y bytes maxL ret ∈ lw_ok) ∧ (y.cls ≠ "java/lang/invoke/MethodHandle" ∧ y.cls ≠ "java/lang/invoke/VarHandle" ∧ (parseMethodDescriptor y.desc).map (fun d => d.parameters.length) = some n) ∧ maxL ≤ 40
def CN (own : String) (idx : Nat) (y : MethodName) (host : String) (bytes : ByteArray) (maxL n : Nat) (ret : Option FieldType) : Prop := (Cond.methodLinkNest own idx y host ∈ NSTW ∧ Cond.static y ∈ lw_ok ∧ Cond.initialized y.cls ∈ lw_ok ∧ Cond.code y bytes maxL ret ∈ lw_ok) ∧ (y.cls ≠ "java/lang/invoke/MethodHandle" ∧ y.cls ≠ "java/lang/invoke/VarHandle" ∧ (parseMethodDescriptor y.desc).map (fun d => d.parameters.length) = some n) ∧ maxL ≤ 40
def CI (own : String) (idx : Nat) (y : MethodName) (bytes : ByteArray) (maxL n : Nat) : Prop := (Cond.methodLink own idx y ∈ lw_ok ∧ Cond.instanceMethod y ∈ lw_ok ∧ Cond.initialized y.cls ∈ lw_ok ∧ Cond.code y bytes maxL none ∈ lw_ok) ∧ (y.cls ≠ "java/lang/invoke/MethodHandle" ∧ y.cls ≠ "java/lang/invoke/VarHandle" ∧ (parseMethodDescriptor y.desc).map (fun d => d.parameters.length) = some n) ∧ maxL ≤ 40 ∧ y.name = "<init>"
theorem ws_good {y y' : MethodName} {c c' : ByteArray} {n n' : Nat} {r r' : Option FieldType} (h : Cond.code y' c' n' r' ∈ lw_ok) : GoodIn (WSX y c n r) (WSX y' c' n' r') := by
  intro w hw
  rcases List.mem_cons.mp hw with e | e
  · subst e; exact ⟨List.mem_cons_of_mem _ h, ok_good h⟩
  · exact ⟨List.mem_cons_of_mem _ e, ok_good e⟩
/-! a method's head -/
theorem PX.blind {D : va_G} {cA : Nat → ClassId} {ev : EVa} {hr : Nat → Nat → Value} {ad : Nat → Nat} {kl : List (Nat × Nat)} {g : GM} {sz : Nat} {av : List Value} : FrameBlind (va_Pc av (PX D cA ev hr ad kl g sz)) := by
  intro a U gf mk q
  obtain ⟨q0, q1, q2, q3, q4, q5⟩ := q
  exact ⟨q0, q1, q2, va_K.moved (u := U) (U := U.calling gf mk a) (Vm.Alike.refl U.vm) q3, q4, q5.same rfl⟩
theorem met_of {y : MethodName} {cc : ByteArray} {nL : Nat} {ret : Option FieldType} {own : String} {l : Launch} {D : va_G} {cA : Nat → ClassId} {ev : EVa} {hr : Nat → Nat → Value} {ad : Nat → Nat} {kl : List (Nat × Nat)} {g : GM} {sz d mc ms : Nat} {av : List Value} {Qc : Array Value → State → Outcome → State → Prop}
    (hy : plainName y.cls = true) (hyo : y.cls = own) (hnl : (lg_sl av).length ≤ nL)
    (body : ∀ (p : Program) (e : Env) (s : State) (m : MethodId) (below : List Frame) (meth : Method) (c : Code) (ls : Array Slot), CX p s m av.toArray meth c own y cc nL ret D cA → WS D cA ev hr ad (AX ad kl.length sz) kl s s.heap [] g → s.heap.size = sz → lv_has ls nL (lv_args 0 av) →
      W p l e (RM d mc ms) s m av.toArray below meth c s.heap [] 0 0 (MQ below Qc av.toArray s mc ms (AX ad kl.length sz)) (F0 m 0 ls [])) :
    Met l y (WSX y cc nL ret) (RM d mc ms) (va_Pc av (PX D cA ev hr ad kl g sz)) Qc mc ms (AX ad kl.length sz) := by
  refine Met.ofW (cc := cc) (maxL := nL) (ret := ret) hy rfl ?_
  intro p e s m args below meth c s₁ B hml hv
  obtain ⟨rfl, hsz, hP, hK, hD0, hE⟩ := hv
  have hts := atoms_spec (ws := WSX y cc nL ret) B.pre
  have hown : s.vm.findClass own = some m.cls := hyo ▸ findClass_of_methodNamed B.named
  have hl := lv_entry av (n := nL) hnl
  rw [lg_entry_eq]
  refine body p e s m below meth c _ ⟨⟨B.exec, B.bytes, hml, hown, hts⟩, B.returns, B.notSynchronized, (name_of_methodNamed B.named B.method).1, hK⟩ ⟨hP, ⟨hD0.1, fun k q hk => ?_⟩, va_S.rf, fun q hq => Or.inr (by rw [← hsz]; exact hq), hE⟩ hsz hl
  have hkl : k < kl.length := by rw [← wl_len (cA := cA) (ev := ev) (hr := hr) (ad := ad) (g := g)]; exact (List.getElem?_eq_some_iff.mp hk).1
  refine Or.inl ⟨k, hkl, ?_⟩
  rw [wl_at (q := kl[k]) (List.getElem?_eq_getElem hkl)] at hk
  cases hk
  rfl
theorem met_ofF {y : MethodName} {cc : ByteArray} {nL : Nat} {ret : Option FieldType} {own : String} {l : Launch} {D : va_G} {cA : Nat → ClassId} {ev : EVa} {hr : Nat → Nat → Value} {ad : Nat → Nat} {kl : List (Nat × Nat)} {g : GM} {sz d mc ms : Nat} {av : List Value} {Qc : Array Value → State → Outcome → State → Prop}
    (hy : plainFor y = true) (hyo : y.cls = own) (hnl : (lg_sl av).length ≤ nL)
    (body : ∀ (p : Program) (e : Env) (s : State) (m : MethodId) (below : List Frame) (meth : Method) (c : Code) (ls : Array Slot), CX p s m av.toArray meth c own y cc nL ret D cA → WS D cA ev hr ad (AX ad kl.length sz) kl s s.heap [] g → s.heap.size = sz → lv_has ls nL (lv_args 0 av) →
      W p l e (RM d mc ms) s m av.toArray below meth c s.heap [] 0 0 (MQ below Qc av.toArray s mc ms (AX ad kl.length sz)) (F0 m 0 ls [])) :
    Met l y (WSX y cc nL ret) (RM d mc ms) (va_Pc av (PX D cA ev hr ad kl g sz)) Qc mc ms (AX ad kl.length sz) := by
  refine va_MetF (cc := cc) (maxL := nL) (ret := ret) hy rfl ?_
  intro p e s m args below meth c s₁ B hml hv
  obtain ⟨rfl, hsz, hP, hK, hD0, hE⟩ := hv
  have hts := atoms_spec (ws := WSX y cc nL ret) B.pre
  have hown : s.vm.findClass own = some m.cls := hyo ▸ findClass_of_methodNamed B.named
  have hl := lv_entry av (n := nL) hnl
  rw [lg_entry_eq]
  refine body p e s m below meth c _ ⟨⟨B.exec, B.bytes, hml, hown, hts⟩, B.returns, B.notSynchronized, (name_of_methodNamed B.named B.method).1, hK⟩ ⟨hP, ⟨hD0.1, fun k q hk => ?_⟩, va_S.rf, fun q hq => Or.inr (by rw [← hsz]; exact hq), hE⟩ hsz hl
  have hkl : k < kl.length := by rw [← wl_len (cA := cA) (ev := ev) (hr := hr) (ad := ad) (g := g)]; exact (List.getElem?_eq_some_iff.mp hk).1
  refine Or.inl ⟨k, hkl, ?_⟩
  rw [wl_at (q := kl[k]) (List.getElem?_eq_getElem hkl)] at hk
  cases hk
  rfl

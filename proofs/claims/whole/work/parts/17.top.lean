theorem HX.cong {hr hr1 : Nat → Nat → Value} {ad ad1 : Nat → Nat} (h : HX hr ad) (h1 : ∀ i, i < 42 → hr1 i = hr i) (h2 : ∀ i, i < 42 → ad1 i = ad i) : HX hr1 ad1 := by
  intro q hq
  have hb : ∀ q ∈ HLX, q.1 < 42 ∧ q.2.2 < 42 := by decide
  rw [h1 _ (hb q hq).1, h2 _ (hb q hq).2]
  exact h q hq
theorem KX_len : KX.length = 42 := rfl
theorem wl_pre {cA : Nat → ClassId} {ev : EVa} {hr hr1 : Nat → Nat → Value} {ad ad1 : Nat → Nat} {g : GM} {tl : List (Nat × Nat)} (h1 : ∀ i, i < 42 → hr1 i = hr i) (h2 : ∀ i, i < 42 → ad1 i = ad i) {k : Nat} {q : Nat × va_E} (h : (wl cA ev hr ad g (KX ++ []))[k]? = some q) : (wl cA ev hr1 ad1 g (KX ++ tl))[k]? = some q := by
  have hk : k < 42 := by
    have := (List.getElem?_eq_some_iff.mp h).1
    rw [wl_len] at this
    simpa [KX_len] using this
  have e1 : (KX ++ [])[k]? = some KX[k] := by rw [List.append_nil]; exact List.getElem?_eq_getElem (by rw [KX_len]; exact hk)
  have e2 : (KX ++ tl)[k]? = some KX[k] := by rw [List.getElem?_append_left (by rw [KX_len]; exact hk)]; exact List.getElem?_eq_getElem (by rw [KX_len]; exact hk)
  rw [wl_at e1] at h
  rw [wl_at e2, ← h, h2 k hk, ent_o rfl rfl (h1 k hk)]
theorem WS.drop {D : va_G} {cA : Nat → ClassId} {ev : EVa} {hr hr1 : Nat → Nat → Value} {ad ad1 : Nat → Nat} {A : Nat → Prop} {tl : List (Nat × Nat)} {s : State} {H : Heap} {locs : List Loc} {g : GM} (hw : WS D cA ev hr1 ad1 A (KX ++ tl) s H locs g) (h1 : ∀ i, i < 42 → hr1 i = hr i) (h2 : ∀ i, i < 42 → ad1 i = ad i) : WS D cA ev hr ad A (KX ++ []) s H locs g := by
  obtain ⟨hP, hD, hS, hA, hE⟩ := hw
  exact ⟨fun k q hk => hP k q (wl_pre h1 h2 hk), ⟨fun i j p q hi hj e => hD.1 i j p q (wl_pre h1 h2 hi) (wl_pre h1 h2 hj) e, fun k q hk => hD.2 k q (wl_pre h1 h2 hk)⟩, hS, hA, hE⟩
/-! two names change places -/
def pg (sw : Nat → Nat) (g : GM) : GM := (fun a b => g.1 (sw a) b, fun a b => g.2 (sw a) b)
theorem wl_perm {cA : Nat → ClassId} {ev : EVa} {hr : Nat → Nat → Value} {ad : Nat → Nat} {g : GM} {kl : List (Nat × Nat)} {sw : Nat → Nat} (hk : ∀ i, kl[sw i]? = kl[i]?) (k : Nat) : (wl cA ev (fun i => hr (sw i)) (fun i => ad (sw i)) (pg sw g) kl)[k]? = (wl cA ev hr ad g kl)[sw k]? := by
  have e := hk k
  cases h : kl[k]? with
  | none => rw [h] at e; simp only [wl, List.getElem?_mapIdx, h, e, Option.map_none]
  | some q => rw [h] at e; rw [wl_at h, wl_at e]; rfl
theorem WS.perm {D : va_G} {cA : Nat → ClassId} {ev : EVa} {hr : Nat → Nat → Value} {ad : Nat → Nat} {A : Nat → Prop} {kl : List (Nat × Nat)} {s : State} {H : Heap} {locs : List Loc} {g : GM} (sw : Nat → Nat) (hs : ∀ i, sw (sw i) = i) (hk : ∀ i, kl[sw i]? = kl[i]?) (hw : WS D cA ev hr ad A kl s H locs g) : WS D cA ev (fun i => hr (sw i)) (fun i => ad (sw i)) A kl s H locs (pg sw g) := by
  obtain ⟨hP, hD, hS, hA, hE⟩ := hw
  refine ⟨fun k q h => hP (sw k) q (by rw [← wl_perm hk]; exact h), ⟨fun i j p q hi hj e => ?_, fun k q h => hD.2 (sw k) q (by rw [← wl_perm hk]; exact h)⟩, hS, hA, hE⟩
  have h := hD.1 (sw i) (sw j) p q (by rw [← wl_perm hk]; exact hi) (by rw [← wl_perm hk]; exact hj) e
  rw [← hs i, ← hs j, h]
def swS (i : Nat) : Nat := if 6 ≤ i ∧ i < 17 then i + 11 else if 17 ≤ i ∧ i < 28 then i - 11 else i
def swD (i : Nat) : Nat := if 28 ≤ i ∧ i < 35 then i + 7 else if 35 ≤ i ∧ i < 42 then i - 7 else i
theorem swS_2 (i : Nat) : swS (swS i) = i := by
  by_cases h1 : 6 ≤ i ∧ i < 17
  · have e : swS i = i + 11 := by simp only [swS]; rw [if_pos h1]
    rw [e]; simp only [swS]; rw [if_neg (by omega), if_pos (by omega)]; omega
  · by_cases h2 : 17 ≤ i ∧ i < 28
    · have e : swS i = i - 11 := by simp only [swS]; rw [if_neg h1, if_pos h2]
      rw [e]; simp only [swS]; rw [if_pos (by omega)]; omega
    · have e : swS i = i := by simp only [swS]; rw [if_neg h1, if_neg h2]
      rw [e, e]
theorem swD_2 (i : Nat) : swD (swD i) = i := by
  by_cases h1 : 28 ≤ i ∧ i < 35
  · have e : swD i = i + 7 := by simp only [swD]; rw [if_pos h1]
    rw [e]; simp only [swD]; rw [if_neg (by omega), if_pos (by omega)]; omega
  · by_cases h2 : 35 ≤ i ∧ i < 42
    · have e : swD i = i - 7 := by simp only [swD]; rw [if_neg h1, if_pos h2]
      rw [e]; simp only [swD]; rw [if_pos (by omega)]; omega
    · have e : swD i = i := by simp only [swD]; rw [if_neg h1, if_neg h2]
      rw [e, e]
theorem swS_k (i : Nat) : (KX ++ [])[swS i]? = (KX ++ [])[i]? := by
  by_cases h : i < 42
  · have : ∀ i, i < 42 → (KX ++ [])[swS i]? = (KX ++ [])[i]? := by decide
    exact this i h
  · have e : swS i = i := by simp only [swS]; rw [if_neg (by omega), if_neg (by omega)]
    rw [e]
theorem swD_k (i : Nat) : (KX ++ [])[swD i]? = (KX ++ [])[i]? := by
  by_cases h : i < 42
  · have : ∀ i, i < 42 → (KX ++ [])[swD i]? = (KX ++ [])[i]? := by decide
    exact this i h
  · have e : swD i = i := by simp only [swD]; rw [if_neg (by omega), if_neg (by omega)]
    rw [e]
abbrev QID (D : va_G) (cA : Nat → ClassId) (ev : EVa) (a : Nat) (A : Nat → Prop) (r : Int32) (g : GM) : Array Value → State → Outcome → State → Prop := va_Qi (fun (r' : Int32) (u : (Nat → Nat → Value) × (Nat → Nat)) => r' = r ∧ HX u.1 u.2 ∧ u.2 0 = a) (fun u t => BX D cA ev u.1 u.2 A (KX ++ []) g t) A
theorem r_iretD {p : Program} {l : Launch} {e : Env} {R : Room} {s : State} {m : MethodId} {args : Array Value} {below : List Frame} {meth : Method} {c : Code} {H : Heap} {locs : List Loc} {cells slots : Nat} {own : String} {y : MethodName} {cc : ByteArray} {nL : Nat} {D : va_G} {cA : Nat → ClassId} {ev : EVa} {hr : Nat → Nat → Value} {ad : Nat → Nat} {A : Nat → Prop} {g : GM} {pc a : Nat} {ls : Array Slot} {r : Int32}
    (C : CX p s m args meth c own y cc nL (some .int) D cA) (hw : WS D cA ev hr ad A (KX ++ []) s H locs g) (hx : HX hr ad) (h0 : ad 0 = a) (hd : decode cc pc = .ok (.ireturn, 1)) :
    W p l e R s m args below meth c H locs cells slots (MQ below (QID D cA ev a A r g) args s cells slots A) (F0 m pc ls [.int r]) := by
  obtain ⟨⟨hxx, hb, hml, hown, hts⟩, hrt, hlocks, -, hK⟩ := C
  obtain ⟨hP, hD, hS, hA, hE⟩ := hw
  exact W.iret hxx hb hrt (fun t ht hW => ⟨⟨r, (hr, ad), rfl, ⟨rfl, hx, h0⟩, by rw [ht]; exact hP, va_K.moved hW.alike hK, hD⟩, hS.F ht⟩) hS.2.2 hd

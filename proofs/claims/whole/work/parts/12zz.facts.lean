/-! what references hold, as a list (cell, slot, cell); all numbers below n -/
def HF (hr : Nat → Nat → Value) (ad : Nat → Nat) (n : Nat) (L : List (Nat × Nat × Nat)) : Prop := ∀ q ∈ L, q.1 < n ∧ q.2.2 < n ∧ hr q.1 q.2.1 = .ref (ad q.2.2)
theorem HF.nil {hr : Nat → Nat → Value} {ad : Nat → Nat} {n : Nat} : HF hr ad n [] := fun _ h => absurd h List.not_mem_nil
theorem HF.step {hr hr' : Nat → Nat → Value} {ad ad' : Nat → Nat} {n n' b : Nat} {L L' : List (Nat × Nat × Nat)} (h : HF hr ad n L) (hb : ∀ q ∈ L, q.1 < b) (h1 : ∀ i, i < b → hr' i = hr i) (h2 : ∀ i, i < n → ad' i = ad i) (hn : n ≤ n') (hnew : HF hr' ad' n' L') : HF hr' ad' n' (L' ++ L) := by
  intro q hq
  rcases List.mem_append.mp hq with h' | h'
  · exact hnew q h'
  · obtain ⟨a1, a2, a3⟩ := h q h'
    exact ⟨by omega, by omega, by rw [h1 _ (hb q h'), h2 _ a2]; exact a3⟩
theorem HF.put {hr : Nat → Nat → Value} {ad : Nat → Nat} {n i k j : Nat} {L : List (Nat × Nat × Nat)} (h : HF hr ad n L) (hL : ∀ q ∈ L, ¬ (q.1 = i ∧ q.2.1 = k)) (hi : i < n) (hj : j < n) : HF (ur hr i k (.ref (ad j))) ad n ((i, k, j) :: L) := by
  intro q hq
  rcases List.mem_cons.mp hq with h' | h'
  · subst h'; exact ⟨hi, hj, by simp [ur]⟩
  · obtain ⟨a1, a2, a3⟩ := h q h'
    refine ⟨a1, a2, ?_⟩
    rw [← a3]
    simp only [ur]
    rw [if_neg (hL q h')]
theorem HF.new {hr : Nat → Nat → Value} {ad : Nat → Nat} {n x : Nat} {L : List (Nat × Nat × Nat)} (h : HF hr ad n L) : HF (un hr n) (up ad n x) (n + 1) L := by
  intro q hq
  obtain ⟨a1, a2, a3⟩ := h q hq
  refine ⟨by omega, by omega, ?_⟩
  have e1 : q.1 ≠ n := by omega
  have e2 : q.2.2 ≠ n := by omega
  simp only [un, up, e1, e2, if_false]
  exact a3
section FACTS
variable {p : Program} {l : Launch} {e : Env} {R : Room} {s : State} {m : MethodId} {args : Array Value} {below : List Frame} {meth : Method} {c : Code} {H : Heap} {locs : List Loc} {cells slots mc ms mcc msc : Nat} {Q : State → Prop}
variable {own : String} {y : MethodName} {cc : ByteArray} {nL : Nat} {ret : Option FieldType} {D : va_G} {cA : Nat → ClassId} {ev : EVa} {hr hr' : Nat → Nat → Value} {ad ad' : Nat → Nat} {A : Nat → Prop} {kl kl' : List (Nat × Nat)} {g g' : GM} {pc : Nat} {ls : Array Slot} {rest st0 As : List Value}
variable {d dc maxL n idx i c0 k : Nat} {y2 : MethodName} {bytes : ByteArray} {ret2 : Option FieldType} {r : Int32} {L : List (Nat × Nat × Nat)}
/-- a new array goes into a field of cell 0 -/
theorem r_na {t N a : Nat} {atype : ArrayType} {ty : FieldType} {x : Int32} (C : CX p s m args meth c own y cc nL ret D cA) (hw : WS D cA ev hr ad A kl s H locs g) (h0 : ad 0 = a) (hL : HF hr ad n L) (hk0 : kl'[0]? = some (c0, NN c0))
    (hty : newarray.typeOf atype = ty) (ht : (t = 8 ∧ ty = .int) ∨ (t = 9 ∧ ty = .long) ∨ (t = 10 ∧ ty = .byte) ∨ (t = 11 ∧ ty = .boolean)) (har : Cond.arrayClass ty ∈ lw_ok) (hn : kl.length = n) (hkl : kl ++ [(t, N)] = kl') (hn0 : 0 < n) (hx0 : ¬ x < 0) (hN : x.toNatClampNeg = N) (hby : N ≤ 10000) (hc : cells + 1 ≤ R.cells) (hs : slots + N ≤ R.slots)
    (hf : FL own idx c0 k) (hfk : fk c0 k = 2) (hy : ∀ q, narrow (YY c0 k) (.ref q) = .ref q ∧ fits (YY c0 k) (.ref q) = true) (hfin : (TT c0 k).2.2.2 = false ∨ (y.name = "<init>" ∧ (TT c0 k).1 = own)) (hkL : ∀ q ∈ L, ¬ (q.1 = 0 ∧ q.2.1 = k))
    (hd : decode cc pc = .ok (.newarray atype, 2)) (hd2 : decode cc (pc + 2) = .ok (.putfield idx, 3))
    (kk : ∀ (hr1 : Nat → Nat → Value) (ad1 : Nat → Nat) (H1 : Heap) (locs1 : List Loc), ad1 0 = a → HF hr1 ad1 (n + 1) ((0, k, n) :: L) → WS D cA ev hr1 ad1 A kl' s H1 locs1 (zi g n) → W p l e R s m args below meth c H1 locs1 (cells + 1) (slots + N) Q (F0 m (pc + 2 + 3) ls rest)) : W p l e R s m args below meth c H locs cells slots Q (F0 m pc ls (.int x :: .ref a :: rest)) := by
  refine r_newa (t := t) (N := N) (n := n) C hw hty ht har hn hkl hx0 hN hby hc hs hd (fun q H1 hw => ?_)
  have hL1 : HF (un hr n) (up ad n q) (n + 1) L := hL.new
  have e0 : up ad n q 0 = a := by simp only [up]; rw [if_neg (by omega)]; exact h0
  have en : up ad n q n = q := by simp [up]
  rw [← e0]
  refine r_putR (i := 0) (q := q) C hw hk0 hf hfk (hy q).1 (hy q).2 hfin hd2 (fun H2 locs2 hw => ?_)
  have hL2 := hL1.put (i := 0) (k := k) (j := n) hkL (by omega) (by omega)
  rw [en] at hL2
  exact kk _ _ H2 locs2 e0 hL2 hw
/-- the end of a constructor: the references as a list -/
abbrev QVH (D : va_G) (cA : Nat → ClassId) (ev : EVa) (a n : Nat) (L : List (Nat × Nat × Nat)) (A : Nat → Prop) (kl : List (Nat × Nat)) (g : GM) : Array Value → State → Outcome → State → Prop := va_Qv (fun (u : (Nat → Nat → Value) × (Nat → Nat)) => HF u.1 u.2 n L ∧ u.2 0 = a) (fun u t => BX D cA ev u.1 u.2 A kl g t) A
theorem r_vretH {a : Nat} (C : CX p s m args meth c own y cc nL ret D cA) (hw : WS D cA ev hr ad A kl s H locs g) (h0 : ad 0 = a) (hL : HF hr ad n L) (hret : ret = none) (hd : decode cc pc = .ok (.return_, 1)) :
    W p l e R s m args below meth c H locs cells slots (MQ below (QVH D cA ev a n L A kl g) args s cells slots A) (F0 m pc ls []) := by
  obtain ⟨⟨hx, hb, hml, hown, hts⟩, hrt, hlocks, -, hK⟩ := C
  obtain ⟨hP, hD, hS, hA, hE⟩ := hw
  subst hret
  exact W.vret hx hb hrt (fun t ht hW => ⟨⟨(hr, ad), rfl, ⟨hL, h0⟩, by rw [ht]; exact hP, va_K.moved hW.alike hK, hD⟩, hS.F ht⟩) hS.2.2 hd
theorem r_getRa {v : Value} {a : Nat} (C : CX p s m args meth c own y cc nL ret D cA) (hw : WS D cA ev hr ad A kl s H locs g) (ha : ad i = a) (hk : kl[i]? = some (c0, NN c0)) (hf : FL own idx c0 k) (ht : fk c0 k = 2) (hv : hr i k = v) (hd : decode cc pc = .ok (.getfield idx, 3))
    (kk : W p l e R s m args below meth c H locs cells slots Q (F0 m (pc + 3) ls (v :: rest))) : W p l e R s m args below meth c H locs cells slots Q (F0 m pc ls (.ref a :: rest)) := by
  subst ha
  exact r_getR C hw hk hf ht hv hd kk
/-- new, dup, the constructor, into a field of cell 0 -/
theorem r_nc {a c1 idx1 idx2 mcc msc n2 : Nat} {L' : List (Nat × Nat × Nat)} {kl1 kl2 : List (Nat × Nat)} {hrf : (Nat → Nat → Value) → (Nat → Nat) → Nat → Nat → Value} (C : CX p s m args meth c own y cc nL ret D cA) (hw : WS D cA ev hr ad A kl s H locs g) (h0 : ad 0 = a) (hL : HF hr ad n L)
    (h8 : c1 < 8) (hcl : Cond.classLink own idx1 (RR c1) ∈ lw_ok) (hin : Cond.instantiable (RR c1) (NN c1) ∈ lw_ok) (hini : Cond.initialized (RR c1) ∈ lw_ok) (hn : kl.length = n) (hkl : kl ++ [(c1, NN c1)] = kl1) (hn0 : 0 < n) (hcv : CI own idx2 y2 bytes maxL 0)
    (hM : ∀ (q sz : Nat), Met l y2 (WSX y2 bytes maxL none) (RM dc mcc msc) (va_Pc [.ref (up ad n q n)] (PX D cA ev (un hr n) (up ad n q) kl1 (zi g n) sz)) (QVA D cA ev (hrf (un hr n)) (up ad n q) (n + 1) (AX (up ad n q) kl1.length sz) kl2 g') mcc msc (AX (up ad n q) kl1.length sz))
    (hfac : ∀ (hr : Nat → Nat → Value) (a : Nat → Nat), (∀ i, i < n → hrf hr a i = hr i) ∧ HF (hrf hr a) a n2 L') (hn2 : n < n2) (hk0 : kl2[0]? = some (c0, NN c0)) (hf : FL own idx c0 k) (hfk : fk c0 k = 2) (hy : ∀ q, narrow (YY c0 k) (.ref q) = .ref q ∧ fits (YY c0 k) (.ref q) = true) (hfin : (TT c0 k).2.2.2 = false ∨ (y.name = "<init>" ∧ (TT c0 k).1 = own)) (hkL : ∀ q ∈ L' ++ L, ¬ (q.1 = 0 ∧ q.2.1 = k))
    (hdd : dc + 1 ≤ d) (hls : ls.size = nL) (hro : ((.ref 0 :: .ref a :: rest).map fun v => v.category).sum ≤ 8) (hc : cells + 1 + mcc ≤ mc) (hs : slots + NN c1 + msc ≤ ms)
    (hd1 : decode cc pc = .ok (.new idx1, 3)) (hd2 : decode cc (pc + 3) = .ok (.dup, 1)) (hd3 : decode cc (pc + 3 + 1) = .ok (.invokespecial idx2, 3)) (hd4 : decode cc (pc + 3 + 1 + 3) = .ok (.putfield idx, 3))
    (kk : ∀ (hr1 : Nat → Nat → Value) (ad1 : Nat → Nat) (H1 : Heap) (locs1 : List Loc), ad1 0 = a → HF hr1 ad1 n2 ((0, k, n) :: (L' ++ L)) → WS D cA ev hr1 ad1 A kl2 s H1 locs1 g' → W p l e (RM d mc ms) s m args below meth c H1 locs1 (cells + 1 + mcc) (slots + NN c1 + msc) Q (F0 m (pc + 3 + 1 + 3 + 3) ls rest)) :
    W p l e (RM d mc ms) s m args below meth c H locs cells slots Q (F0 m pc ls (.ref a :: rest)) := by
  refine r_new (c0 := c1) (n := n) C hw h8 hcl hin hini hn hkl (by show _ ≤ mc; omega) (by show _ ≤ ms; omega) hd1 (fun q H hw => ?_)
  refine lv_dup C.1.1 C.1.2.1 hd2 rfl ?_
  have en : up ad n q n = q := by simp [up]
  have e0 : up ad n q 0 = a := by simp only [up]; rw [if_neg (by omega)]; exact h0
  refine r_iVA (i := n) (As := []) (rest := .ref q :: .ref a :: rest) C hw hcv (hM q) hdd rfl (by rw [en]; rfl) hls hro hd3 ⟨hc, hs⟩ (fun b H locs hw => ?_)
  have hE0 : ex (up ad n q) (n + 1) b 0 = a := by simp only [ex]; rw [if_pos (by omega)]; exact e0
  have hEn : ex (up ad n q) (n + 1) b n = q := by simp only [ex]; rw [if_pos (by omega)]; exact en
  have hL1 : HF (un hr n) (up ad n q) (n + 1) L := hL.new
  obtain ⟨f1, f2⟩ := hfac (un hr n) (ex (up ad n q) (n + 1) b)
  have hL2 : HF (hrf (un hr n) (ex (up ad n q) (n + 1) b)) (ex (up ad n q) (n + 1) b) n2 (L' ++ L) := by
    intro x hx
    rcases List.mem_append.mp hx with h' | h'
    · exact f2 x h'
    · obtain ⟨a1, a2, a3⟩ := hL x h'
      obtain ⟨b1, b2, b3⟩ := hL1 x h'
      refine ⟨by omega, by omega, ?_⟩
      rw [f1 _ a1, b3]
      simp only [ex]
      rw [if_pos (by omega)]
  generalize hrf (un hr n) (ex (up ad n q) (n + 1) b) = hr2 at hw hL2
  generalize ex (up ad n q) (n + 1) b = ad2 at hw hL2 hE0 hEn
  have hL3 := hL2.put (i := 0) (k := k) (j := n) hkL (by omega) hn2
  subst hE0
  rw [← hEn]
  exact r_putR (i := 0) (q := ad2 n) C hw hk0 hf hfk (hy _).1 (hy _).2 hfin hd4 (fun H2 locs2 hw => kk _ _ H2 locs2 rfl hL3 hw)
theorem HF.mono {L2 : List (Nat × Nat × Nat)} (h : HF hr ad n L) (hs : ∀ q ∈ L2, q ∈ L) : HF hr ad n L2 := fun q hq => h q (hs q hq)
end FACTS

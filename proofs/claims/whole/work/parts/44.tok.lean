/-! one token, on both sides -/
abbrev Tk : Type := Option (Option ((Int64 × Int64) ⊕ Nat ⊕ Nat ⊕ Nat))
abbrev Tk.fin : Tk := none
abbrev Tk.bad : Tk := some none
abbrev Tk.nam (w v : Int64) : Tk := some (some (.inl (w, v)))
abbrev Tk.wrd (i : Nat) : Tk := some (some (.inr (.inl i)))
abbrev Tk.num (k : Nat) : Tk := some (some (.inr (.inr (.inl k))))
abbrev Tk.sgn (c : Nat) : Tk := some (some (.inr (.inr (.inr c))))
def SG (w : Bool) : List Nat := if w then [58, 44, 59, 35, 45, 46, 60, 62, 61, 40, 41] else [58, 44, 59, 35, 45, 46]
theorem ix0 : ∀ v, v < 256 → ((∀ k, k < 6 → ¬ (SBYT.getD 0 []).getD k 0 = sx v) ↔ ¬ v ∈ SG false) := by decide +kernel
theorem ix2 : ∀ v, v < 256 → ((∀ k, k < 11 → ¬ (SBYT.getD 2 []).getD k 0 = sx v) ↔ ¬ v ∈ SG true) := by decide +kernel
theorem enc_ok : ∀ v, v < 256 → F_J1_canEncode_9a6ad (nI v) = some 1 := by decide +kernel
theorem j_char {j N : Nat} (hN : N = SLEN.getD j 0) (hN2 : N ≤ 48) (x : Int32) : ∃ r, ((r = -1 ∧ ∀ k, k < N → ¬ (SBYT.getD j []).getD k 0 = x) ∨ (∃ k, k < N ∧ r = nI k ∧ (SBYT.getD j []).getD k 0 = x)) ∧ fixN (F_J1_indexOfChar_4cfef_7B j (nI N) x) FU (nI 0) = some r := by
  refine fix_inv (I := fun i st => st = nI i ∧ ∀ k, k < i → ¬ (SBYT.getD j []).getD k 0 = x) (R := fun r => (r = -1 ∧ ∀ k, k < N → ¬ (SBYT.getD j []).getD k 0 = x) ∨ (∃ k, k < N ∧ r = nI k ∧ (SBYT.getD j []).getD k 0 = x)) N ?_ ?_ N 0 FU (nI 0) (by omega) (by show N < 70000; omega) ⟨rfl, fun k hk => by omega⟩
  · rintro i st hi ⟨rfl, hno⟩
    have step : ∀ kb, F_J1_indexOfChar_4cfef_7B j (nI N) x kb (nI i) = if (SBYT.getD j []).getD i 0 = x then some (nI i) else kb (nI (i + 1)) := by
      intro kb
      unfold F_J1_indexOfChar_4cfef_7B
      rw [if_neg (nI_ge hi (by omega)), ← hN, ck_true (inB_nI hi (by omega)), nI_clamp (by omega), lt_def, nI_1]
    by_cases c : (SBYT.getD j []).getD i 0 = x
    · exact Or.inr ⟨nI i, Or.inr ⟨i, hi, rfl, c⟩, fun kb => by rw [step, if_pos c]⟩
    · refine Or.inl ⟨_, ⟨rfl, fun k hk => ?_⟩, fun kb => by rw [step, if_neg c]⟩
      by_cases e : k = i
      · subst e; exact c
      · exact hno k (by omega)
  · rintro st ⟨rfl, hno⟩
    refine ⟨-1, Or.inl ⟨rfl, hno⟩, fun kb => ?_⟩
    unfold F_J1_indexOfChar_4cfef_7B
    rw [if_pos (nI_le (Nat.le_refl _) (by omega))]
theorem j_index {j N : Nat} (hN : N = SLEN.getD j 0) (hN2 : N ≤ 48) (hN3 : 0 < N) {v : Nat} (hv : v < 256) : ∃ r, F_J0_indexOf_0f7a4 j (nI v) = some r ∧ (r < 0 ↔ ∀ k, k < N → ¬ (SBYT.getD j []).getD k 0 = sx v) := by
  obtain ⟨r, hr, e⟩ := j_char hN hN2 (sx v)
  refine ⟨r, ?_, ?_⟩
  · have h1 : F_J0_isLatin1_aae02 j = some 1 := rfl
    have h2 : F_J0_length_8abf5 j = some (nI N) := by
      have : F_J0_length_8abf5 j = some (nI (SLEN.getD j 0) >>> ((0 : Int32) &&& 31)) := rfl
      rw [this, ← hN, show ((0 : Int32) &&& 31) = nI 0 &&& 31 from rfl, nI_shr (by omega) (by omega)]
      simp
    have h3 : F_J9_max_7cf53 0 0 = some (nI 0) := rfl
    have h4 : F_J9_min_7cf53 (nI N) (nI (SLEN.getD j 0)) = some (nI N) := by rw [← hN, j_min (by omega) (by omega), Nat.min_self]
    unfold F_J0_indexOf_0f7a4 F_J0_indexOf_7cf53
    rw [h1, Option.bind_some, if_neg (by decide), h2, Option.bind_some]
    unfold F_J1_indexOf_4cfef
    rw [enc_ok v hv, Option.bind_some, if_neg (by decide), h3, Option.bind_some, lt_def, h4, Option.bind_some, lt_def, if_pos (nI_lt hN3 (by omega))]
    unfold F_J1_indexOfChar_4cfef
    rw [lt_def]
    have e' : fixN (F_J1_indexOfChar_4cfef_7B j (nI N) (nI v).toInt8.toInt32) FU (nI 0) = some r := e
    rw [e']
    rfl
  · rcases hr with ⟨rfl, h⟩ | ⟨k, hk, rfl, h⟩
    · exact ⟨fun _ => h, fun _ => by decide⟩
    · exact ⟨fun q => absurd q (nI_pos (by omega)), fun q => absurd h (q k hk)⟩
theorem x_ix {w : Bool} {v : Nat} (hv : v < 256) : ∃ r, ixS (if w then 2 else 1) (nI v) = some r ∧ (r < 0 ↔ ¬ v ∈ SG w) := by
  cases w with
  | false =>
    obtain ⟨r, h1, h2⟩ := j_index (j := 0) (N := 6) rfl (by decide) (by decide) hv
    exact ⟨r, h1, h2.trans (ix0 v hv)⟩
  | true =>
    obtain ⟨r, h1, h2⟩ := j_index (j := 2) (N := 11) rfl (by decide) (by decide) hv
    exact ⟨r, h1, h2.trans (ix2 v hv)⟩
theorem m_isSign {g : GM} {w : Bool} (hw : gi g 0 11 = if w then 1 else 0) {v : Nat} (hv : v < 256) : (v ∈ SG w → F_X7_isSign (nI v) g = some 1) ∧ (¬ v ∈ SG w → F_X7_isSign (nI v) g = some 0) := by
  have e : ∀ c, c < 256 → (nI v = nI c ↔ v = c) := fun c hc => nI_eq (by omega) (by omega)
  unfold F_X7_isSign F_X7_isSign_73 F_X7_isSign_77
  rw [hw]
  simp only [show (58 : Int32) = nI 58 from rfl, show (44 : Int32) = nI 44 from rfl, show (59 : Int32) = nI 59 from rfl, show (35 : Int32) = nI 35 from rfl, show (45 : Int32) = nI 45 from rfl, show (46 : Int32) = nI 46 from rfl, show (60 : Int32) = nI 60 from rfl, show (62 : Int32) = nI 62 from rfl, show (61 : Int32) = nI 61 from rfl, show (40 : Int32) = nI 40 from rfl, show (41 : Int32) = nI 41 from rfl, e 58 (by decide), e 44 (by decide), e 59 (by decide), e 35 (by decide), e 45 (by decide), e 46 (by decide), e 60 (by decide), e 62 (by decide), e 61 (by decide), e 40 (by decide), e 41 (by decide)]
  cases w with
  | false =>
    simp only [SG, Bool.false_eq_true, if_false, if_true, List.mem_cons, List.not_mem_nil, or_false]
    constructor
    · intro h
      rcases h with h | h | h | h | h | h <;> simp [h]
    · intro h
      simp only [not_or] at h
      simp [h.1, h.2.1, h.2.2.1, h.2.2.2.1, h.2.2.2.2.1, h.2.2.2.2.2]
  | true =>
    simp only [SG, if_true, List.mem_cons, List.not_mem_nil, or_false]
    constructor
    · intro h
      rcases h with h | h | h | h | h | h | h | h | h | h | h <;> simp [h]
    · intro h
      simp only [not_or] at h
      obtain ⟨h1, h2, h3, h4, h5, h6, h7, h8, h9, h10, h11⟩ := h
      simp [h1, h2, h3, h4, h5, h6, h7, h8, h9, h10, h11]
def kX : Tk → Int32
  | none => 0
  | some none => 1
  | some (some (.inl (_, _))) => 2
  | some (some (.inr (.inl i))) => nI (4 + i)
  | some (some (.inr (.inr (.inl _)))) => 3
  | some (some (.inr (.inr (.inr c)))) => nI c
def kM : Tk → Int32
  | none => 0
  | some none => 1
  | some (some (.inl (_, _))) => 2
  | some (some (.inr (.inl _))) => 3
  | some (some (.inr (.inr (.inl _)))) => 4
  | some (some (.inr (.inr (.inr _)))) => 5
def dX (g : GM) : Tk → Prop
  | some (some (.inl (w, v))) => gl g 1 8 = w ∧ NR w v
  | some (some (.inr (.inl i))) => i < 11
  | some (some (.inr (.inr (.inl k)))) => gi g 1 7 = nI k ∧ k < 1000000
  | some (some (.inr (.inr (.inr c)))) => c ∈ SG true
  | some none => True
  | none => True
def dM (g : GM) (len : Nat) (tx : Nat → Nat) (s : Nat) : Tk → Prop
  | some (some (.inl (_, v))) => gl g 0 10 = v
  | some (some (.inr (.inl i))) => gl g 0 10 = wM i
  | some (some (.inr (.inr (.inl k)))) => gi g 0 9 = nI k
  | some (some (.inr (.inr (.inr c)))) => s < len ∧ tx s = c
  | some none => True
  | none => True
def TkX (g : GM) (t : Tk) (s e : Nat) : Prop := gi g 1 4 = nI e ∧ gi g 1 6 = nI s ∧ gi g 1 5 = kX t ∧ dX g t
def TkM (g : GM) (len : Nat) (tx : Nat → Nat) (t : Tk) (s e : Nat) : Prop := gi g 0 7 = nI e ∧ gi g 0 6 = nI s ∧ gi g 0 8 = kM t ∧ dM g len tx s t
/-- the token's own slots -/
def FrX (g g' : GM) : Prop := (∀ a b, ¬ (a = 1 ∧ (b = 4 ∨ b = 5 ∨ b = 6 ∨ b = 7)) → gi g' a b = gi g a b) ∧ ∀ a b, ¬ (a = 1 ∧ b = 8) → gl g' a b = gl g a b
def FrM (g g' : GM) : Prop := (∀ a b, ¬ (a = 0 ∧ (b = 6 ∨ b = 7 ∨ b = 8 ∨ b = 9)) → gi g' a b = gi g a b) ∧ ∀ a b, ¬ (a = 0 ∧ b = 10) → gl g' a b = gl g a b
theorem FrX.rf (g : GM) : FrX g g := ⟨fun _ _ _ => rfl, fun _ _ _ => rfl⟩
theorem FrX.si {g g' : GM} {k : Nat} {v : Int32} (h : FrX g g') (hk : k = 4 ∨ k = 5 ∨ k = 6 ∨ k = 7) : FrX g (si g' 1 k v) := ⟨fun a b q => by rw [gi_si, if_neg (fun r => q ⟨r.1, by rw [r.2]; exact hk⟩)]; exact h.1 a b q, fun a b q => by rw [gl_si]; exact h.2 a b q⟩
theorem FrX.sl {g g' : GM} {v : Int64} (h : FrX g g') : FrX g (sl g' 1 8 v) := ⟨fun a b q => h.1 a b q, fun a b q => by rw [gl_sl, if_neg q]; exact h.2 a b q⟩
theorem FrM.rf (g : GM) : FrM g g := ⟨fun _ _ _ => rfl, fun _ _ _ => rfl⟩
theorem FrM.si {g g' : GM} {k : Nat} {v : Int32} (h : FrM g g') (hk : k = 6 ∨ k = 7 ∨ k = 8 ∨ k = 9) : FrM g (si g' 0 k v) := ⟨fun a b q => by rw [gi_si, if_neg (fun r => q ⟨r.1, by rw [r.2]; exact hk⟩)]; exact h.1 a b q, fun a b q => by rw [gl_si]; exact h.2 a b q⟩
theorem FrM.sl {g g' : GM} {v : Int64} (h : FrM g g') : FrM g (sl g' 0 10 v) := ⟨fun a b q => h.1 a b q, fun a b q => by rw [gl_sl, if_neg q]; exact h.2 a b q⟩
def RsX (g : GM) : Prop := ∀ i, i < 11 → gl g 3 i = wX i
theorem m_kept {w v : Int64} (h : NR w v) : ((∃ i, i < 11 ∧ w = wX i) → F_X7_isKept v = some 1) ∧ ((∀ i, i < 11 → ¬ w = wX i) → F_X7_isKept v = some 0) := by
  obtain ⟨t0, t1, t2, t3, t4, t5, t6, t7, t8, t9, t10⟩ := wM_tab
  unfold F_X7_isKept F_X7_isKept_88
  simp only [lg_cmp_eq, ← t0, ← t1, ← t2, ← t3, ← t4, ← t5, ← t6, ← t7, ← t8, ← t9, ← t10]
  constructor
  · rintro ⟨i, hi, he⟩
    have hv := (h.iff (NRw hi)).mp he
    subst hv
    match i, hi with
    | 0, _ => simp
    | 1, _ => simp
    | 2, _ => simp
    | 3, _ => simp
    | 4, _ => simp
    | 5, _ => simp
    | 6, _ => simp
    | 7, _ => simp
    | 8, _ => simp
    | 9, _ => simp
    | 10, _ => simp
  · intro hno
    have hv : ∀ i, i < 11 → ¬ v = wM i := fun i hi q => hno i hi ((h.iff (NRw hi)).mpr q)
    simp only [hv 0 (by decide), hv 1 (by decide), hv 2 (by decide), hv 3 (by decide), hv 4 (by decide), hv 5 (by decide), hv 6 (by decide), hv 7 (by decide), hv 8 (by decide), hv 9 (by decide), hv 10 (by decide), if_false]

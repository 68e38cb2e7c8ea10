/-! new objects -/
theorem zg0 (n : Nat) : zi G0 n = G0 := by
  unfold zi G0
  congr 1
  · funext a b; dsimp only; split <;> rfl
  · funext a b; dsimp only; split <;> rfl
theorem zi_id {g : GM} {n : Nat} (h1 : ∀ i, gi g n i = 0) (h2 : ∀ i, gl g n i = 0) : zi g n = g := by
  obtain ⟨g1, g2⟩ := g
  unfold zi
  congr 1
  · funext a b
    dsimp only
    by_cases e : a = n
    · subst e; rw [if_pos rfl]; exact (h1 b).symm
    · rw [if_neg e]
  · funext a b
    dsimp only
    by_cases e : a = n
    · subst e; rw [if_pos rfl]; exact (h2 b).symm
    · rw [if_neg e]
theorem m_init : ∃ g', F_X7_init (zi G0 0) = some g' ∧ (∀ a i, ¬ a = 32 → gi g' a i = if a = 0 ∧ i = 5 then -1 else 0) ∧ (∀ j, j < 25 → gi g' 32 j = -1) ∧ ∀ a i, gl g' a i = 0 := by
  have zz : ∀ n, ¬ n = 0 → zi (si G0 0 5 (-1)) n = si G0 0 5 (-1) := fun n hn => zi_id (fun i => by rw [gi_si, if_neg (by omega)]; rfl) (fun i => rfl)
  have hl := fix_to (B := F_X7_init_272B) (I := fun i s => s.1 = nI i ∧ (∀ a k, ¬ a = 32 → gi s.2 a k = gi (si G0 0 5 (-1)) a k) ∧ (∀ a k, gl s.2 a k = 0) ∧ ∀ j, j < i → gi s.2 32 j = -1) (E := fun s => some s.2) 25 (fun i s hi hI => ?_) (fun s hI kb => ?_) 25 0 FU (0, si G0 0 5 (-1)) rfl (by decide) ⟨rfl, fun _ _ _ => rfl, fun _ _ => rfl, fun j hj => by omega⟩
  · obtain ⟨⟨x, g'⟩, ⟨_, i1, i2, i3⟩, he⟩ := hl
    dsimp only at i1 i2 i3 he
    refine ⟨g', ?_, fun a i ha => by rw [i1 a i ha, gi_si]; rfl, i3, i2⟩
    unfold F_X7_init
    rw [zg0, lt_def, zg0, lt_def, zg0, lt_def]
    rw [lt_def, zz _ (by decide), lt_def, zz _ (by decide), lt_def, zz _ (by decide), lt_def, zz _ (by decide), lt_def, zz _ (by decide), lt_def, zz _ (by decide), lt_def, zz _ (by decide), lt_def, zz _ (by decide), lt_def, zz _ (by decide), lt_def, zz _ (by decide), lt_def, zz _ (by decide), lt_def, zz _ (by decide), lt_def, zz _ (by decide), lt_def, zz _ (by decide), lt_def, zz _ (by decide), lt_def, zz _ (by decide), lt_def, zz _ (by decide), lt_def, zz _ (by decide), lt_def, zz _ (by decide), lt_def, zz _ (by decide), lt_def, zz _ (by decide), lt_def, zz _ (by decide), lt_def, zz _ (by decide), lt_def, zz _ (by decide), lt_def, zz _ (by decide), lt_def, zz _ (by decide), lt_def, zz _ (by decide), lt_def, zz _ (by decide), lt_def, zz _ (by decide), lt_def, zz _ (by decide)]
    exact he
  · obtain ⟨x, g'⟩ := s
    obtain ⟨hx, i1, i2, i3⟩ := hI
    dsimp only at hx i1 i2 i3
    subst hx
    refine ⟨(nI (i + 1), si g' 32 i (-1)), ⟨rfl, fun a k ha => ?_, fun a k => i2 a k, fun j hj => ?_⟩, fun kb => ?_⟩
    · show gi (si g' 32 i _) a k = _
      rw [gi_si, if_neg (by omega)]; exact i1 a k ha
    · show gi (si g' 32 i _) 32 j = _
      by_cases e : j = i
      · subst e; rw [gi_same]
      · rw [gi_si, if_neg (by omega)]; exact i3 j (by omega)
    · unfold F_X7_init_272B
      dsimp only
      rw [if_neg (show ¬ (25 : Int32) ≤ nI i from nI_ge (a := i) (b := 25) hi (by decide)), ck_true (inB_nI hi (by decide)), nI_clamp (by omega), lt_def, lt_def, nI_1]
  · obtain ⟨x, g'⟩ := s
    obtain ⟨hx, _⟩ := hI
    dsimp only at hx
    subst hx
    unfold F_X7_init_272B
    dsimp only
    rw [if_pos (by decide)]
/-! the reserved words of the class -/
def chr (i : Nat) : Int32 := (F_J0_charAt_5068e 1 (nI i)).getD 0
theorem chr_ok : ∀ i, i < 48 → F_J0_charAt_5068e 1 (nI i) = some (chr i) := by decide +kernel
theorem len_ok : F_J0_length_8abf5 1 = some 48 := by decide +kernel
def fl : Nat → Nat
  | 0 => 0
  | i + 1 => if chr i = 32 then fl i + 1 else fl i
theorem fl_ok : ∀ i, i < 48 → fl i < 11 := by decide +kernel
def pw : Nat → Nat → Int64
  | 0, _ => 0
  | i + 1, k => if chr i = 32 then pw i k else if k = fl i then pw i k * 32 + ((chr i - 97) + 1).toInt64 else pw i k
theorem pw_ok : ∀ k, k < 11 → pw 48 k = wX k := by decide +kernel

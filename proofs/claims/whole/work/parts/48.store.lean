/-! the stores of both sides -/
abbrev St : Type := (Nat × Nat) × ((Nat → Nat) × (Nat → Nat) × (Nat → Nat → Nat)) × ((Nat → Nat) × (Nat → Nat) × (Nat → Nat → Nat))
/-- tables, rows; of a table its columns, its rows; of a column its link; of a row its table, its number; its values -/
def sT (S : St) : Nat := S.1.1
def sR (S : St) : Nat := S.1.2
def sC (S : St) : Nat → Nat := S.2.1.1
def sQ (S : St) : Nat → Nat := S.2.1.2.1
def sL (S : St) : Nat → Nat → Nat := S.2.1.2.2
def sB (S : St) : Nat → Nat := S.2.2.1
def sK (S : St) : Nat → Nat := S.2.2.2.1
def sV (S : St) : Nat → Nat → Nat := S.2.2.2.2
def Cm (B b : Nat) (gx gm : GM) (S : St) (t c : Nat) : Prop := NR (gl gx (B + 4) (t * 5 + c)) (gl gm 4 (5 * (5 * b + t) + c)) ∧ sL S t c ≤ sT S ∧ gi gx (B + 5) (t * 5 + c) = cd 0 (sL S t c) ∧ gi gm 7 (5 * (5 * b + t) + c) = cd (5 * b) (sL S t c)
def Tb (B b : Nat) (gx gm : GM) (S : St) (t : Nat) : Prop := sC S t ≤ 5 ∧ sQ S t ≤ sR S ∧ NR (gl gx (B + 1) t) (gl gm 3 (5 * b + t)) ∧ gi gx (B + 2) t = nI (sC S t) ∧ gi gm 5 (5 * b + t) = nI (sC S t) ∧ gi gx (B + 3) t = nI (sQ S t) ∧ gi gm 6 (5 * b + t) = nI (sQ S t) ∧ ∀ c, c < sC S t → Cm B b gx gm S t c
def RT (B b : Nat) (gx gm : GM) (S : St) : Prop := b < 2 ∧ sT S ≤ 5 ∧ gi gx B 0 = nI (sT S) ∧ gi gm 12 b = nI (sT S) ∧ ∀ t, t < sT S → Tb B b gx gm S t
def Rw (B b : Nat) (gx gm : GM) (S : St) (r : Nat) : Prop := sB S r < sT S ∧ sK S r < sQ S (sB S r) ∧ gi gx (B + 6) r = nI (sB S r) ∧ gi gm 8 (16 * b + r) = nI (5 * b + sB S r) ∧ gi gx (B + 7) r = nI (sK S r) ∧ gi gm 9 (16 * b + r) = nI (sK S r) ∧ ∀ c, c < sC S (sB S r) → sV S r c ≤ 1000000 ∧ gi gm 10 (5 * (16 * b + r) + c) = cd 0 (sV S r c)
def RRw (B b : Nat) (gx gm : GM) (S : St) : Prop := sR S ≤ 16 ∧ gi gx B 6 = nI (sR S) ∧ gi gm 13 b = nI (sR S) ∧ (∀ r, r < sR S → Rw B b gx gm S r) ∧ ∀ u v, u < sT S → v < sQ S u → ∃ r, r < sR S ∧ sB S r = u ∧ sK S r = v
/-- the class's cells as they are read -/
def RC (B b : Nat) (gx gm : GM) (S : St) : Prop := (∀ r, r < sR S → ∀ c, c < 5 → gi gx (B + 8) (r * 5 + c) = (if c < sC S (sB S r) then cd 0 (sV S r c) else -1) ∧ (c < sC S (sB S r) → 0 < sV S r c → ∃ p, p ≤ 1200 ∧ gi gx (B + 9) (r * 5 + c) = nI p ∧ gi gm 11 (5 * (16 * b + r) + c) = nI p)) ∧ ∀ r, sR S ≤ r → r < 16 → ∀ c, c < 5 → gi gx (B + 8) (r * 5 + c) = -1
/-- the places of a store -/
def AgX (B : Nat) (g g' : GM) : Prop := ∀ a i, B ≤ a → a ≤ B + 10 → gi g' a i = gi g a i ∧ gl g' a i = gl g a i
def BKm (b a i : Nat) : Prop := ((a = 12 ∨ a = 13) ∧ i = b) ∨ ((a = 3 ∨ a = 5 ∨ a = 6) ∧ 5 * b ≤ i ∧ i < 5 * b + 5) ∨ ((a = 4 ∨ a = 7) ∧ 25 * b ≤ i ∧ i < 25 * b + 25) ∨ ((a = 8 ∨ a = 9) ∧ 16 * b ≤ i ∧ i < 16 * b + 16) ∨ ((a = 10 ∨ a = 11) ∧ 80 * b ≤ i ∧ i < 80 * b + 80)
def AgM (b : Nat) (g g' : GM) : Prop := ∀ a i, BKm b a i → gi g' a i = gi g a i ∧ gl g' a i = gl g a i
theorem RT.ag {B b : Nat} {gx gm gx' gm' : GM} {S : St} (h : RT B b gx gm S) (hx : AgX B gx gx') (hm : AgM b gm gm') : RT B b gx' gm' S := by
  obtain ⟨h1, h2, h3, h4, h5⟩ := h
  refine ⟨h1, h2, by rw [(hx _ _ (by omega) (by omega)).1]; exact h3, by rw [(hm _ _ (by unfold BKm; omega)).1]; exact h4, fun t ht => ?_⟩
  obtain ⟨a1, a2, a3, a4, a5, a6, a7, a8⟩ := h5 t ht
  refine ⟨a1, a2, ?_, ?_, ?_, ?_, ?_, fun c hc => ?_⟩
  · rw [(hx _ _ (by omega) (by omega)).2, (hm _ _ (by unfold BKm; omega)).2]; exact a3
  · rw [(hx _ _ (by omega) (by omega)).1]; exact a4
  · rw [(hm _ _ (by unfold BKm; omega)).1]; exact a5
  · rw [(hx _ _ (by omega) (by omega)).1]; exact a6
  · rw [(hm _ _ (by unfold BKm; omega)).1]; exact a7
  · obtain ⟨c1, c2, c3, c4⟩ := a8 c hc
    refine ⟨?_, c2, ?_, ?_⟩
    · rw [(hx _ _ (by omega) (by omega)).2, (hm _ _ (by unfold BKm; omega)).2]; exact c1
    · rw [(hx _ _ (by omega) (by omega)).1]; exact c3
    · rw [(hm _ _ (by unfold BKm; omega)).1]; exact c4
theorem RRw.ag {B b : Nat} {gx gm gx' gm' : GM} {S : St} (h : RRw B b gx gm S) (ht : RT B b gx gm S) (hx : AgX B gx gx') (hm : AgM b gm gm') : RRw B b gx' gm' S := by
  obtain ⟨h1, h2, h3, h4, h5⟩ := h
  refine ⟨h1, by rw [(hx _ _ (by omega) (by omega)).1]; exact h2, by rw [(hm _ _ (by unfold BKm; omega)).1]; exact h3, fun r hr => ?_, h5⟩
  obtain ⟨a1, a2, a3, a4, a5, a6, a7⟩ := h4 r hr
  have hC := (ht.2.2.2.2 _ a1).1
  refine ⟨a1, a2, ?_, ?_, ?_, ?_, fun c hc => ⟨(a7 c hc).1, ?_⟩⟩
  · rw [(hx _ _ (by omega) (by omega)).1]; exact a3
  · rw [(hm _ _ (by unfold BKm; omega)).1]; exact a4
  · rw [(hx _ _ (by omega) (by omega)).1]; exact a5
  · rw [(hm _ _ (by unfold BKm; omega)).1]; exact a6
  · rw [(hm _ _ (by unfold BKm; omega)).1]; exact (a7 c hc).2
theorem RC.ag {B b : Nat} {gx gm gx' gm' : GM} {S : St} (h : RC B b gx gm S) (hR : sR S ≤ 16) (hx : AgX B gx gx') (hm : AgM b gm gm') : RC B b gx' gm' S := by
  refine ⟨fun r hr c hc => ⟨?_, fun h1 h2 => ?_⟩, fun r h1 h2 c hc => ?_⟩
  · rw [(hx _ _ (by omega) (by omega)).1]; exact (h.1 r hr c hc).1
  · rw [(hx _ _ (by omega) (by omega)).1, (hm _ _ (by unfold BKm; omega)).1]; exact (h.1 r hr c hc).2 h1 h2
  · rw [(hx _ _ (by omega) (by omega)).1]; exact h.2 r h1 h2 c hc
theorem Ow.agX {B : Nat} {g g' : GM} (h : Ow PT QT g g') (hB : 2 ≤ B) : AgX B g g' := fun a i h1 h2 => ⟨h.1 a i (fun q => by have := q.1; omega), h.2 a i (fun q => by have := q.1; omega)⟩
theorem Ow.agM {b : Nat} {g g' : GM} (h : Ow PTm QTm g g') : AgM b g g' := fun a i hq => ⟨h.1 a i (fun q => by have := q.1; unfold BKm at hq; omega), h.2 a i (fun q => by have := q.1; unfold BKm at hq; omega)⟩
theorem AgX.tr {B : Nat} {g1 g2 g3 : GM} (h1 : AgX B g1 g2) (h2 : AgX B g2 g3) : AgX B g1 g3 := fun a i p q => ⟨(h2 a i p q).1.trans (h1 a i p q).1, (h2 a i p q).2.trans (h1 a i p q).2⟩
theorem AgM.tr {b : Nat} {g1 g2 g3 : GM} (h1 : AgM b g1 g2) (h2 : AgM b g2 g3) : AgM b g1 g3 := fun a i p => ⟨(h2 a i p).1.trans (h1 a i p).1, (h2 a i p).2.trans (h1 a i p).2⟩
theorem AgX.rf {B : Nat} {g : GM} : AgX B g g := fun a i _ _ => ⟨rfl, rfl⟩
theorem AgM.rf {b : Nat} {g : GM} : AgM b g g := fun a i _ => ⟨rfl, rfl⟩
/-! names looked up -/
theorem m_tableOf {g : GM} {b n : Nat} (hb : b < 2) (hn : n ≤ 5) (h : gi g 12 b = nI n) (v : Int64) : F_X7_tableOf (nI b) v g = some (cd (5 * b) (ff (fun t => decide (gl g 3 (5 * b + t) = v)) n 0)) := by
  unfold F_X7_tableOf
  rw [l5, lt_def]
  refine fix_ff0 (fun i => nI (5 * b + i)) n (fun t => decide (gl g 3 (5 * b + t) = v)) (fun k => some (cd (5 * b) k)) (fun i hi kb => ?_) (fun kb => ?_) (by omega)
  · unfold F_X7_tableOf_5B
    rw [ck_true (inB_nI hb (by decide)), nI_clamp (by omega), h, l5, nI_add, if_neg (nI_ge (by omega) (by omega)), ck_true (inB_nI (by omega) (by decide)), nI_clamp (by omega), lt_def, nI_1]
    by_cases c : gl g 3 (5 * b + i) = v
    · rw [if_pos ((lg_cmp_eq _ _).mpr c), if_pos (decide_eq_true c), cdS]
    · rw [if_neg (fun q => c ((lg_cmp_eq _ _).mp q)), if_neg (by simp [c]), Nat.add_assoc]
  · unfold F_X7_tableOf_5B
    rw [ck_true (inB_nI hb (by decide)), nI_clamp (by omega), h, l5, nI_add, if_pos (nI_le (Nat.le_refl _) (by omega))]
    rfl
theorem m_columnOf {g : GM} {T n : Nat} (hT : T < 10) (hn : n ≤ 5) (h : gi g 5 T = nI n) (v : Int64) : F_X7_columnOf (nI T) v g = some (cd (5 * T) (ff (fun c => decide (gl g 4 (5 * T + c) = v)) n 0)) := by
  unfold F_X7_columnOf
  rw [l5, lt_def]
  refine fix_ff0 (fun i => nI (5 * T + i)) n (fun t => decide (gl g 4 (5 * T + t) = v)) (fun k => some (cd (5 * T) k)) (fun i hi kb => ?_) (fun kb => ?_) (by omega)
  · unfold F_X7_columnOf_5B
    rw [ck_true (inB_nI hT (by decide)), nI_clamp (by omega), h, l5, nI_add, if_neg (nI_ge (by omega) (by omega)), ck_true (inB_nI (by omega) (by decide)), nI_clamp (by omega), lt_def, nI_1]
    by_cases c : gl g 4 (5 * T + i) = v
    · rw [if_pos ((lg_cmp_eq _ _).mpr c), if_pos (decide_eq_true c), cdS]
    · rw [if_neg (fun q => c ((lg_cmp_eq _ _).mp q)), if_neg (by simp [c]), Nat.add_assoc]
  · unfold F_X7_columnOf_5B
    rw [ck_true (inB_nI hT (by decide)), nI_clamp (by omega), h, l5, nI_add, if_pos (nI_le (Nat.le_refl _) (by omega))]
    rfl
theorem x_tableNamed_p {g : GM} {n : Nat} (hn : n ≤ 5) (h : gi g 17 0 = nI n) (w : Int64) : F_X2_tableNamed_p w g = some (cd 0 (ff (fun t => decide (gl g 18 t = w)) n 0)) := by
  unfold F_X2_tableNamed_p
  refine fix_ff0 (fun i => nI i) n (fun t => decide (gl g 18 t = w)) (fun k => some (cd 0 k)) (fun i hi kb => ?_) (fun kb => ?_) (by omega)
  · unfold F_X2_tableNamed_p_2B
    rw [h, if_neg (nI_ge hi (by omega)), ck_true (inB_nI (by omega) (by decide)), nI_clamp (by omega), lt_def, nI_1]
    by_cases c : gl g 18 i = w
    · rw [if_pos ((lg_cmp_eq _ _).mpr c), if_pos (decide_eq_true c), cdS, Nat.zero_add]
    · rw [if_neg (fun q => c ((lg_cmp_eq _ _).mp q)), if_neg (by simp [c])]
  · unfold F_X2_tableNamed_p_2B
    rw [h, if_pos (nI_le (Nat.le_refl _) (by omega))]
    rfl
theorem x_tableNamed_s {g : GM} {n : Nat} (hn : n ≤ 5) (h : gi g 6 0 = nI n) (w : Int64) : F_X2_tableNamed_s w g = some (cd 0 (ff (fun t => decide (gl g 7 t = w)) n 0)) := by
  unfold F_X2_tableNamed_s
  refine fix_ff0 (fun i => nI i) n (fun t => decide (gl g 7 t = w)) (fun k => some (cd 0 k)) (fun i hi kb => ?_) (fun kb => ?_) (by omega)
  · unfold F_X2_tableNamed_s_2B
    rw [h, if_neg (nI_ge hi (by omega)), ck_true (inB_nI (by omega) (by decide)), nI_clamp (by omega), lt_def, nI_1]
    by_cases c : gl g 7 i = w
    · rw [if_pos ((lg_cmp_eq _ _).mpr c), if_pos (decide_eq_true c), cdS, Nat.zero_add]
    · rw [if_neg (fun q => c ((lg_cmp_eq _ _).mp q)), if_neg (by simp [c])]
  · unfold F_X2_tableNamed_s_2B
    rw [h, if_pos (nI_le (Nat.le_refl _) (by omega))]
    rfl
theorem x_hasColumn_p {g : GM} {n T k c : Nat} (hn : n ≤ 5) (h : gi g 17 0 = nI n) (hT : T < n) (hk : gi g 19 T = nI k) (hk2 : k ≤ 5) (hc : c < 100) : F_X2_hasColumn_p (nI T) (nI c) g = some (if c < k then 1 else 0) := by
  unfold F_X2_hasColumn_p F_X2_hasColumn_p_30
  rw [if_neg (nI_pos (by omega)), h, if_neg (nI_ge hT (by omega)), if_neg (nI_pos (by omega)), ck_true (inB_nI (by omega) (by decide)), nI_clamp (by omega), hk]
  by_cases q : c < k
  · rw [if_neg (nI_ge q (by omega)), if_pos q]
  · rw [if_pos (nI_le (by omega) (by omega)), if_neg q]
theorem x_hasColumn_s {g : GM} {n T k c : Nat} (hn : n ≤ 5) (h : gi g 6 0 = nI n) (hT : T < n) (hk : gi g 8 T = nI k) (hk2 : k ≤ 5) (hc : c < 100) : F_X2_hasColumn_s (nI T) (nI c) g = some (if c < k then 1 else 0) := by
  unfold F_X2_hasColumn_s F_X2_hasColumn_s_30
  rw [if_neg (nI_pos (by omega)), h, if_neg (nI_ge hT (by omega)), if_neg (nI_pos (by omega)), ck_true (inB_nI (by omega) (by decide)), nI_clamp (by omega), hk]
  by_cases q : c < k
  · rw [if_neg (nI_ge q (by omega)), if_pos q]
  · rw [if_pos (nI_le (by omega) (by omega)), if_neg q]
theorem x_slot (t c : Nat) : F_X6_slot (nI t) (nI c) = some (nI (t * 5 + c)) := by
  unfold F_X6_slot
  rw [l5', nI_add]
theorem x_columnNamed_p {g : GM} {n T k : Nat} (hn : n ≤ 5) (h : gi g 17 0 = nI n) (hT : T < n) (hk : gi g 19 T = nI k) (hk2 : k ≤ 5) (w : Int64) : F_X2_columnNamed_p (nI T) w g = some (cd 0 (ff (fun c => decide (gl g 21 (T * 5 + c) = w)) k 0)) := by
  unfold F_X2_columnNamed_p
  refine fix_ff0 (fun i => nI i) k (fun c => decide (gl g 21 (T * 5 + c) = w)) (fun k => some (cd 0 k)) (fun i hi kb => ?_) (fun kb => ?_) (by omega)
  · unfold F_X2_columnNamed_p_3B
    rw [if_neg (show ¬ (5 : Int32) ≤ nI i from nI_ge (a := i) (b := 5) (by omega) (by decide)), x_hasColumn_p hn h hT hk hk2 (by omega), if_pos hi, Option.bind_some, if_neg (by decide), x_slot, Option.bind_some, ck_true (inB_nI (by omega) (by decide)), nI_clamp (by omega), lt_def, nI_1]
    by_cases c : gl g 21 (T * 5 + i) = w
    · rw [if_pos ((lg_cmp_eq _ _).mpr c), if_pos (decide_eq_true c), cdS, Nat.zero_add]
    · rw [if_neg (fun q => c ((lg_cmp_eq _ _).mp q)), if_neg (by simp [c])]
  · unfold F_X2_columnNamed_p_3B
    rw [x_hasColumn_p hn h hT hk hk2 (by omega), if_neg (Nat.lt_irrefl _), Option.bind_some, if_pos rfl]
    split <;> rfl
theorem x_columnNamed_s {g : GM} {n T k : Nat} (hn : n ≤ 5) (h : gi g 6 0 = nI n) (hT : T < n) (hk : gi g 8 T = nI k) (hk2 : k ≤ 5) (w : Int64) : F_X2_columnNamed_s (nI T) w g = some (cd 0 (ff (fun c => decide (gl g 10 (T * 5 + c) = w)) k 0)) := by
  unfold F_X2_columnNamed_s
  refine fix_ff0 (fun i => nI i) k (fun c => decide (gl g 10 (T * 5 + c) = w)) (fun k => some (cd 0 k)) (fun i hi kb => ?_) (fun kb => ?_) (by omega)
  · unfold F_X2_columnNamed_s_3B
    rw [if_neg (show ¬ (5 : Int32) ≤ nI i from nI_ge (a := i) (b := 5) (by omega) (by decide)), x_hasColumn_s hn h hT hk hk2 (by omega), if_pos hi, Option.bind_some, if_neg (by decide), x_slot, Option.bind_some, ck_true (inB_nI (by omega) (by decide)), nI_clamp (by omega), lt_def, nI_1]
    by_cases c : gl g 10 (T * 5 + i) = w
    · rw [if_pos ((lg_cmp_eq _ _).mpr c), if_pos (decide_eq_true c), cdS, Nat.zero_add]
    · rw [if_neg (fun q => c ((lg_cmp_eq _ _).mp q)), if_neg (by simp [c])]
  · unfold F_X2_columnNamed_s_3B
    rw [x_hasColumn_s hn h hT hk hk2 (by omega), if_neg (Nat.lt_irrefl _), Option.bind_some, if_pos rfl]
    split <;> rfl
theorem x_columnNamed_m1 (g : GM) (w : Int64) : F_X2_columnNamed_s (-1) w g = some (-1) := by
  have h : ∀ c, F_X2_hasColumn_s (-1) c g = some 0 := fun c => by unfold F_X2_hasColumn_s F_X2_hasColumn_s_30; rw [if_pos (by decide)]
  unfold F_X2_columnNamed_s
  show fixN (F_X2_columnNamed_s_3B (-1) w g) (69999 + 1) 0 = _
  show F_X2_columnNamed_s_3B (-1) w g (fixN (F_X2_columnNamed_s_3B (-1) w g) 69999) 0 = _
  unfold F_X2_columnNamed_s_3B
  rw [if_neg (by decide), h, Option.bind_some, if_pos rfl]
/-- both sides find the same table -/
theorem p_table {B b : Nat} {gx gm : GM} {S : St} (h : RT B b gx gm S) {w v : Int64} (hn : NR w v) : ff (fun t => decide (gl gx (B + 1) t = w)) (sT S) 0 = ff (fun t => decide (gl gm 3 (5 * b + t) = v)) (sT S) 0 := ff_cong _ _ (fun t _ ht => decide_eq_decide.mpr ((h.2.2.2.2 t (by omega)).2.2.1.iff hn))
theorem p_column {B b T : Nat} {gx gm : GM} {S : St} (h : RT B b gx gm S) (hT : T < sT S) {w v : Int64} (hn : NR w v) : ff (fun c => decide (gl gx (B + 4) (T * 5 + c) = w)) (sC S T) 0 = ff (fun c => decide (gl gm 4 (5 * (5 * b + T) + c) = v)) (sC S T) 0 := ff_cong _ _ (fun c _ hc => decide_eq_decide.mpr (((h.2.2.2.2 T hT).2.2.2.2.2.2.2 c (by omega)).1.iff hn))

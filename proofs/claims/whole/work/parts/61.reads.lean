/-! a store as it is read by both sides -/
def b2i (b : Bool) : Int32 := if b = true then 1 else 0
theorem cd0S (k : Nat) : cd 0 (k + 1) = nI k := by rw [cdS, Nat.zero_add]
section READS
variable {b : Nat} {gx gm : GM} {S : St}
theorem SS.r16 (h : SS 6 b gx gm S) : sR S ≤ 16 ∧ gi gx 6 6 = nI (sR S) ∧ gi gm 13 b = nI (sR S) ∧ b < 2 ∧ sT S ≤ 5 := ⟨h.2.1.1, h.2.1.2.1, h.2.1.2.2.1, h.1.1, h.1.2.1⟩
theorem SS.rw (h : SS 6 b gx gm S) {r : Nat} (hr : r < sR S) : sB S r < sT S ∧ sK S r < 16 ∧ gi gx 12 r = nI (sB S r) ∧ gi gm 8 (16 * b + r) = nI (5 * b + sB S r) ∧ gi gx 13 r = nI (sK S r) ∧ gi gm 9 (16 * b + r) = nI (sK S r) ∧ ∀ c, c < sC S (sB S r) → sV S r c ≤ 1000000 ∧ gi gm 10 (5 * (16 * b + r) + c) = cd 0 (sV S r c) := by
  obtain ⟨a1, a2, a3, a4, a5, a6, a7⟩ := h.2.1.2.2.2.1 r hr
  have h1 := (h.1.2.2.2.2 _ a1).2.1
  have h2 := h.2.1.1
  exact ⟨a1, by omega, a3, a4, a5, a6, a7⟩
theorem SS.tb (h : SS 6 b gx gm S) {t : Nat} (ht : t < sT S) : sC S t ≤ 5 ∧ gi gx 8 t = nI (sC S t) ∧ gi gm 5 (5 * b + t) = nI (sC S t) ∧ gi gx 9 t = nI (sQ S t) ∧ gi gm 6 (5 * b + t) = nI (sQ S t) ∧ ∀ c, c < sC S t → NR (gl gx 10 (t * 5 + c)) (gl gm 4 (5 * (5 * b + t) + c)) ∧ sL S t c ≤ sT S ∧ gi gx 11 (t * 5 + c) = cd 0 (sL S t c) ∧ gi gm 7 (5 * (5 * b + t) + c) = cd (5 * b) (sL S t c) := by
  obtain ⟨a1, a2, a3, a4, a5, a6, a7, a8⟩ := h.1.2.2.2.2 t ht
  exact ⟨a1, a4, a5, a6, a7, a8⟩
theorem SS.jc1 (h : SS 6 b gx gm S) {r c : Nat} (hr : r < sR S) : jc S r c ≤ 1000000 := by
  unfold jc
  have h1 := sRow_le S (sL S (sB S r) c - 1) (sV S r c - 1)
  have h2 := h.2.1.1
  by_cases q : c < sC S (sB S r)
  · have := ((h.rw hr).2.2.2.2.2.2 c q).1
    rw [if_pos q]
    split
    · exact this
    · split <;> omega
  · rw [if_neg q]; omega
/-- where a link leads -/
theorem SS.jcl (h : SS 6 b gx gm S) {r c q : Nat} (hl : 0 < sL S (sB S r) c) (hq : jc S r c = q + 1) : q < sR S ∧ sB S q = sL S (sB S r) c - 1 := by
  unfold jc at hq
  by_cases p : c < sC S (sB S r)
  · rw [if_pos p, if_neg (by omega)] at hq
    by_cases e : sV S r c = 0
    · rw [if_pos e] at hq; omega
    · rw [if_neg e] at hq
      have h2 := ff_pos _ _ (show ff (fun r' => decide (sB S r' = sL S (sB S r) c - 1 ∧ sK S r' = sV S r c - 1)) (sR S) 0 = q + 1 from hq)
      exact ⟨h2.1, (of_decide_eq_true h2.2).1⟩
  · rw [if_neg p] at hq; omega
theorem m_tableAt (h : SS 6 b gx gm S) (h23 : gi gm 0 23 = nI b) {r : Nat} (hr : r < sR S) : F_X7_tableAt (nI r) gm = some (nI (5 * b + sB S r)) := by
  have hb := h.r16
  unfold F_X7_tableAt
  rw [h23, l16, nI_add, ck_true (inB_nI (by omega) (by decide)), nI_clamp (by omega), (h.rw hr).2.2.2.1]
theorem m_numberAt (h : SS 6 b gx gm S) (h23 : gi gm 0 23 = nI b) {r : Nat} (hr : r < sR S) : F_X7_numberAt (nI r) gm = some (nI (sK S r)) := by
  have hb := h.r16
  unfold F_X7_numberAt
  rw [h23, l16, nI_add, ck_true (inB_nI (by omega) (by decide)), nI_clamp (by omega), (h.rw hr).2.2.2.2.2.1]
theorem m_valueAt (h : SS 6 b gx gm S) (h23 : gi gm 0 23 = nI b) {r c : Nat} (hr : r < sR S) (hc : c < sC S (sB S r)) : F_X7_valueAt (nI r) (nI c) gm = some (cd 0 (jc S r c)) := by
  obtain ⟨n1, n2, n3, n4, n5⟩ := h.r16
  obtain ⟨w1, w2, w3, w4, w5, w6, w7⟩ := h.rw hr
  obtain ⟨v1, v2⟩ := w7 c hc
  obtain ⟨t1, t2, t3, t4, t5, t6⟩ := h.tb w1
  obtain ⟨c1, c2, c3, c4⟩ := t6 c hc
  unfold F_X7_valueAt
  rw [m_tableAt h h23 hr, h23, l16, nI_add, l5, nI_add, ck_true (inB_nI (by omega) (by decide)), nI_clamp (by omega), v2, lt_def, Option.bind_some, l5, nI_add, ck_true (inB_nI (by omega) (by decide)), nI_clamp (by omega), c4, lt_def]
  unfold jc
  rw [if_pos hc]
  by_cases e1 : sL S (sB S r) c = 0
  · rw [if_pos ((cd_neg (by omega)).mpr e1), if_pos e1]
  · rw [if_neg (fun q => e1 ((cd_neg (by omega)).mp q)), if_neg e1]
    by_cases e2 : sV S r c = 0
    · rw [if_neg (fun q => absurd e2 ((cd_nn (by omega)).mp q)), if_pos e2, e2]
    · rw [if_pos ((cd_nn (by omega)).mpr e2), if_neg e2]
      unfold sRow
      have := fix_ff0 (B := F_X7_valueAt_49B (cd 0 (sV S r c)) (cd (5 * b) (sL S (sB S r) c)) gm) (fun i => nI i) (sR S) (fun q => decide (sB S q = sL S (sB S r) c - 1 ∧ sK S q = sV S r c - 1)) (fun k => some (cd 0 k)) (fun i hi kb => ?_) (fun kb => ?_) (by omega)
      · exact this
      · obtain ⟨x1, x2, _⟩ := h.rw hi
        unfold F_X7_valueAt_49B F_X7_valueAt_87
        rw [h23, ck_true (inB_nI n4 (by decide)), nI_clamp (by omega), n3, if_neg (nI_ge hi (by omega)), m_tableAt h h23 hi, Option.bind_some, m_numberAt h h23 hi, Option.bind_some, lt_def, nI_1]
        obtain ⟨l, hl⟩ : ∃ l, sL S (sB S r) c = l + 1 := ⟨sL S (sB S r) c - 1, by omega⟩
        obtain ⟨v, hv⟩ : ∃ v, sV S r c = v + 1 := ⟨sV S r c - 1, by omega⟩
        rw [hl, hv, cdS, cd0S]
        simp only [Nat.add_sub_cancel, nI_eq (show 5 * b + sB S i < 2 ^ 31 by omega) (show 5 * b + l < 2 ^ 31 by omega), nI_eq (show sK S i < 2 ^ 31 by omega) (show v < 2 ^ 31 by omega), decide_eq_true_eq, cd0S]
        by_cases p1 : sB S i = l
        · by_cases p2 : sK S i = v
          · rw [if_pos (by omega), if_pos p2, if_pos ⟨p1, p2⟩]
          · rw [if_pos (by omega), if_neg p2, if_neg (fun q => p2 q.2)]
        · rw [if_neg (by omega), if_neg (fun q => p1 q.1)]
      · unfold F_X7_valueAt_49B
        rw [h23, ck_true (inB_nI n4 (by decide)), nI_clamp (by omega), n3, if_pos (nI_le (Nat.le_refl _) (by omega))]
        rfl
theorem x_cell_s (h : SS 6 b gx gm S) {v c : Nat} (hv : v ≤ sR S) (hc : c < 5) : F_X2_cell_s (cd 0 v) (nI c) gx = some (cd 0 (if v = 0 then 0 else jc S (v - 1) c)) := by
  obtain ⟨n1, n2, n3, n4, n5⟩ := h.r16
  unfold F_X2_cell_s
  rcases Nat.eq_zero_or_pos v with rfl | hp
  · rw [cd0, if_pos (by decide), if_pos rfl]; rfl
  · obtain ⟨r, rfl⟩ : ∃ r, v = r + 1 := ⟨v - 1, by omega⟩
    rw [cd0S, if_neg (nI_pos (by omega)), n2, if_neg (nI_ge (by omega) (by omega)), if_neg (nI_pos (by omega)), if_pos (show nI c < 5 from nI_lt hc (by decide)), l5', nI_add, ck_true (inB_nI (by omega) (by decide)), nI_clamp (by omega), if_neg (by omega), Nat.add_sub_cancel]
    exact congrArg some (h.2.2.1 r c hc (by omega))
/-! paths -/
def algn (S : St) (p : Nat → Nat) (v : Nat) : Nat → Nat
  | 0 => v
  | i + 1 => if algn S p v i = 0 then 0 else jc S (algn S p v i - 1) (p i)
def tbn (S : St) (T : Nat) (p : Nat → Nat) : Nat → Nat
  | 0 => T
  | i + 1 => sL S (tbn S T p i) (p i) - 1
/-- i links -/
def PP (S : St) (T : Nat) (p : Nat → Nat) (i : Nat) : Prop := ∀ j, j < i → p j < sC S (tbn S T p j) ∧ 0 < sL S (tbn S T p j) (p j)
/-- a path of L columns -/
def PV (S : St) (T : Nat) (p : Nat → Nat) (L : Nat) : Prop := ∃ l, L = l + 1 ∧ l < 4 ∧ PP S T p l ∧ p l < sC S (tbn S T p l) ∧ sL S (tbn S T p l) (p l) = 0
theorem tbn_cong (S : St) (T : Nat) {p q : Nat → Nat} : ∀ i, (∀ j, j < i → p j = q j) → tbn S T p i = tbn S T q i := by
  intro i
  induction i with
  | zero => intro _; rfl
  | succ i ih => intro h; show sL S (tbn S T p i) (p i) - 1 = sL S (tbn S T q i) (q i) - 1; rw [ih (fun j hj => h j (by omega)), h i (by omega)]
theorem algn_cong (S : St) {p q : Nat → Nat} (v : Nat) : ∀ i, (∀ j, j < i → p j = q j) → algn S p v i = algn S q v i := by
  intro i
  induction i with
  | zero => intro _; rfl
  | succ i ih => intro h; simp only [algn]; rw [ih (fun j hj => h j (by omega)), h i (by omega)]
theorem PP.cong {T i : Nat} {p q : Nat → Nat} (h : PP S T p i) (hq : ∀ j, j < i → p j = q j) : PP S T q i := fun j hj => by
  rw [← tbn_cong S T j (fun k hk => hq k (by omega)), ← hq j hj]; exact h j hj
theorem PV.cong {T L : Nat} {p q : Nat → Nat} (h : PV S T p L) (hq : ∀ j, j < L → p j = q j) : PV S T q L := by
  obtain ⟨l, rfl, h1, h2, h3, h4⟩ := h
  refine ⟨l, rfl, h1, h2.cong (fun j hj => hq j (by omega)), ?_, ?_⟩
  · rw [← tbn_cong S T l (fun k hk => hq k (by omega)), ← hq l (by omega)]; exact h3
  · rw [← tbn_cong S T l (fun k hk => hq k (by omega)), ← hq l (by omega)]; exact h4
theorem SS.tbl (h : SS 6 b gx gm S) {T : Nat} (hT : T < sT S) {p : Nat → Nat} : ∀ i, PP S T p i → tbn S T p i < sT S := by
  intro i
  induction i with
  | zero => intro _; exact hT
  | succ i ih =>
    intro hP
    obtain ⟨h1, h2⟩ := hP i (by omega)
    have h3 := ((h.tb (ih (fun j hj => hP j (by omega)))).2.2.2.2.2 _ h1).2.1
    show sL S (tbn S T p i) (p i) - 1 < sT S
    omega
theorem SS.alg (h : SS 6 b gx gm S) {T : Nat} {p : Nat → Nat} {r : Nat} (hr : r < sR S) (hT : sB S r = T) : ∀ i, PP S T p i → algn S p (r + 1) i = 0 ∨ ∃ q, q < sR S ∧ algn S p (r + 1) i = q + 1 ∧ sB S q = tbn S T p i := by
  intro i
  induction i with
  | zero => intro _; exact Or.inr ⟨r, hr, rfl, hT⟩
  | succ i ih =>
    intro hP
    rcases ih (fun j hj => hP j (by omega)) with e | ⟨q, q1, q2, q3⟩
    · left; simp only [algn]; rw [if_pos e]
    · obtain ⟨h1, h2⟩ := hP i (by omega)
      simp only [algn]
      rw [q2, if_neg (by omega), Nat.add_sub_cancel]
      rcases Nat.eq_zero_or_pos (jc S q (p i)) with e | e
      · exact Or.inl e
      · obtain ⟨u, hu⟩ : ∃ u, jc S q (p i) = u + 1 := ⟨jc S q (p i) - 1, by omega⟩
        rw [← q3] at h2
        obtain ⟨z1, z2⟩ := h.jcl h2 hu
        exact Or.inr ⟨u, z1, hu, by rw [z2, q3]; rfl⟩
theorem PV.pp {T L i : Nat} {p : Nat → Nat} (h : PV S T p L) (hi : i < L) : PP S T p i ∧ p i < sC S (tbn S T p i) := by
  obtain ⟨l, rfl, h1, h2, h3, h4⟩ := h
  refine ⟨fun j hj => h2 j (by omega), ?_⟩
  by_cases e : i = l
  · subst e; exact h3
  · exact (h2 i (by omega)).1
theorem SS.algL (h : SS 6 b gx gm S) {T L : Nat} {p : Nat → Nat} {r : Nat} (hr : r < sR S) (hT : sB S r = T) (hP : PV S T p L) : algn S p (r + 1) L ≤ 1000000 := by
  obtain ⟨l, rfl, h1, h2, h3, h4⟩ := hP
  rcases h.alg hr hT l h2 with e | ⟨q, q1, q2, q3⟩
  · simp only [algn]; rw [if_pos e]; omega
  · simp only [algn]; rw [q2, if_neg (by omega), Nat.add_sub_cancel]; exact h.jc1 q1
theorem x_along (h : SS 6 b gx gm S) {T L : Nat} {p : Nat → Nat} (hT : T < sT S) (hP : PV S T p L) (h4 : gi gx 42 4 = nI L) (hp : ∀ i, i < L → gi gx 43 i = nI (p i)) {r : Nat} (hr : r < sR S) (hB : sB S r = T) : F_X5_valueAlong (nI r) gx = some (cd 0 (algn S p (r + 1) L)) := by
  have hL : L ≤ 4 := by obtain ⟨l, rfl, h1, _⟩ := hP; omega
  unfold F_X5_valueAlong
  rw [← cd0S r]
  refine fix_for0 (B := F_X5_valueAlong_4B gx) (fun i => (cd 0 (algn S p (r + 1) i), nI i)) L _ (fun i hi kb => ?_) (fun kb => ?_) (by omega)
  · obtain ⟨p1, p2⟩ := hP.pp hi
    have hc5 := (h.tb (h.tbl hT i p1)).1
    have hle : algn S p (r + 1) i ≤ sR S := by
      rcases h.alg hr hB i p1 with e | ⟨q, q1, q2, _⟩ <;> omega
    unfold F_X5_valueAlong_4B
    dsimp only
    rw [h4, if_neg (nI_ge hi (by omega)), if_neg (show ¬ (4 : Int32) ≤ nI i from nI_ge (a := i) (b := 4) (by omega) (by decide)), ck_true (inB_nI (by omega) (by decide)), nI_clamp (by omega), hp i hi, x_cell_s h hle (by omega), Option.bind_some, lt_def, lt_def, nI_1]
    rfl
  · unfold F_X5_valueAlong_4B
    dsimp only
    rw [h4, if_pos (nI_le (Nat.le_refl _) (by omega))]
theorem algn_z {p : Nat → Nat} {v i : Nat} (h : algn S p v i = 0) : ∀ d, algn S p v (i + d) = 0 := by
  intro d
  induction d with
  | zero => exact h
  | succ d ih => show (if algn S p v (i + d) = 0 then 0 else _) = 0; rw [if_pos ih]
theorem m_along (h : SS 6 b gx gm S) (h23 : gi gm 0 23 = nI b) {T L a pi wb : Nat} {p : Nat → Nat} (hT : T < sT S) (hP : PV S T p L) (hwb : wb < 2) (hpi : pi < 40) (ha : a + L ≤ 160) (h3 : gi gm 23 (40 * wb + pi) = nI (160 * wb + a)) (h4 : gi gm 24 (40 * wb + pi) = nI (160 * wb + a + L)) (hp : ∀ i, i < L → gi gm 25 (160 * wb + a + i) = nI (p i)) {r : Nat} (hr : r < sR S) (hB : sB S r = T) : F_X7_along (nI (40 * wb + pi)) (nI r) gm = some (cd 0 (algn S p (r + 1) L)) := by
  have n1 := h.r16
  have hN1 : algn S p (r + 1) L ≤ 1000000 := h.algL hr hB hP
  have hle : ∀ i, i < L → algn S p (r + 1) i ≤ sR S := fun i hi => by
    rcases h.alg hr hB i (hP.pp hi).1 with e | ⟨q, q1, q2, _⟩ <;> omega
  unfold F_X7_along
  rw [ck_true (inB_nI (by omega) (by decide)), nI_clamp (by omega), h3, lt_def, ← cd0S r]
  have hk := fix_chk0 (B := F_X7_along_10B (nI (40 * wb + pi)) gm) (fun i => (cd 0 (algn S p (r + 1) i), nI (160 * wb + a + i))) L (fun i => ¬ algn S p (r + 1) i = 0) (some (cd 0 (algn S p (r + 1) L))) (some (-1)) (fun i hi hp0 kb => ?_) (fun i hi hp0 kb => ?_) (fun kb => ?_) (by omega)
  · obtain ⟨k1, k2⟩ := hk
    by_cases e : ∀ k, k < L → ¬ algn S p (r + 1) k = 0
    · exact k1 e
    · have e' : algn S p (r + 1) L = 0 := by
        apply Classical.byContradiction
        intro ne
        exact e (fun k hk q => ne (by have := algn_z q (L - k); rwa [show k + (L - k) = L by omega] at this))
      have := k2 e
      rw [e', cd0]
      exact this
  · obtain ⟨q, q1, q2, q3⟩ : ∃ q, q < sR S ∧ algn S p (r + 1) i = q + 1 ∧ sB S q = tbn S T p i := by
      rcases h.alg hr hB i (hP.pp hi).1 with e | e
      · exact absurd e hp0
      · exact e
    have e1 : algn S p (r + 1) (i + 1) = jc S q (p i) := by simp only [algn]; rw [q2, if_neg (by omega), Nat.add_sub_cancel]
    unfold F_X7_along_10B
    dsimp only
    rw [ck_true (inB_nI (by omega) (by decide)), nI_clamp (by omega), h4, if_neg (nI_ge (by omega) (by omega)), q2, cd0S, if_neg (nI_pos (by omega)), ck_true (inB_nI (by omega) (by decide)), nI_clamp (by omega), hp i hi, m_valueAt h h23 q1 (by rw [q3]; exact (hP.pp hi).2), Option.bind_some, lt_def, lt_def, nI_1, e1]
    rfl
  · have e0 : algn S p (r + 1) i = 0 := Classical.byContradiction hp0
    unfold F_X7_along_10B
    dsimp only
    rw [ck_true (inB_nI (by omega) (by decide)), nI_clamp (by omega), h4, if_neg (nI_ge (by omega) (by omega)), e0, cd0, if_pos (by decide)]
  · unfold F_X7_along_10B
    dsimp only
    rw [ck_true (inB_nI (by omega) (by decide)), nI_clamp (by omega), h4, if_pos (nI_le (Nat.le_refl _) (by omega))]
end READS
/-! comparisons -/
def cmpS (c v n : Nat) : Bool := if c = 61 then decide (v = n) else (!decide (v = 0) && !decide (n = 0)) && (if c = 60 then decide (v < n) else decide (n < v))
theorem cd_inj2 {k l : Nat} (h : k ≤ 1000000) (h' : l ≤ 1000000) : cd 0 k = cd 0 l ↔ k = l := by
  constructor
  · intro q
    rcases Nat.eq_zero_or_pos k with e1 | e1
    · rcases Nat.eq_zero_or_pos l with e2 | e2
      · omega
      · have := (cd_neg (o := 0) (k := l) (by omega)).mp (by rw [← q]; exact (cd_neg (by omega)).mpr e1)
        omega
    · rcases Nat.eq_zero_or_pos l with e2 | e2
      · have := (cd_neg (o := 0) (k := k) (by omega)).mp (by rw [q]; exact (cd_neg (by omega)).mpr e2)
        omega
      · obtain ⟨k, rfl⟩ : ∃ a, k = a + 1 := ⟨k - 1, by omega⟩
        obtain ⟨l, rfl⟩ : ∃ a, l = a + 1 := ⟨l - 1, by omega⟩
        rw [cd0S, cd0S] at q
        have := (nI_eq (by omega) (by omega)).mp q
        omega
  · intro q; rw [q]
theorem cd_m {k : Nat} (h : k ≤ 1000000) : cd 0 k = -1 ↔ k = 0 := by rw [← cd0 0, cd_inj2 h (by omega)]
theorem cd_le {k l : Nat} (hk : 0 < k) (hl : 0 < l) (h : k ≤ 1000000) (h' : l ≤ 1000000) : cd 0 k ≤ cd 0 l ↔ k ≤ l := by
  obtain ⟨k, rfl⟩ : ∃ a, k = a + 1 := ⟨k - 1, by omega⟩
  obtain ⟨l, rfl⟩ : ∃ a, l = a + 1 := ⟨l - 1, by omega⟩
  rw [cd0S, cd0S, nI_leI (by omega) (by omega)]
  omega
theorem m_related {c v n : Nat} (hc : c = 60 ∨ c = 61 ∨ c = 62) (hv : v ≤ 1000000) (hn : n ≤ 1000000) : F_X7_related (nI c) (cd 0 v) (cd 0 n) = some (b2i (cmpS c v n)) := by
  have e1 : (nI c = 61) ↔ c = 61 := nI_eq (b := 61) (by omega) (by decide)
  have e2 : (nI c = 60) ↔ c = 60 := nI_eq (b := 60) (by omega) (by decide)
  unfold F_X7_related F_X7_related_48 F_X7_related_44 cmpS b2i
  simp only [e1, e2, cd_inj2 hv hn, cd_neg (show 0 + v < 2 ^ 31 by omega), cd_neg (show 0 + n < 2 ^ 31 by omega)]
  by_cases c1 : c = 61
  · by_cases c2 : v = n <;> simp [c1, c2]
  · by_cases v0 : v = 0
    · simp [c1, v0]
    · by_cases n0 : n = 0
      · simp [c1, v0, n0]
      · rw [if_neg c1, if_neg v0, if_neg n0, if_neg c1]
        simp only [cd_le (show 0 < v by omega) (show 0 < n by omega) hv hn, cd_le (show 0 < n by omega) (show 0 < v by omega) hn hv]
        by_cases c2 : c = 60
        · by_cases c3 : n ≤ v
          · simp [c2, c3, Nat.not_lt.mpr c3]
          · simp [c2, c3, Nat.not_le.mp c3, v0, n0]
        · by_cases c3 : v ≤ n
          · simp [c2, c3, Nat.not_lt.mpr c3]
          · simp [c2, c3, Nat.not_le.mp c3, v0, n0]
theorem x_compares {c v n : Nat} (hc : c = 60 ∨ c = 61 ∨ c = 62) (hv : v ≤ 1000000) (hn : n ≤ 1000000) : F_X5_compares (cd 0 v) (nI c) (cd 0 n) = some (b2i (cmpS c v n)) := by
  have e1 : (nI c = 61) ↔ c = 61 := nI_eq (b := 61) (by omega) (by decide)
  have e2 : (nI c = 60) ↔ c = 60 := nI_eq (b := 60) (by omega) (by decide)
  unfold F_X5_compares F_X5_compares_10 F_X5_compares_25 cmpS b2i
  simp only [e1, e2, cd_inj2 hv hn, cd_m hv, cd_m hn]
  by_cases c1 : c = 61
  · by_cases c2 : v = n <;> simp [c1, c2]
  · by_cases v0 : v = 0
    · simp [c1, v0]
    · by_cases n0 : n = 0
      · simp [c1, v0, n0]
      · rw [if_neg v0, if_neg n0, if_neg c1, if_neg c1]
        simp only [cd_le (show 0 < v by omega) (show 0 < n by omega) hv hn, cd_le (show 0 < n by omega) (show 0 < v by omega) hn hv]
        by_cases c2 : c = 60
        · by_cases c3 : n ≤ v
          · simp [c2, c3, Nat.not_lt.mpr c3]
          · simp [c2, c3, Nat.not_le.mp c3, v0, n0]
        · by_cases c3 : v ≤ n
          · simp [c2, c3, Nat.not_lt.mpr c3]
          · simp [c2, c3, Nat.not_le.mp c3, v0, n0]

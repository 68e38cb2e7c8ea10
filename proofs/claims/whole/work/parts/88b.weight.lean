/-! call: weight -/
def tot (S : St) (p : Nat → Bool) (c : Nat) : Nat → Nat
  | 0 => 0
  | i + 1 => if p i = true then tot S p c i + (jc S i c - 1) else tot S p c i
theorem mod_half {a b k : Nat} (hb : b < 2 ^ (k + 1)) (hc : 0 < a % b) (hb0 : 0 < b) : b % (a % b) < 2 ^ k := by
  have h1 : a % b < b := Nat.mod_lt _ hb0
  generalize a % b = c at *
  have h2 : b % c < c := Nat.mod_lt _ hc
  have h3 : 2 ^ (k + 1) = 2 * 2 ^ k := by rw [Nat.pow_succ]; omega
  rcases Nat.lt_or_ge c (2 ^ k) with q | q
  · omega
  · have : b % c ≤ b - c := by
      rw [Nat.mod_eq_sub_mod (by omega)]
      exact Nat.mod_le _ _
    omega
theorem gcd_step (a b : Nat) : Nat.gcd a b = Nat.gcd b (a % b) := by
  rw [Nat.gcd_comm a b, Nat.gcd_rec b a, Nat.gcd_comm]
/-- the class's divisor: its 64 steps are enough -/
theorem x_gcd : ∀ k a b t, a < 2 ^ 31 → b < 2 ^ k → k ≤ 30 → t + 2 * k ≤ 62 → ∀ nn, 2 * k + 2 < nn → fixN F_X6_commonDivisor_7B nn (nI a, nI b, nI t) = some (nI (Nat.gcd a b)) := by
  have step : ∀ kb a b t, a < 2 ^ 31 → b < 2 ^ 31 → t < 64 → F_X6_commonDivisor_7B kb (nI a, nI b, nI t) = if b = 0 then some (nI a) else kb (nI b, nI (a % b), nI (t + 1)) := by
    intro kb a b t ha hb ht
    have e0 : nI b = 0 ↔ b = 0 := nI_eq (b := 0) hb (by decide)
    unfold F_X6_commonDivisor_7B
    dsimp only
    rw [if_neg (show ¬ (64 : Int32) ≤ nI t from nI_ge (a := t) (b := 64) ht (by decide))]
    by_cases c : b = 0
    · rw [if_pos (e0.mpr c), if_pos c]
    · rw [if_neg (fun q => c (e0.mp q)), if_neg c, ck_true (by unfold nzB; simpa using fun q => c (e0.mp q)), pk_rem ha (by omega) hb, lt_def, lt_def, nI_1]
  intro k
  induction k with
  | zero =>
    intro a b t ha hb hk ht nn hnn
    obtain ⟨nn, rfl⟩ : ∃ m, nn = m + 1 := ⟨nn - 1, by omega⟩
    have b0 : b = 0 := by simpa using hb
    subst b0
    show F_X6_commonDivisor_7B _ _ = _
    rw [step _ _ _ _ ha (by decide) (by omega), if_pos rfl, Nat.gcd_zero_right]
  | succ k ih =>
    intro a b t ha hb hk ht nn hnn
    obtain ⟨nn, rfl⟩ : ∃ m, nn = m + 2 := ⟨nn - 2, by omega⟩
    have h31 : 2 ^ (k + 1) ≤ 2 ^ 30 := Nat.pow_le_pow_right (by decide) hk
    have hb31 : b < 2 ^ 31 := by omega
    show F_X6_commonDivisor_7B (fixN F_X6_commonDivisor_7B (nn + 1)) _ = _
    rw [step _ _ _ _ ha hb31 (by omega)]
    by_cases b0 : b = 0
    · rw [if_pos b0, b0, Nat.gcd_zero_right]
    · have hm := Nat.mod_lt a (show 0 < b by omega)
      rw [if_neg b0]
      show F_X6_commonDivisor_7B (fixN F_X6_commonDivisor_7B nn) _ = _
      rw [step _ _ _ _ hb31 (by omega) (by omega), gcd_step a b]
      by_cases c0 : a % b = 0
      · rw [if_pos c0, c0, Nat.gcd_zero_right]
      · rw [if_neg c0, gcd_step b (a % b)]
        exact ih (a % b) (b % (a % b)) (t + 1 + 1) (by omega) (mod_half hb (by omega) (by omega)) (by omega) (by omega) nn (by omega)
theorem m_gcd {g : GM} {x : Int32} {u v : Nat} : ∀ k a b, a < 2 ^ 31 → b < 2 ^ k → k ≤ 30 → 0 < Nat.gcd a b → ∀ nn, 2 * k + 2 < nn → fixN (F_X7_weight_59B x (nI u) (nI v) g) nn (nI a, nI b) = if x = 0 then some (nI u / nI (Nat.gcd a b), g) else some (nI v / nI (Nat.gcd a b), g) := by
  have step : ∀ kb a b, a < 2 ^ 31 → b < 2 ^ 31 → (b = 0 → 0 < a) → F_X7_weight_59B x (nI u) (nI v) g kb (nI a, nI b) = if b = 0 then (if x = 0 then some (nI u / nI a, g) else some (nI v / nI a, g)) else kb (nI b, nI (a % b)) := by
    intro kb a b ha hb hp
    have e0 : nI b ≤ 0 ↔ b = 0 := by rw [show (0 : Int32) = nI 0 from rfl, nI_leI hb (by decide)]; omega
    have ez : ∀ c, c < 2 ^ 31 → 0 < c → nzB (nI c) = true := fun c h1 h2 => by
      unfold nzB
      have : ¬ nI c = 0 := fun q => by have := (nI_eq (b := 0) h1 (by decide)).mp q; omega
      simpa using this
    unfold F_X7_weight_59B
    dsimp only
    by_cases c : b = 0
    · rw [if_pos (e0.mpr c), if_pos c, ck_true (ez a ha (hp c)), ck_true (ez a ha (hp c))]
    · rw [if_neg (fun q => c (e0.mp q)), if_neg c, ck_true (ez b hb (by omega)), pk_rem ha (by omega) hb, lt_def]
  intro k
  induction k with
  | zero =>
    intro a b ha hb hk hg nn hnn
    obtain ⟨nn, rfl⟩ : ∃ m, nn = m + 1 := ⟨nn - 1, by omega⟩
    have b0 : b = 0 := by simpa using hb
    subst b0
    rw [Nat.gcd_zero_right] at hg ⊢
    show F_X7_weight_59B _ _ _ _ _ _ = _
    rw [step _ _ _ ha (by decide) (fun _ => hg), if_pos rfl]
  | succ k ih =>
    intro a b ha hb hk hg nn hnn
    obtain ⟨nn, rfl⟩ : ∃ m, nn = m + 2 := ⟨nn - 2, by omega⟩
    have h31 : 2 ^ (k + 1) ≤ 2 ^ 30 := Nat.pow_le_pow_right (by decide) hk
    have hb31 : b < 2 ^ 31 := by omega
    show F_X7_weight_59B _ _ _ _ (fixN _ (nn + 1)) _ = _
    rw [step _ _ _ ha hb31 (fun q => by rw [q, Nat.gcd_zero_right] at hg; exact hg)]
    by_cases b0 : b = 0
    · rw [if_pos b0, b0, Nat.gcd_zero_right]
    · have hm := Nat.mod_lt a (show 0 < b by omega)
      rw [if_neg b0]
      show F_X7_weight_59B _ _ _ _ (fixN _ nn) _ = _
      rw [step _ _ _ hb31 (by omega) (fun _ => by omega), gcd_step a b]
      rw [gcd_step a b] at hg
      by_cases c0 : a % b = 0
      · rw [if_pos c0, c0, Nat.gcd_zero_right]
      · rw [if_neg c0, gcd_step b (a % b)]
        rw [gcd_step b (a % b)] at hg
        exact ih (a % b) (b % (a % b)) (by omega) (mod_half hb (by omega) (by omega)) (by omega) hg nn (by omega)
section WEIGHT
variable {gx gm : GM} {len : Nat} {tx : Nat → Nat} {b wb : Nat} {S : St} {D : Dm} {P N z G K : Nat}
theorem tot_le (h : SS 6 b gx gm S) (p : Nat → Bool) (c : Nat) : ∀ i, i ≤ sR S → tot S p c i ≤ i * 1000000 := by
  intro i
  induction i with
  | zero => intro _; exact Nat.le_refl _
  | succ i ih =>
    intro hi
    have h1 := ih (by omega)
    have h2 := h.jc1 (r := i) (c := c) (by omega)
    have e : (i + 1) * 1000000 = i * 1000000 + 1000000 := Nat.succ_mul _ _
    rw [e]
    show (if p i = true then tot S p c i + (jc S i c - 1) else tot S p c i) ≤ _
    by_cases q : p i = true
    · rw [if_pos q]; omega
    · rw [if_neg q]; exact Nat.le_trans h1 (Nat.le_add_right _ _)
theorem j_max0 {v : Nat} (hv : v ≤ 1000000) : F_J9_max_7cf53 0 (cd 0 v) = some (nI (v - 1)) := by
  rcases Nat.eq_zero_or_pos v with rfl | hp
  · decide
  · obtain ⟨w, rfl⟩ : ∃ w, v = w + 1 := ⟨v - 1, by omega⟩
    rw [cd0S]
    have := j_max (a := 0) (b := w) (by decide) (by omega)
    rw [show max 0 w = w by omega] at this
    exact this
theorem x_total (h : SS 6 b gx gm S) {t c : Nat} (ht : t < sT S) (hc : c < 5) {x : Int32} {p : Nat → Bool} (hx : ∀ q, q < sR S → x.toBitVec.getLsbD q = p q) : F_X2_total_s (nI t) (nI c) x gx = some (nI (tot S (fun r => decide (sB S r = t) && p r) c (sR S))) := by
  obtain ⟨n1, n2, n3, n4, n5⟩ := h.r16
  refine fix_for0 (B := F_X2_total_s_6B (nI t) (nI c) x gx) (fun i => (nI (tot S (fun r => decide (sB S r = t) && p r) c i), nI i)) (sR S) _ (fun i hi kb => ?_) (fun kb => ?_) (by omega)
  · obtain ⟨w1, w2, w3, _⟩ := h.rw hi
    have ec : F_X2_cell_s (nI i) (nI c) gx = some (cd 0 (jc S i c)) := by
      have := x_cell_s h (v := i + 1) (by omega) hc
      rw [cd0S, if_neg (by omega), Nat.add_sub_cancel] at this
      exact this
    have e1 : (nI (sB S i) = nI t) ↔ sB S i = t := nI_eq (by omega) (by omega)
    unfold F_X2_total_s_6B F_X2_total_s_51
    dsimp only
    rw [n2, if_neg (nI_ge hi (by omega)), ck_true (inB_nI (by omega) (by decide)), nI_clamp (by omega), w3, x_has2 x (by omega), Option.bind_some, hx i hi, ec, Option.bind_some, j_max0 (h.jc1 hi), Option.bind_some, nI_add, lt_def, lt_def, lt_def, nI_1]
    simp only [e1, tot]
    by_cases q1 : sB S i = t
    · by_cases pp : p i = true
      · simp [q1, pp]
      · have pf : p i = false := by simpa using pp
        simp [q1, pf]
    · simp [q1]
  · unfold F_X2_total_s_6B
    dsimp only
    rw [n2, if_pos (nI_le (Nat.le_refl _) (by omega))]
theorem m_total (h : SS 6 b gx gm S) (h23 : gi gm 0 23 = nI b) {t c : Nat} (ht : t < sT S) (hc : c < sC S t) {x : Int32} {p : Nat → Bool} (hx : ∀ q, q < sR S → x.toBitVec.getLsbD q = p q) : F_X7_total (nI t) (nI c) x gm = some (nI (tot S (fun r => decide (sB S r = t) && p r) c (sR S))) := by
  obtain ⟨n1, n2, n3, n4, n5⟩ := h.r16
  refine fix_for0 (B := F_X7_total_6B (nI t) (nI c) x gm) (fun i => (nI (tot S (fun r => decide (sB S r = t) && p r) c i), nI i)) (sR S) _ (fun i hi kb => ?_) (fun kb => ?_) (by omega)
  · obtain ⟨w1, w2, w3, _⟩ := h.rw hi
    have e1 : (nI (5 * b + sB S i) = nI (5 * b + t)) ↔ sB S i = t := by rw [nI_eq (by omega) (by omega)]; omega
    have hle := h.jc1 (c := c) hi
    unfold F_X7_total_6B F_X7_total_71
    dsimp only
    rw [h23, ck_true (inB_nI n4 (by decide)), nI_clamp (by omega), n3, if_neg (nI_ge hi (by omega)), has_bit x (by omega), hx i hi, m_tableAt h h23 hi, Option.bind_some, l5, nI_add, lt_def, nI_1]
    simp only [e1, tot, lt_def, nI_1]
    by_cases pp : p i = true
    · by_cases q1 : sB S i = t
      · have vv := m_valueAt h h23 hi (c := c) (by rw [q1]; exact hc)
        have ep : ((decide (sB S i = t) && p i) = true) := by simp [q1, pp]
        rw [if_pos pp, if_neg (by decide), if_pos q1, vv, Option.bind_some, Option.bind_some, if_pos ep]
        rcases Nat.eq_zero_or_pos (jc S i c) with e | e
        · rw [e, cd0, if_neg (by decide)]
          rfl
        · obtain ⟨v, hv⟩ : ∃ v, jc S i c = v + 1 := ⟨jc S i c - 1, by omega⟩
          rw [hv, cd0S, if_pos (nI_pos' (by omega)), nI_add]
          rfl
      · rw [if_pos pp, if_neg (by decide), if_neg q1, if_neg (by simp [q1])]
    · rw [if_neg pp, if_pos rfl, if_neg (by simp [pp])]
  · unfold F_X7_total_6B
    dsimp only
    rw [h23, ck_true (inB_nI n4 (by decide)), nI_clamp (by omega), n3, if_pos (nI_le (Nat.le_refl _) (by omega))]
theorem o_weight (h : INV gx gm) (a1 a2 a3 a4 a5 : Int32) : ∃ gx' gm', op_weight a1 a2 a3 a4 a5 gx gm = some (gx', gm') ∧ INV gx' gm' := by
  obtain ⟨len, tx, b, wb, S, D, P, N, z, G, K, h⟩ := h
  have n16 := h.2.1.1.r16
  unfold op_weight
  generalize (if a3 = 0 then (0 : Int32) else 1) = a3
  obtain ⟨gx1, r, q1, q2, q3, q4, q5⟩ := h.lx
  have eX : F_X6_weight a1 a2 a3 gx = if r = -1 then some ((-1 : Int32), gx1) else (F_X2_isPlainColumn_s a1 a2 gx1).bind fun r_4 => if r_4 = 0 then some (-1, gx1) else (F_X2_total_s a1 a2 ((gi gx1 0 7) ^^^ (-1)) gx1).bind fun r_5 => lt r_5 fun x5_6 => (F_X2_total_s a1 a2 r gx1).bind fun r_7 => lt r_7 fun x6_8 => (F_X6_commonDivisor x5_6 x6_8).bind fun r_9 => lt r_9 fun x7_10 => if x6_8 = 0 then some (-1, gx1) else if x7_10 = 0 then some (-1, gx1) else if a3 = 0 then ckB (nzB x7_10) (some (x5_6 / x7_10, gx1)) else ckB (nzB x7_10) (some (x6_8 / x7_10, gx1)) := by
    unfold F_X6_weight
    rw [q1, Option.bind_some]
    dsimp only
    rw [lt_def]
  rcases i_plain q3.2.1.1 q3.2.1.2.1 a1 a2 with ⟨e1, e2⟩ | ⟨t, c, ht, hc, hl, x1, x2, e1, e2⟩
  · refine ⟨gx1, gm, ?_, len, tx, b, wb, S, D, P, N, z, G, K, q3⟩
    have eX2 : F_X6_weight a1 a2 a3 gx = some (-1, gx1) := by
      rw [eX, e1, Option.bind_some, if_pos (show (0 : Int32) = 0 from rfl)]
      split <;> rfl
    rw [eX2, Option.bind_some]
    dsimp only
    unfold F_X7_weight
    rw [e2, Option.bind_some, if_pos rfl, Option.bind_some]
    dsimp only
    rw [if_pos rfl]
  · subst x1 x2
    obtain ⟨gm1, b1, b2, b3, b4⟩ := q3.km
    have er : gi gm1 0 51 = r := b2.uniq q2
    have hc5 := (q3.2.1.1.tb ht).1
    obtain ⟨g1, g23, gwb, g37, g14, gDS, gDK, _, _, gG, g49⟩ := b3.2.1
    have eM : F_X7_weight (nI t) (nI c) a3 gm = if 0 ≤ r then (F_X7_total (nI t) (nI c) ((gi gm1 0 49) ^^^ (-1)) gm1).bind fun r_5 => lt r_5 fun x4_6 => (F_X7_total (nI t) (nI c) r gm1).bind fun r_7 => lt r_7 fun x5_8 => if x5_8 = 0 then some ((-1 : Int32), gm1) else fixN (F_X7_weight_59B a3 x4_6 x5_8 gm1) FU (x4_6, x5_8) else some (-1, gm1) := by
      unfold F_X7_weight F_X7_least
      rw [e2, Option.bind_some, if_neg (by decide), b1, Option.bind_some, Option.bind_some]
      dsimp only
      rw [er]
    refine ⟨gx1, gm1, ?_, len, tx, b, wb, S, D, P, N, z, G, K, b3⟩
    rcases q2.cs n16.1 with ⟨k1, k2⟩ | ⟨s, k1, k2, k3, k4, k5⟩
    · rw [eX, if_pos k1, Option.bind_some]
      dsimp only
      rw [eM, if_neg k2, Option.bind_some]
      dsimp only
      rw [if_pos rfl]
    · have h7 : gi gx1 0 7 = nI G := q3.2.2.1.2.1
      have A1 := x_total q3.2.1.1 ht (show c < 5 by omega) (x := nI G ^^^ (-1)) (p := fun q => !G.testBit q) (fun q hq => not_lsb (by omega))
      have A2 := m_total g1 g23 ht hc (x := nI G ^^^ (-1)) (p := fun q => !G.testBit q) (fun q hq => not_lsb (by omega))
      have B1 := x_total q3.2.1.1 ht (show c < 5 by omega) (x := nI s) (p := fun q => s.testBit q) (fun q hq => nI_lsb (by omega))
      have B2 := m_total g1 g23 ht hc (x := nI s) (p := fun q => s.testBit q) (fun q hq => nI_lsb (by omega))
      have hu := tot_le q3.2.1.1 (fun r => decide (sB S r = t) && !G.testBit r) c (sR S) (Nat.le_refl _)
      have hv := tot_le q3.2.1.1 (fun r => decide (sB S r = t) && s.testBit r) c (sR S) (Nat.le_refl _)
      subst k1
      rw [if_neg k5, e1, Option.bind_some, if_neg (by decide), h7, A1, Option.bind_some, lt_def, B1, Option.bind_some, lt_def] at eX
      rw [if_pos k4, g49, A2, Option.bind_some, lt_def, B2, Option.bind_some, lt_def] at eM
      generalize tot S (fun r => decide (sB S r = t) && !G.testBit r) c (sR S) = u at *
      generalize tot S (fun r => decide (sB S r = t) && s.testBit r) c (sR S) = v at *
      have hu' : u < 2 ^ 24 := by omega
      have hv' : v < 2 ^ 24 := by omega
      have X := x_gcd 24 u v 0 (by omega) hv' (by decide) (by decide) FU (by decide)
      have X' : F_X6_commonDivisor (nI u) (nI v) = some (nI (Nat.gcd u v)) := X
      rw [X', Option.bind_some, lt_def] at eX
      have ev : nI v = 0 ↔ v = 0 := nI_eq (b := 0) (by omega) (by decide)
      by_cases v0 : v = 0
      · rw [eX, if_pos (ev.mpr v0), Option.bind_some]
        dsimp only
        rw [eM, if_pos (ev.mpr v0), Option.bind_some]
        dsimp only
        rw [if_pos rfl]
      · have hg : 0 < Nat.gcd u v := Nat.gcd_pos_of_pos_right u (by omega)
        have hgl : Nat.gcd u v ≤ v := Nat.gcd_le_right u (by omega)
        have eg : ¬ nI (Nat.gcd u v) = 0 := fun q => by have := (nI_eq (b := 0) (by omega) (by decide)).mp q; omega
        have M := m_gcd (g := gm1) (x := a3) (u := u) (v := v) 24 u v (by omega) hv' (by decide) hg FU (by decide)
        have ez : nzB (nI (Nat.gcd u v)) = true := by unfold nzB; simpa using eg
        rw [eX, if_neg (fun q => v0 (ev.mp q)), if_neg eg, ck_true ez, ck_true ez, eM, if_neg (fun q => v0 (ev.mp q)), M]
        by_cases c3 : a3 = 0
        · rw [if_pos c3, if_pos c3, Option.bind_some]
          dsimp only
          rw [Option.bind_some]
          dsimp only
          rw [if_pos rfl]
        · rw [if_neg c3, if_neg c3, Option.bind_some]
          dsimp only
          rw [Option.bind_some]
          dsimp only
          rw [if_pos rfl]
end WEIGHT

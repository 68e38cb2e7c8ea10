/-! calls: feed, weight -/
def bv (x : Int32) : Nat := x.toBitVec.toNat % 256
theorem bv_lt (x : Int32) : bv x < 256 := Nat.mod_lt _ (by decide)
theorem bv_sx (x : Int32) : x.toInt8.toInt32 = sx (bv x) := by
  unfold sx
  congr 1
  apply Int8.toBitVec_inj.mp
  rw [Int32.toBitVec_toInt8, Int32.toBitVec_toInt8, BitVec.signExtend_eq_setWidth_of_le _ (by decide), BitVec.signExtend_eq_setWidth_of_le _ (by decide)]
  show x.toBitVec.setWidth 8 = (BitVec.ofNat 32 (bv x)).setWidth 8
  apply BitVec.eq_of_toNat_eq
  rw [BitVec.toNat_setWidth, BitVec.toNat_setWidth, BitVec.toNat_ofNat]
  unfold bv
  omega
theorem i8_id (x : Int32) : (x.toInt8.toInt32).toInt8.toInt32 = x.toInt8.toInt32 := by
  rw [bv_sx x]
  exact sx_i8 _ (bv_lt x)
def sh (x : Int32) (k : Nat) : Int32 := x >>> (nI (24 - 8 * k) &&& 31)
def s5 (x1 x2 x3 x4 x5 : Int32) (j : Nat) : Int32 := if j < 4 then x1 else if j < 8 then x2 else if j < 12 then x3 else if j < 16 then x4 else x5
section FEED
variable {gx gm : GM} {len : Nat} {tx : Nat → Nat} {b wb : Nat} {S : St} {D : Dm} {P N z G K : Nat}
theorem x_append {L : Nat} (x : Int32) (h : gi gx 1 2 = nI L) (hL : L + 4 ≤ 1200) : ∃ gx', F_X4_append x gx = some gx' ∧ gi gx' 1 2 = nI (L + 4) ∧ (∀ k, k < 4 → gi gx' 2 (L + k) = sx (bv (sh x k))) ∧ (∀ a i, ¬ (a = 1 ∧ i = 2) → ¬ (a = 2 ∧ L ≤ i ∧ i < L + 4) → gi gx' a i = gi gx a i) ∧ ∀ a i, gl gx' a i = gl gx a i := by
  have hl := fix_to (B := F_X4_append_3B x) (I := fun k s => s.1 = (if k < 4 then nI (24 - 8 * k) else -8) ∧ gi s.2 1 2 = nI (L + k) ∧ (∀ j, j < k → gi s.2 2 (L + j) = sx (bv (sh x j))) ∧ (∀ a i, ¬ (a = 1 ∧ i = 2) → ¬ (a = 2 ∧ L ≤ i ∧ i < L + 4) → gi s.2 a i = gi gx a i) ∧ ∀ a i, gl s.2 a i = gl gx a i) (E := fun s => some s.2) 4 (fun k s hk hI => ?_) (fun s hI kb => ?_) 4 0 FU (24, gx) rfl (by decide) ⟨rfl, h, fun j hj => by omega, fun _ _ _ _ => rfl, fun _ _ => rfl⟩
  · obtain ⟨⟨y, g'⟩, ⟨_, i1, i2, i3, i4⟩, he⟩ := hl
    exact ⟨g', he, i1, i2, i3, i4⟩
  · obtain ⟨y, g⟩ := s
    obtain ⟨hy, i1, i2, i3, i4⟩ := hI
    dsimp only at hy i1 i2 i3 i4
    rw [if_pos hk] at hy
    subst hy
    have e1 : gi (si g 2 (L + k) (sx (bv (sh x k)))) 1 2 + 1 = nI (L + (k + 1)) := by rw [gi_si, if_neg (by omega), i1, nI_1]; rfl
    have e2 : nI (24 - 8 * k) + (-8) = if k + 1 < 4 then nI (24 - 8 * (k + 1)) else -8 := by
      have : k = 0 ∨ k = 1 ∨ k = 2 ∨ k = 3 := by omega
      rcases this with rfl | rfl | rfl | rfl <;> decide
    refine ⟨(if k + 1 < 4 then nI (24 - 8 * (k + 1)) else -8, si (si g 2 (L + k) (sx (bv (sh x k)))) 1 2 (nI (L + (k + 1)))), ⟨rfl, gi_same, fun j hj => ?_, fun a i p q => ?_, fun a i => i4 a i⟩, fun kb => ?_⟩
    · show gi (si (si g 2 (L + k) _) 1 2 _) 2 (L + j) = _
      rw [gi_si, if_neg (by omega)]
      by_cases e : j = k
      · subst e; rw [gi_same]
      · rw [gi_si, if_neg (by omega)]; exact i2 j (by omega)
    · show gi (si (si g 2 (L + k) _) 1 2 _) a i = _
      rw [gi_si, if_neg p, gi_si, if_neg (by omega)]; exact i3 a i p q
    · unfold F_X4_append_3B
      dsimp only
      rw [if_neg (nI_pos (by omega)), i1, if_neg (show ¬ (1200 : Int32) ≤ nI (L + k) from nI_ge (a := L + k) (b := 1200) (by omega) (by decide)), ck_true (inB_nI (by omega) (by decide)), nI_clamp (by omega), i8_id, bv_sx, lt_def]
      show lt (si (si g 2 (L + k) (sx (bv (sh x k)))) 1 2 (gi (si g 2 (L + k) (sx (bv (sh x k)))) 1 2 + 1)) _ = _
      rw [e1, lt_def, lt_def, e2]
  · obtain ⟨y, g⟩ := s
    obtain ⟨hy, _⟩ := hI
    dsimp only at hy
    subst hy
    unfold F_X4_append_3B
    dsimp only
    rw [if_pos (by decide)]
theorem m_feed {L : Nat} (x1 x2 x3 x4 x5 : Int32) (h : gi gm 0 2 = nI L) (hL : L + 20 ≤ 1200) : ∃ gm', F_X7_feed x1 x2 x3 x4 x5 gm = some (nI (L + 20), gm') ∧ gi gm' 0 2 = nI (L + 20) ∧ (∀ j, j < 20 → gi gm' 1 (L + j) = sx (bv (sh (s5 x1 x2 x3 x4 x5 j) (j % 4)))) ∧ (∀ a i, ¬ (a = 0 ∧ i = 2) → ¬ (a = 1 ∧ L ≤ i ∧ i < L + 20) → gi gm' a i = gi gm a i) ∧ ∀ a i, gl gm' a i = gl gm a i := by
  have hl := fix_to (B := F_X7_feed_18B x1 x2 x3 x4 x5) (I := fun i s => s.1 = nI i ∧ (∀ j, j < i → gi s.2 1 (L + j) = sx (bv (sh (s5 x1 x2 x3 x4 x5 j) (j % 4)))) ∧ (∀ a k, ¬ (a = 1 ∧ L ≤ k ∧ k < L + 20) → gi s.2 a k = gi gm a k) ∧ ∀ a k, gl s.2 a k = gl gm a k) (E := fun s => some (nI (L + 20), si s.2 0 2 (nI (L + 20)))) 20 (fun i s hi hI => ?_) (fun s hI kb => ?_) 20 0 FU (0, gm) rfl (by decide) ⟨rfl, fun j hj => by omega, fun _ _ _ => rfl, fun _ _ => rfl⟩
  · obtain ⟨⟨y, g'⟩, ⟨_, i1, i2, i3⟩, he⟩ := hl
    dsimp only at i1 i2 i3 he
    refine ⟨si g' 0 2 (nI (L + 20)), ?_, gi_same, fun j hj => by rw [gi_si, if_neg (by omega)]; exact i1 j hj, fun a i p q => by rw [gi_si, if_neg p]; exact i2 a i q, fun a i => i3 a i⟩
    unfold F_X7_feed
    have e20 : nI L + 20 = nI (L + 20) := nI_add L 20
    rw [h, e20, if_pos (show nI (L + 20) ≤ 1200 from nI_le hL (by decide))]
    exact he
  · obtain ⟨y, g⟩ := s
    obtain ⟨hy, i1, i2, i3⟩ := hI
    dsimp only at hy i1 i2 i3
    subst hy
    have e2 : gi g 0 2 = nI L := by rw [i2 _ _ (by omega)]; exact h
    have ea : nI i &&& 3 = nI (i % 4) := pk_andN (n := i) (by omega) 2 (by decide)
    have eb : (8 : Int32) * nI (i % 4) = nI (8 * (i % 4)) := nI_mul 8 (i % 4)
    have ec : (24 : Int32) - nI (8 * (i % 4)) = nI (24 - 8 * (i % 4)) := nI_sub (a := 24) (by omega)
    have st : ∀ (kb : Int32 × GM → Option (Int32 × GM)) (x : Int32), F_X7_feed_71 kb x1 x2 x3 x4 x5 (nI i) x g = kb (nI (i + 1), si g 1 (L + i) (sx (bv (sh x (i % 4))))) := by
      intro kb x
      unfold F_X7_feed_71
      rw [e2, nI_add, ck_true (inB_nI (by omega) (by decide)), nI_clamp (by omega), ea, eb, ec, i8_id, bv_sx, lt_def, lt_def, nI_1]
      rfl
    refine ⟨(nI (i + 1), si g 1 (L + i) (sx (bv (sh (s5 x1 x2 x3 x4 x5 i) (i % 4))))), ⟨rfl, fun j hj => ?_, fun a k q => ?_, fun a k => i3 a k⟩, fun kb => ?_⟩
    · show gi (si g 1 (L + i) _) 1 (L + j) = _
      by_cases e : j = i
      · subst e; rw [gi_same]
      · rw [gi_si, if_neg (by omega)]; exact i1 j (by omega)
    · show gi (si g 1 (L + i) _) a k = _
      rw [gi_si, if_neg (by omega)]; exact i2 a k q
    · unfold F_X7_feed_18B
      dsimp only
      rw [if_neg (show ¬ (20 : Int32) ≤ nI i from nI_ge (a := i) (b := 20) hi (by decide)), st, st, st, st, st]
      have c4 : ((4 : Int32) ≤ nI i) ↔ 4 ≤ i := nI_leI (a := 4) (by decide) (by omega)
      have c8 : ((8 : Int32) ≤ nI i) ↔ 8 ≤ i := nI_leI (a := 8) (by decide) (by omega)
      have c12 : ((12 : Int32) ≤ nI i) ↔ 12 ≤ i := nI_leI (a := 12) (by decide) (by omega)
      have c16 : ((16 : Int32) ≤ nI i) ↔ 16 ≤ i := nI_leI (a := 16) (by decide) (by omega)
      simp only [c4, c8, c12, c16]
      unfold s5
      by_cases d4 : i < 4
      · rw [if_neg (by omega), if_pos d4]
      · rw [if_pos (by omega), if_neg d4]
        by_cases d8 : i < 8
        · rw [if_neg (by omega), if_pos d8]
        · rw [if_pos (by omega), if_neg d8]
          by_cases d12 : i < 12
          · rw [if_neg (by omega), if_pos d12]
          · rw [if_pos (by omega), if_neg d12]
            by_cases d16 : i < 16
            · rw [if_neg (by omega), if_pos d16]
            · rw [if_pos (by omega), if_neg d16]
  · obtain ⟨y, g⟩ := s
    obtain ⟨hy, i1, i2, i3⟩ := hI
    dsimp only at hy i2
    subst hy
    have e2 : gi g 0 2 + 20 = nI (L + 20) := by rw [i2 _ _ (by omega), h]; exact nI_add L 20
    unfold F_X7_feed_18B
    dsimp only
    rw [if_pos (by decide), e2, lt_def, gi_same]
theorem o_feed (h : INV gx gm) (a1 a2 a3 a4 a5 : Int32) : ∃ gx' gm', op_feed a1 a2 a3 a4 a5 gx gm = some (gx', gm') ∧ INV gx' gm' := by
  obtain ⟨len, tx, b, wb, S, D, P, N, z, G, K, h⟩ := h
  obtain ⟨t1, t2, t3, t4⟩ := h.1.1
  have e20 : nI len + 20 = nI (len + 20) := nI_add len 20
  by_cases c : len + 20 ≤ 1200
  · obtain ⟨g1, p1, p2, p3, p4, p5⟩ := x_append a1 t2 (by omega)
    obtain ⟨g2, q1, q2, q3, q4, q5⟩ := x_append a2 p2 (by omega)
    obtain ⟨g3, r1, r2, r3, r4, r5⟩ := x_append a3 q2 (by omega)
    obtain ⟨g4, u1, u2, u3, u4, u5⟩ := x_append a4 r2 (by omega)
    obtain ⟨g5, v1, v2, v3, v4, v5⟩ := x_append a5 u2 (by omega)
    obtain ⟨gm', m1, m2, m3, m4, m5⟩ := m_feed a1 a2 a3 a4 a5 t3 c
    have lx : ∀ a i, gl g5 a i = gl gx a i := fun a i => by rw [v5, u5, r5, q5, p5]
    have nx : ∀ a i, ¬ (a = 1 ∧ i = 2) → ¬ (a = 2 ∧ len ≤ i ∧ i < len + 20) → gi g5 a i = gi gx a i := fun a i p q => by rw [v4 _ _ p (by omega), u4 _ _ p (by omega), r4 _ _ p (by omega), q4 _ _ p (by omega), p4 _ _ p (by omega)]
    have hb : ∀ j, j < 20 → gi g5 2 (len + j) = sx (bv (sh (s5 a1 a2 a3 a4 a5 j) (j % 4))) := by
      intro j hj
      unfold s5
      by_cases d4 : j < 4
      · rw [if_pos d4, v4 _ _ (by omega) (by omega), u4 _ _ (by omega) (by omega), r4 _ _ (by omega) (by omega), q4 _ _ (by omega) (by omega), p3 j d4, Nat.mod_eq_of_lt d4]
      · rw [if_neg d4]
        by_cases d8 : j < 8
        · rw [if_pos d8, v4 _ _ (by omega) (by omega), u4 _ _ (by omega) (by omega), r4 _ _ (by omega) (by omega), show len + j = len + 4 + (j - 4) by omega, q3 (j - 4) (by omega), show j % 4 = j - 4 by omega]
        · rw [if_neg d8]
          by_cases d12 : j < 12
          · rw [if_pos d12, v4 _ _ (by omega) (by omega), u4 _ _ (by omega) (by omega), show len + j = len + 4 + 4 + (j - 8) by omega, r3 (j - 8) (by omega), show j % 4 = j - 8 by omega]
          · rw [if_neg d12]
            by_cases d16 : j < 16
            · rw [if_pos d16, v4 _ _ (by omega) (by omega), show len + j = len + 4 + 4 + 4 + (j - 12) by omega, u3 (j - 12) (by omega), show j % 4 = j - 12 by omega]
            · rw [if_neg d16, show len + j = len + 4 + 4 + 4 + 4 + (j - 16) by omega, v3 (j - 16) (by omega), show j % 4 = j - 16 by omega]
    have v2' : gi g5 1 2 = nI (len + 20) := v2
    refine ⟨g5, gm', ?_, len + 20, fun j => if j < len then tx j else bv (sh (s5 a1 a2 a3 a4 a5 (j - len)) ((j - len) % 4)), b, wb, S, D, P, N, z, G, K, h.tp (fun a i p q => nx a i p (fun r => q r.1)) lx (fun a i p q => m4 a i p (fun r => q r.1)) m5 ⟨c, v2', m2, fun j hj => ?_⟩⟩
    · unfold op_feed F_X6_feed
      rw [t2, e20, if_pos (show nI (len + 20) ≤ 1200 from nI_le c (by decide)), p1, Option.bind_some, q1, Option.bind_some, r1, Option.bind_some, u1, Option.bind_some, v1, Option.bind_some, Option.bind_some]
      dsimp only
      rw [m1, Option.bind_some]
      dsimp only
      rw [v2', if_pos rfl]
    · by_cases e : j < len
      · dsimp only
        rw [if_pos e, nx _ _ (by omega) (by omega), m4 _ _ (by omega) (by omega)]
        exact t4 j e
      · dsimp only
        rw [if_neg e]
        have h1 := hb (j - len) (by omega)
        have h2 := m3 (j - len) (by omega)
        rw [show len + (j - len) = j by omega] at h1 h2
        exact ⟨bv_lt _, h1, h2⟩
  · have nc : ¬ nI (len + 20) ≤ 1200 := fun q => c ((nI_leI (b := 1200) (by omega) (by decide)).mp q)
    refine ⟨gx, gm, ?_, len, tx, b, wb, S, D, P, N, z, G, K, h⟩
    unfold op_feed F_X6_feed F_X7_feed
    rw [t2, t3, e20, if_neg nc, if_neg nc, Option.bind_some]
    dsimp only
    rw [Option.bind_some]
    dsimp only
    rw [if_pos rfl]
end FEED

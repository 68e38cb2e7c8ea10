/-! calls: store, wishes -/
section STORES
variable {gx gm : GM} {len : Nat} {tx : Nat → Nat} {b wb : Nat} {S : St} {D : Dm} {P N z G K : Nat}
/-- what a reading that fails leaves -/
theorem INW.fl {gx' gm' : GM} (h : INW gx gm len tx b wb S D P N z G K) (hx : ∀ a i, (a = 0 ∨ a = 4 ∨ a = 5 ∨ (6 ≤ a ∧ a ≤ 16) ∨ (28 ≤ a ∧ a ≤ 34)) → gi gx' a i = gi gx a i) (hxl : ∀ a i, 6 ≤ a → a ≤ 16 → gl gx' a i = gl gx a i) (hm : ∀ a i, KM' b wb a i → gi gm' a i = gi gm a i) (hm' : ∀ a i, BKm b a i → gl gm' a i = gl gm a i) (hm2 : ∀ a i, (a = 0 ∧ 49 ≤ i) ∨ (28 ≤ a ∧ a ≤ 32) → gi gm' a i = gi gm a i) (hA : gi gx' 1 2 = 0 ∧ gi gm' 0 2 = 0 ∧ RsX gx' ∧ gi gx' 1 9 = gi gm' 0 4 ∧ gi gx' 1 10 = gi gm' 0 5) : INW gx' gm' 0 tx b wb S D P N z G K := by
  obtain ⟨_, hB, hC, hK, hY, hL, hS, hM⟩ := h
  refine ⟨⟨⟨by decide, hA.1, hA.2.1, fun j hj => absurd hj (Nat.not_lt_zero _)⟩, hA.2.2⟩, hB.ag (fun a i p q => ⟨hx _ _ (by omega), hxl _ _ p q⟩) hm hm', hC.ag (fun a i p q => hx _ _ (by omega)) (hx _ _ (by omega)), ⟨hK.1, by rw [hx _ _ (by omega)]; exact hK.2.1, by rw [hm2 _ _ (by omega)]; exact hK.2.2⟩, fun j hj => by rw [hx _ _ (by omega), hm2 _ _ (by omega)]; exact hY j hj, fun q => ?_, fun q => ?_, fun q => ?_⟩
  · rw [hx _ _ (by omega)] at q
    rw [hx _ _ (by omega), hx _ _ (by omega)]
    obtain ⟨d1, d2⟩ := hL q
    refine ⟨d1, d2.elim Or.inl (fun ⟨s, e1, e2, e3, e4⟩ => Or.inr ⟨s, e1, e2, e3, fun j hj => by rw [hx _ _ (by omega)]; exact e4 j hj⟩)⟩
  · rw [hx _ _ (by omega)] at q ⊢
    exact hS q
  · rw [hm2 _ _ (by omega)] at q
    obtain ⟨d1, d2⟩ := hM q
    exact ⟨d1.ag (fun a i p q => hm2 _ _ (by omega)), by rw [hm2 _ _ (by omega)]; exact d2⟩
theorem o_store (h : INV gx gm) (a1 a2 a3 a4 a5 : Int32) : ∃ gx' gm', op_store a1 a2 a3 a4 a5 gx gm = some (gx', gm') ∧ INV gx' gm' := by
  obtain ⟨len, tx, b, wb, S, D, P, N, z, G, K, h⟩ := h
  have n16 := h.2.1.1.r16
  have hwb := h.2.1.2.2.1
  have hb := n16.2.2.2.1
  obtain ⟨gx', gm', r, q1, q2, q3, q4⟩ := s_store h.1.1 h.1.2.1 hb h.2.1.2.1 hwb h.2.1.2.2.2.1
  refine ⟨gx', gm', ?_, ?_⟩
  · unfold op_store
    rw [q1, Option.bind_some]
    dsimp only
    rw [q2, Option.bind_some]
    dsimp only
    rw [if_pos rfl]
  · rcases q4 with ⟨ox, om⟩ | ⟨S', p1, p2, ⟨p3, p4, p5, p6, p7, p8, p9⟩, p10, p11, p12, p13, p14, p15⟩
    · refine ⟨0, tx, b, wb, S, D, P, N, z, G, K, h.fl (fun a i q => ox.1 _ _ (by unfold PFx; omega)) (fun a i p q => ox.2 _ _ (by unfold QFx; omega)) (fun a i q => om.1 _ _ (fun r => ?_)) (fun a i q => om.2 _ _ (fun r => ?_)) (fun a i q => om.1 _ _ (fun r => ?_)) q3⟩
      · unfold PFm BKm at r
        unfold KM' BKm at q
        omega
      · unfold QFm BKm at r
        unfold BKm at q
        omega
      · unfold PFm BKm at r
        omega
    · refine ⟨0, tx, 1 - b, wb, S', D00, 0, 0, 0, 0, 0, ⟨⟨by decide, q3.1, q3.2.1, fun j hj => absurd hj (Nat.not_lt_zero _)⟩, q3.2.2⟩, ⟨p2, p1, hwb, p10, p11, ⟨Nat.zero_le _, fun k hk => absurd hk (Nat.not_lt_zero _)⟩, fun k hk => absurd hk (Nat.not_lt_zero _), by decide, by decide, Nat.two_pow_pos _, p12⟩, ⟨⟨p3, fun k hk => absurd hk (Nat.not_lt_zero _), 0, fun _ => 0, fun _ => 0, fun _ => 0, p4, Nat.zero_le _, fun j hj => absurd hj (Nat.not_lt_zero _), fun j hj => absurd hj (Nat.not_lt_zero _), fun k hk => absurd hk (Nat.not_lt_zero _)⟩, p5, fun r _ _ => Nat.and_zero _⟩, ⟨Nat.two_pow_pos _, p6, p13⟩, fun j hj => ⟨by rw [p7 j hj, p15 j hj], 0, by decide, p7 j hj⟩, fun q => absurd p8 q, fun q => absurd p9 q, fun q => absurd p14 q⟩
theorem DX.mv {B B' : Nat} {gx gx' : GM} {S : St} {D : Dm} {q : Nat → Nat → Nat} {G : Nat} (h : DX B gx S D q G) (hx : ∀ a i, a ≤ 6 → gi gx' (B' + a) i = gi gx (B + a) i) : DX B' gx' S D q G := by
  obtain ⟨h1, h2, m, ow, nd, hp, h3, h4, h5, h6⟩ := h
  refine ⟨by rw [show gi gx' B' 0 = gi gx B 0 from hx 0 0 (by decide)]; exact h1, fun k hk => by rw [hx _ _ (by decide), hx _ _ (by decide), hx _ _ (by decide)]; exact h2 k hk, m, ow, nd, hp, by rw [show gi gx' B' 4 = gi gx B 4 from hx 0 4 (by decide)]; exact h3, h4, fun j hj => by rw [hx _ _ (by decide), hx _ _ (by decide), hx _ _ (by decide)]; exact h5 j hj, h6⟩
theorem o_wishes (h : INV gx gm) (a1 a2 a3 a4 a5 : Int32) : ∃ gx' gm', op_wishes a1 a2 a3 a4 a5 gx gm = some (gx', gm') ∧ INV gx' gm' := by
  obtain ⟨len, tx, b, wb, S, D, P, N, z, G, K, h⟩ := h
  have n16 := h.2.1.1.r16
  have hwb := h.2.1.2.2.1
  obtain ⟨t1, t2, t3, t4⟩ := h.1.1
  by_cases c : len ≤ 600
  · obtain ⟨gx4, gm4, r, q1, q2, ox, om, q3, q4, q5, q6⟩ := s_wishesR h.1.1 c h.1.2.1 h.2.1.1 h.2.1.2.1 hwb h.2.1.2.2.2.1
    have eX : F_X6_wishes gx = if r = 0 then some (-1, si gx4 1 2 0) else lt (pg swD (si gx4 1 2 0)) fun g_7 => (F_X1_lose_d (gi g_7 0 7) g_7).bind fun g_8 => (F_X6_forgetPieces g_8).bind fun g_9 => some (gi g_9 28 0, g_9) := by
      unfold F_X6_wishes F_X5_init
      rw [t2, if_pos (show nI len ≤ 600 from nI_le c (by decide)), lt_def, lt_def, Option.bind_some, q1, Option.bind_some]
      dsimp only
      rw [lt_def, lt_def]
    have hr4 : RsX gx4 := fun i hi => by rw [ox.2 _ _ (by unfold QGx; omega)]; exact h.1.2.1 i hi
    have km : ∀ a i, KM' b wb a i → ¬ PGm (1 - wb) a i := fun a i q r => by
      unfold PGm PWm at r
      unfold KM' BKm at q
      omega
    rcases q6 with ⟨rfl, bad⟩ | ⟨rfl, good, D', P', N', z', R⟩
    · refine ⟨si gx4 1 2 0, gm4, ?_, 0, tx, b, wb, S, D, P, N, z, G, K, h.fl (fun a i q => ?_) (fun a i p q => ?_) (fun a i q => om.1 _ _ (km a i q)) (fun a i q => om.2 _ _ (fun r => ?_)) (fun a i q => om.1 _ _ (fun r => ?_)) ⟨gi_same, q3, hr4, ?_, ?_⟩⟩
      · unfold op_wishes
        rw [eX, if_pos rfl, Option.bind_some]
        dsimp only
        rw [q2]
        unfold F_X7_wishes_78
        rw [bad, Option.bind_some, if_pos rfl, Option.bind_some]
        dsimp only
        rw [if_pos rfl]
      · rw [gi_si, if_neg (by omega), ox.1 _ _ (by unfold PGx; omega)]
      · rw [gl_si, ox.2 _ _ (by unfold QGx; omega)]
      · unfold QTm at r
        unfold BKm at q
        omega
      · unfold PGm PWm at r
        omega
      · rw [gi_si, if_neg (by decide)]; exact q4
      · rw [gi_si, if_neg (by decide)]; exact q5
    · obtain ⟨⟨r1, r2, r3, r4⟩, ⟨r5, r6, r7, r8, r9, r10⟩, r11, r12, r13⟩ := R
      rw [if_neg (by decide)] at eX
      have hG := h.2.1.2.2.2.2.2.2.2.2.2.1
      have hDX : DX 28 (pg swD (si gx4 1 2 0)) S D' raw 0 := r11.mv (fun a i ha => by rw [pg_gi, swD_lo (by omega), gi_si, if_neg (by omega)])
      obtain ⟨g8, d1, d2, d3, d4⟩ := x_lose (G := G) hDX r12 (fun n _ => Nat.le_refl n) n16.1 (fun i hi => by rw [Nat.zero_testBit] at hi; cases hi) hG (fun n l => rfl)
      have e07 : gi (pg swD (si gx4 1 2 0)) 0 7 = nI G := by
        rw [pg_gi, swD_id (by decide), gi_si, if_neg (by decide), ox.1 _ _ (by unfold PGx; omega)]; exact h.2.2.1.2.1
      have nx : ∀ a i, a < 28 → ¬ (a = 0 ∧ (i = 9 ∨ i = 12)) → ¬ (a = 1 ∧ 2 ≤ i ∧ i ≤ 10) → gi (si (si g8 0 9 0) 0 12 0) a i = gi gx a i := fun a i p q s => by
        rw [gi_si, if_neg (by omega), gi_si, if_neg (by omega), d3 _ _ (by omega), pg_gi, swD_id (by omega), gi_si, if_neg (by omega), ox.1 _ _ (by unfold PGx; omega)]
      have n1 : ∀ i, ¬ i = 2 → gi (si (si g8 0 9 0) 0 12 0) 1 i = gi gx4 1 i := fun i p => by
        rw [gi_si, if_neg (by omega), gi_si, if_neg (by omega), d3 _ _ (by omega), pg_gi, swD_id (by omega), gi_si, if_neg (by omega)]
      have n12 : gi (si (si g8 0 9 0) 0 12 0) 1 2 = 0 := by
        rw [gi_si, if_neg (by omega), gi_si, if_neg (by omega), d3 _ _ (by omega), pg_gi, swD_id (by omega), gi_same]
      have n4 : ∀ a i, 6 ≤ a → a ≤ 16 → gi (si (si g8 0 9 0) 0 12 0) a i = gi gx4 a i := fun a i p q => by
        rw [gi_si, if_neg (by omega), gi_si, if_neg (by omega), d3 _ _ (by omega), pg_gi, swD_id (by omega), gi_si, if_neg (by omega)]
      have lx : ∀ a i, a < 28 → gl (si (si g8 0 9 0) 0 12 0) a i = gl gx4 a i := fun a i p => by
        rw [gl_si, gl_si, d4, pg_gl, swD_id (by omega), gl_si]
      have nm : ∀ a i, ¬ (a = 0 ∧ (i = 37 ∨ i = 52)) → gi (si (si gm4 0 37 (nI (1 - wb))) 0 52 0) a i = gi gm4 a i := fun a i q => by rw [gi_si, if_neg (by omega), gi_si, if_neg (by omega)]
      have e37 : gi (si (si gm4 0 37 (nI (1 - wb))) 0 52 0) 0 37 = nI (1 - wb) := by rw [gi_si, if_neg (by decide), gi_same]
      have e14 : gi (si (si gm4 0 37 (nI (1 - wb))) 0 52 0) 14 (1 - wb) = nI (dW D') := by rw [nm _ _ (by omega)]; exact r4
      have e28 : gi (si (si g8 0 9 0) 0 12 0) 28 0 = nI (dW D') := by rw [gi_si, if_neg (by omega), gi_si, if_neg (by omega)]; exact d2.1
      refine ⟨si (si g8 0 9 0) 0 12 0, si (si gm4 0 37 (nI (1 - wb))) 0 52 0, ?_, 0, tx, b, 1 - wb, S, D', P', N', z', G, K, ⟨⟨by decide, n12, ?_, fun j hj => absurd hj (Nat.not_lt_zero _)⟩, fun i hi => ?_, ?_, ?_⟩, ⟨?_, ?_, by omega, e37, e14, r12, fun k hk => ?_, r8, by omega, hG, ?_⟩, ⟨?_, ?_, h.2.2.1.2.2⟩, ⟨h.2.2.2.1.1, ?_, ?_⟩, fun j hj => ?_, fun q => absurd ?_ q, fun q => absurd gi_same q, fun q => absurd gi_same q⟩
      · unfold op_wishes
        rw [eX, lt_def, e07, d1, Option.bind_some]
        unfold F_X6_forgetPieces
        rw [lt_def, lt_def, Option.bind_some, Option.bind_some]
        dsimp only
        rw [q2, e28]
        unfold F_X7_wishes_78
        rw [m_good good, Option.bind_some, if_neg (by decide), r3, lt_def, lt_def, e37, ck_true (inB_nI (by omega) (by decide)), nI_clamp (by omega), e14, Option.bind_some]
        dsimp only
        rw [if_pos rfl]
      · rw [nm _ _ (by omega)]; exact q3
      · rw [lx _ _ (by decide)]; exact hr4 i hi
      · rw [n1 _ (by decide), nm _ _ (by omega)]; exact q4
      · rw [n1 _ (by decide), nm _ _ (by omega)]; exact q5
      · exact r1.mv (fun a i ha => ⟨n4 _ _ (by omega) (by omega), lx _ _ (by omega)⟩) (fun a i hq => ⟨nm _ _ (by unfold BKm at hq; omega), rfl⟩)
      · rw [nm _ _ (by omega)]; exact r2
      · exact (r13 k hk).ag (fun a p q => nm _ _ (by omega)) (fun i _ => ⟨nm _ _ (by omega), nm _ _ (by omega)⟩) (fun i _ => ⟨nm _ _ (by omega), nm _ _ (by omega)⟩) (fun i _ => nm _ _ (by omega)) (Nat.le_refl _) r8 (Nat.le_refl _) (by omega) (Nat.le_refl _)
      · rw [nm _ _ (by omega), om.1 _ _ (fun r => by unfold PGm PWm at r; omega)]; exact h.2.1.2.2.2.2.2.2.2.2.2.2
      · exact d2.ag (fun a i ha => by rw [gi_si, if_neg (by omega), gi_si, if_neg (by omega)])
      · rw [nx _ _ (by decide) (by omega) (by omega)]; exact h.2.2.1.2.1
      · rw [nx _ _ (by decide) (by omega) (by omega)]; exact h.2.2.2.1.2.1
      · rw [nm _ _ (by omega), om.1 _ _ (fun r => by unfold PGm PWm at r; omega)]; exact h.2.2.2.1.2.2
      · rw [nx _ _ (by decide) (by omega) (by omega), nm _ _ (by omega), om.1 _ _ (fun r => by unfold PGm PWm at r; omega)]; exact h.2.2.2.2.1 j hj
      · rw [gi_si, if_neg (by decide), gi_same]
  · have nc : ¬ nI len ≤ 600 := fun q => c ((nI_leI (b := 600) (by omega) (by decide)).mp q)
    refine ⟨gx, gm, ?_, len, tx, b, wb, S, D, P, N, z, G, K, h⟩
    unfold op_wishes F_X6_wishes F_X7_wishes
    rw [t2, t3, if_neg nc, if_neg nc, Option.bind_some]
    dsimp only
    rw [Option.bind_some]
    dsimp only
    rw [if_pos rfl]
end STORES

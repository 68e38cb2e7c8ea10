/-! calls: least, keep, steady, piece, order, rings -/
theorem nI_ofB (x : Int32) : x = nI x.toBitVec.toNat := by
  apply Int32.toBitVec_inj.mp
  show _ = BitVec.ofNat 32 _
  rw [BitVec.ofNat_toNat, BitVec.setWidth_eq]
theorem nI_z32 {a : Nat} (ha : a < 2 ^ 32) : nI a = 0 ↔ a = 0 := by
  constructor
  · intro h
    have := congrArg (fun x => (Int32.toBitVec x).toNat) h
    rw [pk_tn ha] at this
    exact this
  · intro h; rw [h]; rfl
theorem has_bit (x : Int32) {r : Nat} (hr : r < 31) : ((x >>> (nI r &&& 31)) &&& 1) = if x.toBitVec.getLsbD r = true then 1 else 0 := by
  rw [nI_31 (by omega)]
  apply Int32.toBitVec_inj.mp
  rw [Int32.toBitVec_and, Int32.toBitVec_shiftRight]
  have e : x.toBitVec.sshiftRight' ((nI r).toBitVec.smod 32) = x.toBitVec.sshiftRight r := by unfold BitVec.sshiftRight'; rw [smod_nI r hr]
  rw [e]
  apply BitVec.eq_of_getLsbD_eq
  intro i hi
  rw [BitVec.getLsbD_and, BitVec.getLsbD_sshiftRight]
  have h1 : (Int32.toBitVec 1).getLsbD i = decide (i = 0) := by
    show (1#32).getLsbD i = _
    rw [BitVec.getLsbD_one]
    simp
  rw [h1]
  by_cases c : i = 0
  · subst c
    cases hb : x.toBitVec.getLsbD r with
    | true => simp [hb]; omega
    | false => simp [hb]; intro _; omega
  · simp only [c, decide_false, Bool.and_false]
    cases hb : x.toBitVec.getLsbD r with
    | true => simp [h1, c]
    | false => simp
theorem nI_lsb {a r : Nat} (hr : r < 32) : (nI a).toBitVec.getLsbD r = a.testBit r := by
  show (BitVec.ofNat 32 a).getLsbD r = _
  rw [BitVec.getLsbD_ofNat]
  simp [hr]
theorem not_lsb {a r : Nat} (hr : r < 32) : (nI a ^^^ (-1)).toBitVec.getLsbD r = !a.testBit r := by
  rw [nI_m1, nI_xor, nI_lsb hr, Nat.testBit_xor]
  have : (4294967295 : Nat).testBit r = true := by
    rw [show (4294967295 : Nat) = 2 ^ 32 - 1 from rfl, Nat.testBit_two_pow_sub_one]
    simpa using hr
  rw [this, Bool.xor_true]
theorem x_has2 (x : Int32) {r : Nat} (hr : r < 31) : F_X6_has x (nI r) = some (if x.toBitVec.getLsbD r = true then 1 else 0) := by
  unfold F_X6_has
  rw [has_bit x hr]
  cases x.toBitVec.getLsbD r <;> rfl
section OPS1
variable {gx gm : GM} {len : Nat} {tx : Nat → Nat} {b wb : Nat} {S : St} {D : Dm} {P N z G K : Nat}
/-- the reference's scratch cells -/
theorem INW.mg {gm' : GM} (h : INW gx gm len tx b wb S D P N z G K) (hm : ∀ a i, ¬ (a = 27 ∨ a = 31) → gi gm' a i = gi gm a i) (hl : ∀ a i, gl gm' a i = gl gm a i) : INW gx gm' len tx b wb S D P N z G K := by
  obtain ⟨hA, hB, hC, hK, hY, hL, hS, hM⟩ := h
  refine ⟨⟨⟨hA.1.1, hA.1.2.1, by rw [hm _ _ (by omega)]; exact hA.1.2.2.1, fun j hj => ⟨(hA.1.2.2.2 j hj).1, (hA.1.2.2.2 j hj).2.1, by rw [hm _ _ (by omega)]; exact (hA.1.2.2.2 j hj).2.2⟩⟩, hA.2.1, by rw [hm _ _ (by omega)]; exact hA.2.2.1, by rw [hm _ _ (by omega)]; exact hA.2.2.2⟩, hB.ag (fun _ _ _ _ => ⟨rfl, rfl⟩) (fun a i q => hm _ _ (by unfold KM' BKm at q; omega)) (fun a i _ => hl a i), hC, ⟨hK.1, hK.2.1, by rw [hm _ _ (by omega)]; exact hK.2.2⟩, fun j hj => by rw [hm _ _ (by omega)]; exact hY j hj, hL, hS, fun q => ?_⟩
  rw [hm _ _ (by omega)] at q
  obtain ⟨h1, h2⟩ := hM q
  exact ⟨h1.ag (fun a i p q => hm _ _ (by omega)), by rw [hm _ _ (by omega)]; exact h2⟩
theorem o_least (h : INV gx gm) (a1 a2 a3 a4 a5 : Int32) : ∃ gx' gm', op_least a1 a2 a3 a4 a5 gx gm = some (gx', gm') ∧ INV gx' gm' := by
  obtain ⟨len, tx, b, wb, S, D, P, N, z, G, K, h⟩ := h
  obtain ⟨gx', gm', r, q1, q2, q3, q4, q5, q6, q7, q8⟩ := i_least h
  refine ⟨gx', gm', ?_, len, tx, b, wb, S, D, P, N, z, G, K, q5⟩
  unfold op_least F_X7_least
  rw [q1, Option.bind_some]
  dsimp only
  rw [q2, Option.bind_some, Option.bind_some]
  dsimp only
  rw [q3, if_pos rfl]
theorem o_keep (h : INV gx gm) (a1 a2 a3 a4 a5 : Int32) : ∃ gx' gm', op_keep a1 a2 a3 a4 a5 gx gm = some (gx', gm') ∧ INV gx' gm' := by
  obtain ⟨len, tx, b, wb, S, D, P, N, z, G, K, h⟩ := h
  obtain ⟨gx1, gm1, r, q1, q2, q3, q4, q5, q6, q7, q8⟩ := i_least h
  have n16 := q5.2.1.1.r16
  rcases q4.cs n16.1 with ⟨k1, k2⟩ | ⟨s, k1, k2, k3, k4, k5⟩
  · refine ⟨gx1, gm1, ?_, len, tx, b, wb, S, D, P, N, z, G, K, q5⟩
    unfold op_keep F_X6_keep F_X7_keep
    rw [q1, Option.bind_some]
    dsimp only
    rw [lt_def, if_pos k1, Option.bind_some]
    dsimp only
    rw [q2, Option.bind_some, q3, if_neg k2, Option.bind_some]
    dsimp only
    rw [if_pos rfl]
  · refine ⟨si (si gx1 0 8 r) 0 12 0, si gm1 0 50 r, ?_, len, tx, b, wb, S, D, P, N, z, G, s, ?_⟩
    · unfold op_keep F_X6_keep F_X7_keep
      rw [q1, Option.bind_some]
      dsimp only
      rw [lt_def, if_neg k5, lt_def, lt_def, Option.bind_some]
      dsimp only
      rw [q2, Option.bind_some, q3, if_pos k4, lt_def, Option.bind_some]
      dsimp only
      rw [if_pos rfl]
    · obtain ⟨hA, hB, hC, hK, hY, hL, hS, hM⟩ := q5
      have nx : ∀ a i, ¬ (a = 0 ∧ (i = 8 ∨ i = 12)) → gi (si (si gx1 0 8 r) 0 12 0) a i = gi gx1 a i := fun a i q => by rw [gi_si, if_neg (by omega), gi_si, if_neg (by omega)]
      have nm : ∀ a i, ¬ (a = 0 ∧ i = 50) → gi (si gm1 0 50 r) a i = gi gm1 a i := fun a i q => by rw [gi_si, if_neg q]
      refine ⟨⟨⟨hA.1.1, by rw [nx _ _ (by omega)]; exact hA.1.2.1, by rw [nm _ _ (by omega)]; exact hA.1.2.2.1, fun j hj => ⟨(hA.1.2.2.2 j hj).1, by rw [nx _ _ (by omega)]; exact (hA.1.2.2.2 j hj).2.1, by rw [nm _ _ (by omega)]; exact (hA.1.2.2.2 j hj).2.2⟩⟩, hA.2.1, by rw [nx _ _ (by omega), nm _ _ (by omega)]; exact hA.2.2.1, by rw [nx _ _ (by omega), nm _ _ (by omega)]; exact hA.2.2.2⟩, hB.ag (fun a i p q => ⟨nx _ _ (by omega), rfl⟩) (fun a i q => nm _ _ (by unfold KM' BKm at q; omega)) (fun _ _ _ => rfl), hC.ag (fun a i p q => nx _ _ (by omega)) (nx _ _ (by omega)), ⟨k2, by rw [gi_si, if_neg (by decide), gi_same]; exact k1, by rw [gi_same]; exact k1⟩, fun j hj => by rw [nx _ _ (by omega), nm _ _ (by omega)]; exact hY j hj, fun q => ?_, fun q => absurd gi_same q, fun q => ?_⟩
      · rw [nx _ _ (by omega)] at q
        rw [nx _ _ (by omega), nx _ _ (by omega)]
        obtain ⟨c1, c2⟩ := hL q
        refine ⟨c1, c2.elim Or.inl (fun ⟨s, d1, d2, d3, d4⟩ => Or.inr ⟨s, d1, d2, d3, fun j hj => by rw [nx _ _ (by omega)]; exact d4 j hj⟩)⟩
      · rw [nm _ _ (by omega)] at q
        obtain ⟨c1, c2⟩ := hM q
        exact ⟨c1.ag (fun a i p q => nm _ _ (by omega)), by rw [nm _ _ (by omega)]; exact c2⟩
/-- the class's steady -/
theorem x_steady (hs : SS 6 b gx gm S) (hD : DSs S D) (hG : G < 2 ^ sR S) (hC : IC gx S D G) (hK : K < 2 ^ sR S) (h8 : gi gx 0 8 = nI K) (hS : IS gx S D G K) : ∃ gx' r, F_X6_steady gx = some (r, gx') ∧ Ow (fun a i => a = 42 ∨ (a = 0 ∧ (i = 12 ∨ i = 13))) QLx gx gx' ∧ IsB S D G (adn K G) r ∧ IS gx' S D G K := by
  have n16 := hs.r16
  by_cases c : gi gx 0 12 = 0
  · have e07 : gi (zi gx 42) 0 7 = nI G := by rw [zi_gi, if_neg (by decide)]; exact hC.2.1
    have e08 : gi (zi gx 42) 0 8 = nI K := by rw [zi_gi, if_neg (by decide)]; exact h8
    have e0 : nI K &&& (nI G ^^^ (-1)) = nI (adn K G) := nI_adn _ _ (by have := p16 n16.1 hK; omega)
    have nx : ∀ a i, ¬ a = 42 → gi (si (si (zi gx 42) 42 2 (nI G)) 42 3 (nI (adn K G))) a i = gi gx a i := fun a i q => by rw [gi_si, if_neg (by omega), gi_si, if_neg (by omega), zi_gi, if_neg q]
    have lx : ∀ a i, ¬ a = 42 → gl (si (si (zi gx 42) 42 2 (nI G)) 42 3 (nI (adn K G))) a i = gl gx a i := fun a i q => by rw [gl_si, gl_si, zi_gl, if_neg q]
    have hs2 : SS 6 b (si (si (zi gx 42) 42 2 (nI G)) 42 3 (nI (adn K G))) gm S := hs.mv (fun a i ha => ⟨nx _ _ (by omega), lx _ _ (by omega)⟩) AgM.rf
    have hC2 : IC (si (si (zi gx 42) 42 2 (nI G)) 42 3 (nI (adn K G))) S D G := hC.ag (fun a i p q => nx _ _ (by omega)) (nx _ _ (by decide))
    obtain ⟨m, ow, nd, hp, p1, p2, p3⟩ := x_pi hs2 hD hG hC2 (by rw [gi_si, if_neg (by decide), gi_same])
    obtain ⟨r, g4, q1, q2, q3⟩ := x_cut (K := adn K G) p1 (adn_lt hK) gi_same hC.2.2 p3
    have hB : IsB S D G (adn K G) r := isB_cut p2 hD n16.1 q3
    have eI : F_X0_init (gi (zi gx 42) 0 7) (gi (zi gx 42) 0 8) (zi gx 42) = some (si (si (zi gx 42) 42 2 (nI G)) 42 3 (nI (adn K G))) := by
      unfold F_X0_init
      rw [e07, e08, e0, lt_def, lt_def]
    have e13 : gi (si (si g4 0 13 r) 0 12 1) 0 13 = r := by rw [gi_si, if_neg (by decide), gi_same]
    have o4 : Ow (fun a i => a = 42 ∨ (a = 0 ∧ (i = 12 ∨ i = 13))) QLx gx g4 := ⟨fun a i q => by rw [q2.1 a i (fun e => q (Or.inl e))]; exact nx a i (fun e => q (Or.inl e)), fun a i q => by rw [q2.2 a i]; exact lx a i q⟩
    refine ⟨si (si g4 0 13 r) 0 12 1, r, ?_, (o4.si (Or.inr ⟨rfl, Or.inr rfl⟩)).si (Or.inr ⟨rfl, Or.inl rfl⟩), hB, fun _ => by rw [e13]; exact hB⟩
    unfold F_X6_steady
    rw [if_pos c, lt_def, eI, Option.bind_some, q1, Option.bind_some]
    dsimp only
    rw [lt_def, lt_def, e13]
  · refine ⟨gx, gi gx 0 13, ?_, Ow.rf gx, hS c, hS⟩
    unfold F_X6_steady
    rw [if_neg c]
theorem o_steady (h : INV gx gm) (a1 a2 a3 a4 a5 : Int32) : ∃ gx' gm', op_steady a1 a2 a3 a4 a5 gx gm = some (gx', gm') ∧ INV gx' gm' := by
  obtain ⟨len, tx, b, wb, S, D, P, N, z, G, K, h⟩ := h
  obtain ⟨hA, hB, hC, hK, hY, hL, hS, hM⟩ := h
  have n16 := hB.1.r16
  obtain ⟨gx', r, a1', a2', a3', a4'⟩ := x_steady hB.1 hB.2.2.2.2.2.1 hB.2.2.2.2.2.2.2.2.2.1 hC hK.1 hK.2.1 hS
  obtain ⟨gm', b1, b2, b3, b4, b5⟩ := m_known hB hM
  have hB' := hB.nk b2
  obtain ⟨r', c1, c2⟩ := m_steady (hB'.mp b3) (p16 n16.1 hK.1) (by rw [b2.1 _ _ (by unfold NKm; omega)]; exact hK.2.2)
  have hr' : IsB S D G (adn K G) r' := c2
  have er : r = r' := a3'.uniq hr'
  have nx : ∀ a i, ¬ (a = 42 ∨ (a = 0 ∧ (i = 12 ∨ i = 13))) → gi gx' a i = gi gx a i := a2'.1
  have nm : ∀ a i, ¬ NKm a i → gi gm' a i = gi gm a i := b2.1
  refine ⟨gx', gm', ?_, len, tx, b, wb, S, D, P, N, z, G, K, ⟨⟨hA.1.1, ?_, ?_, fun j hj => ⟨(hA.1.2.2.2 j hj).1, ?_, ?_⟩⟩, fun i hi => ?_, ?_, ?_⟩, hB'.ag (fun a i p q => ⟨nx _ _ (by omega), a2'.2 _ _ (by unfold QLx; omega)⟩) (fun _ _ _ => rfl) (fun _ _ _ => rfl), hC.ag (fun a i p q => nx _ _ (by omega)) (nx _ _ (by omega)), ⟨hK.1, by rw [nx _ _ (by omega)]; exact hK.2.1, by rw [nm _ _ (by unfold NKm; omega)]; exact hK.2.2⟩, fun j hj => ?_, fun q => ?_, a4', fun _ => ⟨b3, b4⟩⟩
  · unfold op_steady F_X7_steady
    rw [a1', Option.bind_some]
    dsimp only
    rw [b1, Option.bind_some, c1, Option.bind_some]
    dsimp only
    rw [er, if_pos rfl]
  · rw [nx _ _ (by omega)]; exact hA.1.2.1
  · rw [nm _ _ (by unfold NKm; omega)]; exact hA.1.2.2.1
  · rw [nx _ _ (by omega)]; exact (hA.1.2.2.2 j hj).2.1
  · rw [nm _ _ (by unfold NKm; omega)]; exact (hA.1.2.2.2 j hj).2.2
  · rw [a2'.2 _ _ (by unfold QLx; omega)]; exact hA.2.1 i hi
  · rw [nx _ _ (by omega), nm _ _ (by unfold NKm; omega)]; exact hA.2.2.1
  · rw [nx _ _ (by omega), nm _ _ (by unfold NKm; omega)]; exact hA.2.2.2
  · rw [nx _ _ (by omega), nm _ _ (by unfold NKm; omega)]; exact hY j hj
  · rw [nx _ _ (by omega)] at q
    rw [nx _ _ (by omega), nx _ _ (by omega)]
    obtain ⟨d1, d2⟩ := hL q
    refine ⟨d1, d2.elim Or.inl (fun ⟨s, e1, e2, e3, e4⟩ => Or.inr ⟨s, e1, e2, e3, fun j hj => by rw [nx _ _ (by omega)]; exact e4 j hj⟩)⟩
end OPS1

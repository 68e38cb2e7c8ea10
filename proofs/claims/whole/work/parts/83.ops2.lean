/-! calls: piece, order, rings, why -/
section OPS2
variable {gx gm : GM} {len : Nat} {tx : Nat → Nat} {b wb : Nat} {S : St} {D : Dm} {P N z G K : Nat}
theorem INW.lx (h : INW gx gm len tx b wb S D P N z G K) : ∃ gx' r, F_X6_least gx = some (r, gx') ∧ IsB S D G 0 r ∧ INW gx' gm len tx b wb S D P N z G K ∧ gi gx' 0 10 = r ∧ ¬ gi gx' 0 9 = 0 := by
  obtain ⟨hA, hB, hC, hK, hY, hL, hS, hM⟩ := h
  obtain ⟨gx', r, a1, a2, a3, a4, a5, a6⟩ := x_known hB.1 hB.2.2.2.2.2.1 hB.2.2.2.2.2.2.2.2.2.1 hC hL
  have nx : ∀ a i, ¬ NLx a i → gi gx' a i = gi gx a i := a2.1
  refine ⟨gx', r, a1, a3, ⟨⟨⟨hA.1.1, ?_, hA.1.2.2.1, fun j hj => ⟨(hA.1.2.2.2 j hj).1, ?_, (hA.1.2.2.2 j hj).2.2⟩⟩, fun i hi => ?_, ?_, ?_⟩, hB.ag (fun a i p q => ⟨nx _ _ (by unfold NLx; omega), a2.2 _ _ (by unfold QLx; omega)⟩) (fun _ _ _ => rfl) (fun _ _ _ => rfl), hC.ag (fun a i p q => nx _ _ (by unfold NLx; omega)) (nx _ _ (by unfold NLx; omega)), ⟨hK.1, by rw [nx _ _ (by unfold NLx; omega)]; exact hK.2.1, hK.2.2⟩, fun j hj => ?_, a6, fun q => ?_, hM⟩, a4, a5⟩
  · rw [nx _ _ (by unfold NLx; omega)]; exact hA.1.2.1
  · rw [nx _ _ (by unfold NLx; omega)]; exact (hA.1.2.2.2 j hj).2.1
  · rw [a2.2 _ _ (by unfold QLx; omega)]; exact hA.2.1 i hi
  · rw [nx _ _ (by unfold NLx; omega)]; exact hA.2.2.1
  · rw [nx _ _ (by unfold NLx; omega)]; exact hA.2.2.2
  · rw [nx _ _ (by unfold NLx; omega)]; exact hY j hj
  · rw [nx _ _ (by unfold NLx; omega)] at q ⊢
    exact hS q
theorem INW.km (h : INW gx gm len tx b wb S D P N z G K) : ∃ gm', F_X7_know gm = some gm' ∧ IsB S D G 0 (gi gm' 0 51) ∧ INW gx gm' len tx b wb S D P N z G K ∧ CK gm' S D G := by
  obtain ⟨hA, hB, hC, hK, hY, hL, hS, hM⟩ := h
  obtain ⟨gm', b1, b2, b3, b4, b5⟩ := m_known hB hM
  have nm : ∀ a i, ¬ NKm a i → gi gm' a i = gi gm a i := b2.1
  refine ⟨gm', b1, b4, ⟨⟨⟨hA.1.1, hA.1.2.1, ?_, fun j hj => ⟨(hA.1.2.2.2 j hj).1, (hA.1.2.2.2 j hj).2.1, ?_⟩⟩, hA.2.1, ?_, ?_⟩, hB.nk b2, hC, ⟨hK.1, hK.2.1, by rw [nm _ _ (by unfold NKm; omega)]; exact hK.2.2⟩, fun j hj => ?_, hL, hS, fun _ => ⟨b3, b4⟩⟩, b3⟩
  · rw [nm _ _ (by unfold NKm; omega)]; exact hA.1.2.2.1
  · rw [nm _ _ (by unfold NKm; omega)]; exact (hA.1.2.2.2 j hj).2.2
  · rw [nm _ _ (by unfold NKm; omega)]; exact hA.2.2.1
  · rw [nm _ _ (by unfold NKm; omega)]; exact hA.2.2.2
  · rw [nm _ _ (by unfold NKm; omega)]; exact hY j hj
/-- the class's spare cells -/
theorem INW.xg {gx' : GM} (h : INW gx gm len tx b wb S D P N z G K) (hx : ∀ a i, ¬ a = 42 → gi gx' a i = gi gx a i) (hl : ∀ a i, ¬ a = 42 → gl gx' a i = gl gx a i) : INW gx' gm len tx b wb S D P N z G K := by
  obtain ⟨hA, hB, hC, hK, hY, hL, hS, hM⟩ := h
  refine ⟨⟨⟨hA.1.1, by rw [hx _ _ (by omega)]; exact hA.1.2.1, hA.1.2.2.1, fun j hj => ⟨(hA.1.2.2.2 j hj).1, by rw [hx _ _ (by omega)]; exact (hA.1.2.2.2 j hj).2.1, (hA.1.2.2.2 j hj).2.2⟩⟩, fun i hi => by rw [hl _ _ (by omega)]; exact hA.2.1 i hi, by rw [hx _ _ (by omega)]; exact hA.2.2.1, by rw [hx _ _ (by omega)]; exact hA.2.2.2⟩, hB.ag (fun a i p q => ⟨hx _ _ (by omega), hl _ _ (by omega)⟩) (fun _ _ _ => rfl) (fun _ _ _ => rfl), hC.ag (fun a i p q => hx _ _ (by omega)) (hx _ _ (by omega)), ⟨hK.1, by rw [hx _ _ (by omega)]; exact hK.2.1, hK.2.2⟩, fun j hj => by rw [hx _ _ (by omega)]; exact hY j hj, fun q => ?_, fun q => ?_, hM⟩
  · rw [hx _ _ (by omega)] at q
    rw [hx _ _ (by omega), hx _ _ (by omega)]
    obtain ⟨d1, d2⟩ := hL q
    refine ⟨d1, d2.elim Or.inl (fun ⟨s, e1, e2, e3, e4⟩ => Or.inr ⟨s, e1, e2, e3, fun j hj => by rw [hx _ _ (by omega)]; exact e4 j hj⟩)⟩
  · rw [hx _ _ (by omega)] at q ⊢
    exact hS q
theorem o_piece (h : INV gx gm) (a1 a2 a3 a4 a5 : Int32) : ∃ gx' gm', op_piece a1 a2 a3 a4 a5 gx gm = some (gx', gm') ∧ INV gx' gm' := by
  obtain ⟨len, tx, b, wb, S, D, P, N, z, G, K, h⟩ := h
  have h0 := h
  obtain ⟨hA, hB, hC, hK, hY, hL, hS, hM⟩ := h
  have n16 := hB.1.r16
  have hal := x_allRows n16.1 n16.2.1
  have ea := nI_ofB a1
  generalize ha : a1.toBitVec.toNat = a at ea
  have ha32 : a < 2 ^ 32 := by rw [← ha]; exact a1.toBitVec.isLt
  have h2n : 2 ^ sR S ≤ 65536 := Nat.pow_le_pow_right (n := 2) (by decide) n16.1
  have hp2 := Nat.two_pow_pos (sR S)
  subst ea
  by_cases c : a < 2 ^ sR S
  · have z0 : nI a &&& (nI (2 ^ sR S - 1) ^^^ (-1)) = 0 := by
      rw [nI_adn _ _ ha32, (nI_z32 (adn_lt ha32)).mpr]
      exact adn_zero.mpr (fun i hi => by rw [Nat.testBit_two_pow_sub_one]; simpa using bits_lt c hi)
    have e07 : gi (zi gx 42) 0 7 = nI G := by rw [zi_gi, if_neg (by decide)]; exact hC.2.1
    have e0 : (0 : Int32) &&& (nI G ^^^ (-1)) = nI 0 := by rw [show (0 : Int32) = nI 0 from rfl, nI_adn _ _ (by decide), show adn 0 G = 0 from adn_zero.mpr (fun i hi => by rw [Nat.zero_testBit] at hi; cases hi)]
    have eI : F_X0_init (gi (zi gx 42) 0 7) 0 (zi gx 42) = some (si (si (zi gx 42) 42 2 (nI G)) 42 3 (nI 0)) := by
      unfold F_X0_init
      rw [e07, e0, lt_def, lt_def]
    have nx : ∀ a i, ¬ a = 42 → gi (si (si (zi gx 42) 42 2 (nI G)) 42 3 (nI 0)) a i = gi gx a i := fun a i q => by rw [gi_si, if_neg (by omega), gi_si, if_neg (by omega), zi_gi, if_neg q]
    have lx : ∀ a i, ¬ a = 42 → gl (si (si (zi gx 42) 42 2 (nI G)) 42 3 (nI 0)) a i = gl gx a i := fun a i q => by rw [gl_si, gl_si, zi_gl, if_neg q]
    have h1 := h0.xg nx lx
    obtain ⟨gm', b1, b2, b3, b4⟩ := h1.km
    obtain ⟨m, ow, nd, hp, p1, p2, p3⟩ := x_pi b3.2.1.1 b3.2.1.2.2.2.2.2.1 b3.2.1.2.2.2.2.2.2.2.2.2.1 b3.2.2.1 (by rw [gi_si, if_neg (by decide), gi_same])
    have px := x_isPiece p1 c
    have pm := m_isPiece (b3.2.1.mp b4) c
    have hsame := pc_same (lk := fun r => lkc S r 5) p2 b3.2.1.2.2.2.2.2.1 n16.1 a
    have eM : ∀ r, F_X7_isPiece (nI a) gm' = some r → F_X7_piece (nI a) gm = if r = 0 then some (0, gm') else some (1, gm') := by
      intro r hr
      unfold F_X7_piece
      rw [if_neg (nI_pos (by omega)), hB.2.1, ck_true (inB_nI n16.2.2.2.1 (by decide)), nI_clamp (by omega), n16.2.2.1, shl1 (by omega), if_pos (nI_lt c (by omega)), b1, Option.bind_some, hr, Option.bind_some]
    have eX : ∀ r, F_X0_isPiece (nI a) (si (si (zi gx 42) 42 2 (nI G)) 42 3 (nI 0)) = some r → F_X6_piece (nI a) gx = if r = 0 then some (0, si (si (zi gx 42) 42 2 (nI G)) 42 3 (nI 0)) else some (1, si (si (zi gx 42) 42 2 (nI G)) 42 3 (nI 0)) := by
      intro r hr
      unfold F_X6_piece
      rw [hal, Option.bind_some, if_pos z0, lt_def, eI, Option.bind_some, hr, Option.bind_some]
    refine ⟨_, gm', ?_, len, tx, b, wb, S, D, P, N, z, G, K, b3⟩
    unfold op_piece
    by_cases cp : Pc (sR S) m G (fun r => lkc S r 5) ow nd hp a
    · rw [eX 1 (px.1 cp), if_neg (by decide), Option.bind_some]
      dsimp only
      rw [eM 1 (pm.1 (hsame.mp cp)), if_neg (by decide), Option.bind_some]
      dsimp only
      rw [if_pos rfl]
    · rw [eX 0 (px.2 cp), if_pos rfl, Option.bind_some]
      dsimp only
      rw [eM 0 (pm.2 (fun q => cp (hsame.mpr q))), if_pos rfl, Option.bind_some]
      dsimp only
      rw [if_pos rfl]
  · have z0 : ¬ nI a &&& (nI (2 ^ sR S - 1) ^^^ (-1)) = 0 := by
      rw [nI_adn _ _ ha32]
      intro q
      have := adn_zero.mp ((nI_z32 (adn_lt ha32)).mp q)
      have := Sub.lt this (show 2 ^ sR S - 1 < 2 ^ sR S by omega)
      omega
    refine ⟨gx, gm, ?_, len, tx, b, wb, S, D, P, N, z, G, K, h0⟩
    have eM : F_X7_piece (nI a) gm = some (-1, gm) := by
      unfold F_X7_piece
      by_cases c2 : nI a < 0
      · rw [if_pos c2]
      · rw [if_neg c2, hB.2.1, ck_true (inB_nI n16.2.2.2.1 (by decide)), nI_clamp (by omega), n16.2.2.1, shl1 (by omega), if_neg]
        intro q
        obtain ⟨j, j1, j2⟩ := nI_of c2
        have e : a = j := by
          have := congrArg (fun x => (Int32.toBitVec x).toNat) j2
          rw [pk_tn ha32, pk_tn (by omega)] at this
          exact this
        subst e
        have := (nI_ltI j1 (by omega)).mp q
        omega
    unfold op_piece F_X6_piece
    rw [hal, Option.bind_some, if_neg z0, Option.bind_some]
    dsimp only
    rw [eM, Option.bind_some]
    dsimp only
    rw [if_pos rfl]
/-- place of the reference, at the least piece -/
theorem i_place (h : INW gx gm len tx b wb S D P N z G K) (hc : CK gm S D G) {s : Nat} (h51 : gi gm 0 51 = nI s) (hs : s < 2 ^ sR S) : ∃ gm', F_X7_place gm = some (nI (olx S 16 s).length, gm') ∧ (∀ i, i < (olx S 16 s).length → gi gm' 31 i = nI ((olx S 16 s).getD i 0)) ∧ INW gx gm' len tx b wb S D P N z G K := by
  have n16 := h.2.1.1.r16
  obtain ⟨g', a1, a2, a3, a4, a5⟩ := m_place n16.1 n16.2.2.2.1 16 s 0 gm (pc_le s) (by decide) hs h.2.1.2.1 n16.2.2.1 hc.1 FU (by decide)
  refine ⟨g', ?_, fun i hi => ?_, h.mg (fun a i q => a4 a i (by omega)) a5⟩
  · unfold F_X7_place
    rw [h51, lt_def]
    rw [Nat.zero_add] at a1
    exact a1
  · have := a2 i hi
    rw [Nat.zero_add] at this
    exact this
theorem o_order (h : INV gx gm) (a1 a2 a3 a4 a5 : Int32) : ∃ gx' gm', op_order a1 a2 a3 a4 a5 gx gm = some (gx', gm') ∧ INV gx' gm' := by
  obtain ⟨len, tx, b, wb, S, D, P, N, z, G, K, h⟩ := h
  obtain ⟨gx1, gm1, r, q1, q2, q3, q4, q5, q6, q7, q8⟩ := i_least h
  have n16 := q5.2.1.1.r16
  have eM : F_X7_order a1 gm = if r < 0 then some (-1, gm1) else if a1 < 0 then some (-1, gm1) else (F_X7_place gm1).bind fun (r_3, g_4) => if a1 < r_3 then ckB (inB a1 16) (some (gi g_4 31 a1.toNatClampNeg, g_4)) else some (-1, g_4) := by
    unfold F_X7_order F_X7_least F_X7_order_19
    rw [q2, Option.bind_some, Option.bind_some]
    dsimp only
    rw [q3]
  have eX : F_X6_order a1 gx = if r = -1 then some (-1, gx1) else if a1 < 0 then some (-1, gx1) else if (gi gx1 0 11) ≤ a1 then some (-1, gx1) else if a1 < 16 then ckB (inB a1 16) (some (gi gx1 5 a1.toNatClampNeg, gx1)) else some (-1, gx1) := by
    unfold F_X6_order
    rw [q1, Option.bind_some]
  unfold op_order
  rcases q4.cs n16.1 with ⟨k1, k2⟩ | ⟨s, k1, k2, k3, k4, k5⟩
  · refine ⟨gx1, gm1, ?_, len, tx, b, wb, S, D, P, N, z, G, K, q5⟩
    rw [eX, if_pos k1, Option.bind_some]
    dsimp only
    rw [eM, if_pos (by rw [k1]; decide), Option.bind_some]
    dsimp only
    rw [if_pos rfl]
  · have nl : ¬ r < 0 := by rw [k1]; exact nI_pos (by have := p16 n16.1 k2; omega)
    rw [if_neg k5] at eX
    rw [if_neg nl] at eM
    by_cases c0 : a1 < 0
    · refine ⟨gx1, gm1, ?_, len, tx, b, wb, S, D, P, N, z, G, K, q5⟩
      rw [eX, if_pos c0, Option.bind_some]
      dsimp only
      rw [eM, if_pos c0, Option.bind_some]
      dsimp only
      rw [if_pos rfl]
    · obtain ⟨gm2, p1, p2, p3⟩ := i_place q5 q6 (by rw [q3]; exact k1) k2
      have hlen := olx_len S 16 s
      obtain ⟨_, hL⟩ := q5.2.2.2.2.2.1 q8
      rcases hL with ⟨e1, _⟩ | ⟨s', e1, e2, e3, e4⟩
      · rw [q7] at e1; exact absurd e1 k5
      · have es : s' = s := by
          rw [q7, k1] at e1
          exact ((nI_eq (by have := p16 n16.1 k2; omega) (by have := p16 n16.1 e2; omega)).mp e1).symm
        subst es
        refine ⟨gx1, gm2, ?_, len, tx, b, wb, S, D, P, N, z, G, K, p3⟩
        rw [if_neg c0, e3] at eX
        rw [if_neg c0, p1, Option.bind_some] at eM
        dsimp only at eM
        rcases pk_ix a1 (show (olx S 16 s').length < 2 ^ 31 by omega) with d | d | ⟨j, d1, d2⟩
        · exact absurd d c0
        · have nd : ¬ a1 < nI (olx S 16 s').length := by
            rw [Int32.not_lt]; exact d
          rw [eX, if_pos d, Option.bind_some]
          dsimp only
          rw [eM, if_neg nd, Option.bind_some]
          dsimp only
          rw [if_pos rfl]
        · subst d2
          rw [eX, if_neg (nI_ge d1 (by omega)), if_pos (show nI j < 16 from nI_lt (a := j) (b := 16) (by omega) (by decide)), ck_true (inB_nI (by omega) (by decide)), nI_clamp (by omega), e4 j d1, Option.bind_some]
          dsimp only
          rw [eM, if_pos (nI_lt d1 (by omega)), ck_true (inB_nI (by omega) (by decide)), nI_clamp (by omega), p2 j d1, Option.bind_some]
          dsimp only
          rw [if_pos rfl]
theorem o_rings (h : INV gx gm) (a1 a2 a3 a4 a5 : Int32) : ∃ gx' gm', op_rings a1 a2 a3 a4 a5 gx gm = some (gx', gm') ∧ INV gx' gm' := by
  obtain ⟨len, tx, b, wb, S, D, P, N, z, G, K, h⟩ := h
  obtain ⟨gx1, gm1, r, q1, q2, q3, q4, q5, q6, q7, q8⟩ := i_least h
  have n16 := q5.2.1.1.r16
  have eM : F_X7_rings gm = if 0 ≤ r then (F_X7_bitsOf r).bind fun r_3 => (F_X7_place gm1).bind fun (r_4, g_5) => some (r_3 - r_4, g_5) else some (-1, gm1) := by
    unfold F_X7_rings F_X7_least
    rw [q2, Option.bind_some, Option.bind_some]
    dsimp only
    rw [q3]
  have eX : F_X6_rings gx = if r = -1 then some (-1, gx1) else (F_J6_bitCount_0f7a4 r).bind fun r_4 => some (r_4 - (gi gx1 0 11), gx1) := by
    unfold F_X6_rings
    rw [q1, Option.bind_some]
    dsimp only
    rw [lt_def]
  unfold op_rings
  rcases q4.cs n16.1 with ⟨k1, k2⟩ | ⟨s, k1, k2, k3, k4, k5⟩
  · refine ⟨gx1, gm1, ?_, len, tx, b, wb, S, D, P, N, z, G, K, q5⟩
    rw [eX, if_pos k1, Option.bind_some]
    dsimp only
    rw [eM, if_neg k2, Option.bind_some]
    dsimp only
    rw [if_pos rfl]
  · obtain ⟨gm2, p1, p2, p3⟩ := i_place q5 q6 (by rw [q3]; exact k1) k2
    obtain ⟨_, hL⟩ := q5.2.2.2.2.2.1 q8
    rcases hL with ⟨e1, _⟩ | ⟨s', e1, e2, e3, e4⟩
    · rw [q7] at e1; exact absurd e1 k5
    · have es : s' = s := by
        rw [q7, k1] at e1
        exact ((nI_eq (by have := p16 n16.1 k2; omega) (by have := p16 n16.1 e2; omega)).mp e1).symm
      subst es
      have h16 := p16 n16.1 k2
      refine ⟨gx1, gm2, ?_, len, tx, b, wb, S, D, P, N, z, G, K, p3⟩
      rw [eX, if_neg k5, k1, j_bitCount h16, Option.bind_some, Option.bind_some, e3]
      dsimp only
      rw [eM, if_pos k4, k1, m_bitsOf (by omega), Option.bind_some, p1, Option.bind_some, Option.bind_some]
      dsimp only
      rw [if_pos rfl]
end OPS2

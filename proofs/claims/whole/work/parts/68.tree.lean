/-! expressions, whole -/
def plN (pl : Nat → Nat) (np j : Nat) : Nat := if j < np then pl j else 3
theorem plN_l {pl : Nat → Nat} {np j : Nat} (h : j < np) : plN pl np j = pl j := if_pos h
theorem plN_r {pl : Nat → Nat} {np j : Nat} (h : np ≤ j) : plN pl np j = 3 := if_neg (by omega)
section TREE
variable {gx gm : GM} {len : Nat} {tx : Nat → Nat} {t : Tk} {s e b T wb w a P0 N0 P N z np d : Nat} {S : St} {pl : Nat → Nat} {st : List Fn}
theorem f_e17 (hF : Fa gx gm) (x y : Int32) (m : Nat) : fixN (F_X7_e_17B x) (m + 1) (y, gm) = some gm := by
  have st : ∀ kb, F_X7_e_17B x kb (y, gm) = some gm := by
    intro kb
    unfold F_X7_e_17B
    dsimp only
    rw [hF.bad, Option.bind_some, if_pos rfl]
  exact st _
theorem e_one {g' : GM} {r x : Int32} (h4 : gi gm 0 4 = 0) (h43 : gi gm 0 43 = nI np) (h1 : 1 ≤ np) (h2 : np ≤ 60) (h : F_X7_one x gm = some (r, g')) (m : Nat) : fixN (F_X7_e_17B x) (m + 1) (1, gm) = fixN (F_X7_e_17B x) m (r, g') := by
  have st : ∀ kb, F_X7_e_17B x kb (1, gm) = kb (r, g') := by
    intro kb
    unfold F_X7_e_17B F_X7_e_47
    dsimp only
    rw [m_good h4, Option.bind_some, if_neg (by decide), h43, if_neg (fun q => by have := (nI_leI (b := 0) (by omega) (by decide)).mp q; omega), if_neg (by decide), h, Option.bind_some]
  exact st _
theorem e_behind {g' : GM} {r x : Int32} (h4 : gi gm 0 4 = 0) (h43 : gi gm 0 43 = nI np) (h1 : 1 ≤ np) (h2 : np ≤ 60) (h : F_X7_behind gm = some (r, g')) (m : Nat) : fixN (F_X7_e_17B x) (m + 1) (0, gm) = fixN (F_X7_e_17B x) m (r, g') := by
  have st : ∀ kb, F_X7_e_17B x kb (0, gm) = kb (r, g') := by
    intro kb
    unfold F_X7_e_17B F_X7_e_47
    dsimp only
    rw [m_good h4, Option.bind_some, if_neg (by decide), h43, if_neg (fun q => by have := (nI_leI (b := 0) (by omega) (by decide)).mp q; omega), if_pos rfl, h, Option.bind_some]
  exact st _
theorem fa_either (hF : Fa gx gm) (rc : Int32 → GM → Option (Int32 × GM)) (x1 x2 x3 x4 : Int32) (n : Nat) : ∃ r gx', (if (gi gx 1 5) = 13 then F_X5_readEitherR_50 rc (fixN (F_X5_readEitherR_7B rc x1) (n + 1)) x1 x2 x3 x4 1 gx else F_X5_readEitherR_50 rc (fixN (F_X5_readEitherR_7B rc x1) (n + 1)) x1 x2 x3 x4 0 gx) = some (r, gx') ∧ Fa gx' gm ∧ Ow PT QT gx gx' := by
  obtain ⟨gx1, a1, a2, a3⟩ := hF.adv
  have st : ∀ y2 y3 y4, F_X5_readEitherR_82 rc (fixN (F_X5_readEitherR_7B rc x1) (n + 1)) x1 y2 y3 y4 gx = some (y2, gx1) := by
    intro y2 y3 y4
    unfold F_X5_readEitherR_82
    rw [a1, Option.bind_some, lt_def]
    show F_X5_readEitherR_7B rc x1 (fixN (F_X5_readEitherR_7B rc x1) n) _ = _
    unfold F_X5_readEitherR_7B
    dsimp only
    rw [if_neg a2.nx]
    split <;> rfl
  unfold F_X5_readEitherR_50 F_X5_readEitherR_63
  by_cases c1 : gi gx 1 5 = 13
  · rw [if_pos c1, if_neg (by decide), if_neg (by decide), st]
    exact ⟨_, gx1, rfl, a2, a3⟩
  · rw [if_neg c1, if_pos rfl, lt_def, if_pos rfl, st]
    by_cases c2 : gi gx 1 5 = 14
    · rw [if_pos c2]; exact ⟨_, gx1, rfl, a2, a3⟩
    · rw [if_neg c2]; exact ⟨_, gx, rfl, hF, Ow.rf gx⟩
/-- an entry comes onto the pile -/
theorem m_pile (hE : EX gx gm S b T wb w a P0 N0 P N z np d pl st) (hnp : np < 60) {o : Nat} {x : Int32} (hx : x = nI o) : ∃ gm', F_X7_pile x gm = some gm' ∧ EX gx gm' S b T wb w a P0 N0 P N z (np + 1) d (upn pl np o) st ∧ TgM gm gm' ∧ Ow (PEm wb P0 N0 a) QTm gm gm' := by
  subst hx
  have h43 : gi gm 0 43 = nI np := hE.2.2.2.1
  have e : gi (si gm 26 np (nI o)) 0 43 + 1 = nI (np + 1) := by rw [gi_si, if_neg (by omega), h43, nI_1]
  refine ⟨si (si gm 26 np (nI o)) 0 43 (nI (np + 1)), ?_, ?_, ?_, ?_⟩
  · unfold F_X7_pile
    rw [h43, ck_true (inB_nI hnp (by decide)), nI_clamp (by omega), lt_def, e, lt_def]
  · refine hE.pil (fun a i p q => by rw [gi_si, if_neg (by omega), gi_si, if_neg (by omega)]) (fun _ _ => rfl) gi_same (by rw [gi_si, if_neg (by decide), gi_si, if_neg (by omega)]; exact hE.2.2.2.2.1) (fun j hj => ?_)
    rw [gi_si, if_neg (by omega)]
    by_cases ej : j = np
    · subst ej; rw [gi_same, upn_s]
    · rw [gi_si, if_neg (by omega), upn_n ej]; exact hE.2.2.2.2.2 j (by omega)
  · exact ((TgM.rf gm).si (Or.inl (by decide)) (by decide)).si (Or.inr (Or.inr (by decide))) (by decide)
  · exact ((Ow.rf gm).si (Or.inr (Or.inl rfl))).si (Or.inl ⟨rfl, Or.inr (by omega)⟩)
def ONE (len : Nat) (tx : Nat → Nat) (S : St) (b T wb w a P0 N0 n : Nat) : Prop := ∀ d gx gm t s e P N z np pl st, 7 ≤ d + n → d < 6 → Sy gx gm len tx true t s e → EX gx gm S b T wb w a P0 N0 P N z np d pl st → z + np ≤ s + 1 → 1 ≤ np → np ≤ 3 * d + 3 → st.length ≤ 2 * d + 2 →
  ∃ gx' gm' r c, F_X5_readOne n (nI d) gx = some (r, gx') ∧ Ow PMx QT gx gx' ∧ Ow (PEm wb P0 N0 a) QTm gm gm' ∧
  ((Fa gx' gm' ∧ s + c ≤ len + 1 ∧ ∀ m, fixN (F_X7_e_17B (nI (10 * wb + w))) (m + c + 2) (1, gm) = some gm') ∨
   ∃ t' s' e' P' N' z' k f mr, (∀ m, fixN (F_X7_e_17B (nI (10 * wb + w))) (m + c) (1, gm) = fixN (F_X7_e_17B (nI (10 * wb + w))) m (0, gm')) ∧ Sy gx' gm' len tx true t' s' e' ∧ s + c ≤ s' ∧ s < s' ∧ EX gx' gm' S b T wb w a P0 N0 P' N' z' (np + k) (d + k) (plN pl np) (f :: st) ∧ z' + (np + k) ≤ s' + 1 ∧ d + k ≤ 5 ∧ r = nI mr ∧ BR S T mr (fun q => nk k (f q)))
theorem opt_len (o : Option Fn) : (opt o).length = cnt o := by
  cases o with
  | none => rfl
  | some f => rfl
def gAll (o : Option Fn) (r : Nat) : Bool := match o with
  | none => true
  | some f => f r
def gAny (o : Option Fn) (r : Nat) : Bool := match o with
  | none => false
  | some f => f r
theorem cmA_g (o : Option Fn) (v : Fn) (r : Nat) : cmA o v r = (gAll o r && v r) := by
  cases o with
  | none => exact (Bool.true_and _).symm
  | some f => rfl
theorem cmO_g (o : Option Fn) (v : Fn) (r : Nat) : cmO o v r = (gAny o r || v r) := by
  cases o with
  | none => exact (Bool.false_or _).symm
  | some f => rfl
theorem all_m1 : ∀ r, r < 16 → (4294967295 : Nat).testBit r = true := by decide +kernel
theorem s_either (hwb : wb < 2) (hlen : len ≤ 600) {n : Nat} (H : ONE len tx S b T wb w a P0 N0 n) : ∀ q part d gx gm t s e P N z nb pl st lo la mo ma, 7 ≤ d + n → d < 6 → len + 1 ≤ s + q → part ≤ s → Sy gx gm len tx true t s e → EX gx gm S b T wb w a P0 N0 P N z (nb + 1 + cnt lo + cnt la) d pl (opt la ++ (opt lo ++ st)) → (cnt lo = 1 → pl (nb + 1) = 1) → (cnt la = 1 → pl (nb + 1 + cnt lo) = 2) → 4 ≤ pl nb → pl nb ≤ 5 → nb ≤ 3 * d → st.length ≤ 2 * d → z + (nb + 1 + cnt lo + cnt la) ≤ s + 1 → BR S T mo (gAny lo) → BR S T ma (gAll la) → ∀ nn, q + 1 < nn →
    ∃ gx' gm' r c, fixN (F_X5_readEitherR_7B (F_X5_readOne n) (nI d)) nn (nI mo, nI ma, nI part, gx) = some (r, gx') ∧ Ow PMx QT gx gx' ∧ Ow (PEm wb P0 N0 a) QTm gm gm' ∧
    ((Fa gx' gm' ∧ s + c ≤ len + 1 ∧ ∀ m, fixN (F_X7_e_17B (nI (10 * wb + w))) (m + c + 2) (1, gm) = some gm') ∨
     ∃ t' s' e' P' N' z' f mr, (∀ r' g', F_X7_behind_139 0 gm' = some (r', g') → ∀ m, fixN (F_X7_e_17B (nI (10 * wb + w))) (m + c + 1) (1, gm) = fixN (F_X7_e_17B (nI (10 * wb + w))) m (r', g')) ∧ Sy gx' gm' len tx true t' s' e' ∧ s + c ≤ s' ∧ s < s' ∧ EX gx' gm' S b T wb w a P0 N0 P' N' z' (nb + 1) d pl (f :: st) ∧ z' + (nb + 1) ≤ s' + 1 ∧ r = nI mr ∧ BR S T mr f) := by
  intro q
  induction q with
  | zero =>
    intro part d gx gm t s e P N z nb pl st lo la mo ma _ _ hq _ hS
    have := hS.ln
    omega
  | succ q ih =>
    intro part d gx gm t s e P N z nb pl st lo la mo ma h7 hd hq hpart hS hE hO hA hb4 hb5 hnb hst hz hmo hma nn hnn
    obtain ⟨nn, rfl⟩ : ∃ k, nn = k + 2 := ⟨nn - 2, by omega⟩
    have hln := hS.ln
    have c1 := cnt_le lo
    have c2 := cnt_le la
    have n16 := hE.1.1.r16
    have hlen3 : (opt la ++ (opt lo ++ st)).length ≤ 2 * d + 2 := by rw [List.length_append, List.length_append, opt_len, opt_len]; omega
    obtain ⟨gx1, gm1, r, c, p1, p2, p3, p4⟩ := H d gx gm t s e P N z (nb + 1 + cnt lo + cnt la) pl _ h7 hd hS hE hz (by omega) (by omega) hlen3
    have eX : ∀ kb, F_X5_readEitherR_7B (F_X5_readOne n) (nI d) kb (nI mo, nI ma, nI part, gx) = if (gi gx1 1 5) = 13 then F_X5_readEitherR_50 (F_X5_readOne n) kb (nI d) (nI mo) (nI ma &&& r) (nI part) 1 gx1 else F_X5_readEitherR_50 (F_X5_readOne n) kb (nI d) (nI mo) (nI ma &&& r) (nI part) 0 gx1 := by
      intro kb
      unfold F_X5_readEitherR_7B
      dsimp only
      rw [if_neg (fun q => by have := (nI_ltI (a := 600) (b := part) (by decide) (by omega)).mp q; omega), if_pos hS.f0x, p1, Option.bind_some]
      dsimp only
      rw [lt_def]
    have eX2 : fixN (F_X5_readEitherR_7B (F_X5_readOne n) (nI d)) (nn + 2) (nI mo, nI ma, nI part, gx) = if (gi gx1 1 5) = 13 then F_X5_readEitherR_50 (F_X5_readOne n) (fixN (F_X5_readEitherR_7B (F_X5_readOne n) (nI d)) (nn + 1)) (nI d) (nI mo) (nI ma &&& r) (nI part) 1 gx1 else F_X5_readEitherR_50 (F_X5_readOne n) (fixN (F_X5_readEitherR_7B (F_X5_readOne n) (nI d)) (nn + 1)) (nI d) (nI mo) (nI ma &&& r) (nI part) 0 gx1 := eX _
    rw [eX2]
    rcases p4 with ⟨hF, f1, f2⟩ | ⟨t1, s1, e1, P1, N1, z1, k, f, mr, f1, f2, f3, f4, f5, f6, f7, f8, f9⟩
    · obtain ⟨r', gx2, u1, u2, u3⟩ := fa_either hF (F_X5_readOne n) (nI d) (nI mo) (nI ma &&& r) (nI part) nn
      exact ⟨gx2, gm1, r', c, u1, p2.tr u3.pex, p3, Or.inl ⟨u2, f1, f2⟩⟩
    · subst f8
      have hln1 := f2.ln
      have i9 := m_isWord f2 (j := 9) (by decide)
      have i10 := m_isWord f2 (j := 10) (by decide)
      rw [wM_tab.2.2.2.2.2.2.2.2.2.1] at i9
      rw [wM_tab.2.2.2.2.2.2.2.2.2.2] at i10
      have k9 : gi gx1 1 5 = 13 ↔ t1 = Tk.wrd 9 := by rw [f2.kx]; exact k_wrd f2.dx (j := 9) (by decide)
      have k10 : gi gx1 1 5 = 14 ↔ t1 = Tk.wrd 10 := by rw [f2.kx]; exact k_wrd f2.dx (j := 10) (by decide)
      have b43 : gi gm1 0 43 = nI (nb + 1 + cnt lo + cnt la + k) := f5.2.2.2.1
      have hpN : ∀ j, nb + 1 + cnt lo + cnt la ≤ j → j < nb + 1 + cnt lo + cnt la + k → plN pl (nb + 1 + cnt lo + cnt la) j = 3 := fun j h1 _ => plN_r h1
      have hA' : cnt la = 1 → plN pl (nb + 1 + cnt lo + cnt la) (nb + 1 + cnt lo) = 2 := fun h => by rw [plN_l (by omega)]; exact hA h
      have hO' : cnt lo = 1 → plN pl (nb + 1 + cnt lo + cnt la) (nb + 1) = 1 := fun h => by rw [plN_l (by omega)]; exact hO h
      have hb4' : 4 ≤ plN pl (nb + 1 + cnt lo + cnt la) nb := by rw [plN_l (by omega)]; exact hb4
      have hb5' : plN pl (nb + 1 + cnt lo + cnt la) nb ≤ 5 := by rw [plN_l (by omega)]; exact hb5
      by_cases h9 : t1 = Tk.wrd 9
      · -- and
        obtain ⟨gm2, v1, v2, v3, v4⟩ := m_back2 hwb f5 hpN hA' hO' hb4' hb5' (by omega) (by omega)
        obtain ⟨gm3, v5, v6, v7, v8⟩ := m_pile v2 (by omega) (o := 2) (x := 2) rfl
        obtain ⟨gx4, gm4, t4, s4, e4, v9, v10, v11, v12, v13, v14⟩ := s_adv ((f2.tg (TgX.rf gx1) v3).tg (TgX.rf gx1) v7)
        have hse : s1 < e1 := f2.2.2.2.2.2.1.2.2.1 (by rw [h9]; simp)
        have eB : F_X7_behind gm1 = some (1, gm4) := by
          unfold F_X7_behind F_X7_behind_29
          rw [i9.1 h9, Option.bind_some, if_neg (by decide), v1]
          unfold F_X7_behind_139
          rw [if_neg (by decide), v5, Option.bind_some, v10, Option.bind_some]
        have hE4 : EX gx4 gm4 S b T wb w a P0 N0 P1 N1 (z1 + k + cnt la) (nb + 1 + cnt lo + 1) d (upn pl (nb + 1 + cnt lo) 2) (cmA la (fun r => nk k (f r)) :: (opt lo ++ st)) := (v6.ow v13 v14).cong (fun j hj => by
          by_cases ej : j = nb + 1 + cnt lo
          · subst ej; rw [upn_s, upn_s]
          · rw [upn_n ej, upn_n ej, plN_l (by omega)])
        obtain ⟨gx5, gm5, r5, c5, w1, w2, w3, w4⟩ := ih (part + 1) d gx4 gm4 t4 s4 e4 P1 N1 (z1 + k + cnt la) nb (upn pl (nb + 1 + cnt lo) 2) st lo (some (cmA la (fun r => nk k (f r)))) mo (ma &&& mr) h7 hd (by omega) (by omega) v11 hE4 (fun h => by rw [upn_n (by omega)]; exact hO h) (fun _ => upn_s) (by rw [upn_n (by omega)]; exact hb4) (by rw [upn_n (by omega)]; exact hb5) hnb hst (show z1 + k + cnt la + (nb + 1 + cnt lo + 1) ≤ s4 + 1 by omega) hmo (fun r hr hB => by rw [Nat.testBit_and, hma r hr hB, f9 r hr hB]; exact (cmA_g la (fun q => nk k (f q)) r).symm) (nn + 1) (by omega)
        have pre : ∀ m, fixN (F_X7_e_17B (nI (10 * wb + w))) (m + 1 + c) (1, gm) = fixN (F_X7_e_17B (nI (10 * wb + w))) m (1, gm4) := fun m => by
          rw [f1, e_behind f2.f0m b43 (by omega) (by omega) eB]
        refine ⟨gx5, gm5, r5, c5 + c + 1, ?_, ((p2.tr v13.pex).tr w2), ((((p3.tr v4).tr v8).tr v14.pem).tr w3), ?_⟩
        · rw [if_pos (k9.mpr h9)]
          unfold F_X5_readEitherR_50 F_X5_readEitherR_63 F_X5_readEitherR_82
          rw [if_neg (by decide), if_neg (by decide), v9, Option.bind_some, lt_def, nI_1, nI_and]
          exact w1
        · rcases w4 with ⟨x1, x2, x3⟩ | ⟨t', s', e', P', N', z', f', mr', x1, x2, x3, x4, x5, x6, x7, x8⟩
          · refine Or.inl ⟨x1, by omega, fun m => ?_⟩
            rw [show m + (c5 + c + 1) + 2 = (m + c5 + 2) + 1 + c by omega, pre]
            exact x3 m
          · refine Or.inr ⟨t', s', e', P', N', z', f', mr', fun r' g' hb m => ?_, x2, by omega, by omega, x5.cong (fun j hj => upn_n (by omega)), x6, x7, x8⟩
            rw [show m + (c5 + c + 1) + 1 = (m + c5 + 1) + 1 + c by omega, pre]
            exact x1 r' g' hb m
      · rw [if_neg (fun q => h9 (k9.mp q))]
        unfold F_X5_readEitherR_50 F_X5_readEitherR_63
        rw [if_pos rfl, lt_def, if_pos rfl, nI_and, nI_or]
        have hmo' : BR S T (mo ||| (ma &&& mr)) (cmO lo (cmA la (fun r => nk k (f r)))) := fun r hr hB => by rw [Nat.testBit_or, Nat.testBit_and, hmo r hr hB, hma r hr hB, f9 r hr hB, cmO_g, cmA_g]
        by_cases h10 : t1 = Tk.wrd 10
        · -- or
          obtain ⟨gm2, v1, v2, v3, v4⟩ := m_back1 hwb (x1 := 1) (by decide) f5 hpN hA' hO' hb4' hb5' (by omega) (by omega)
          obtain ⟨gm3, v5, v6, v7, v8⟩ := m_pile v2 (by omega) (o := 1) (x := 1) rfl
          obtain ⟨gx4, gm4, t4, s4, e4, v9, v10, v11, v12, v13, v14⟩ := s_adv ((f2.tg (TgX.rf gx1) v3).tg (TgX.rf gx1) v7)
          have hse : s1 < e1 := f2.2.2.2.2.2.1.2.2.1 (by rw [h10]; simp)
          have v1' : fixN (F_X7_behind_30B 1) FU gm1 = F_X7_behind_139 1 gm2 := v1
          have eB : F_X7_behind gm1 = some (1, gm4) := by
            unfold F_X7_behind F_X7_behind_29
            rw [i9.2 h9, Option.bind_some, if_pos rfl, i10.1 h10, Option.bind_some, if_neg (by decide), v1']
            unfold F_X7_behind_139
            rw [if_neg (by decide), v5, Option.bind_some, v10, Option.bind_some]
          have hE4 : EX gx4 gm4 S b T wb w a P0 N0 P1 N1 (z1 + k + cnt la + cnt lo) (nb + 1 + 1) d (upn pl (nb + 1) 1) (cmO lo (cmA la (fun r => nk k (f r))) :: st) := (v6.ow v13 v14).cong (fun j hj => by
            by_cases ej : j = nb + 1
            · subst ej; rw [upn_s, upn_s]
            · rw [upn_n ej, upn_n ej, plN_l (by omega)])
          obtain ⟨gx5, gm5, r5, c5, w1, w2, w3, w4⟩ := ih (part + 1) d gx4 gm4 t4 s4 e4 P1 N1 (z1 + k + cnt la + cnt lo) nb (upn pl (nb + 1) 1) st (some (cmO lo (cmA la (fun r => nk k (f r))))) none (mo ||| (ma &&& mr)) 4294967295 h7 hd (by omega) (by omega) v11 hE4 (fun _ => upn_s) (fun h => absurd h (by decide)) (by rw [upn_n (by omega)]; exact hb4) (by rw [upn_n (by omega)]; exact hb5) hnb hst (show z1 + k + cnt la + cnt lo + (nb + 1 + 1 + 0) ≤ s4 + 1 by omega) hmo' (fun r hr _ => all_m1 r (by omega)) (nn + 1) (by omega)
          have pre : ∀ m, fixN (F_X7_e_17B (nI (10 * wb + w))) (m + 1 + c) (1, gm) = fixN (F_X7_e_17B (nI (10 * wb + w))) m (1, gm4) := fun m => by
            rw [f1, e_behind f2.f0m b43 (by omega) (by omega) eB]
          refine ⟨gx5, gm5, r5, c5 + c + 1, ?_, ((p2.tr v13.pex).tr w2), ((((p3.tr v4).tr v8).tr v14.pem).tr w3), ?_⟩
          · unfold F_X5_readEitherR_82
            rw [if_pos (k10.mpr h10), v9, Option.bind_some, lt_def, nI_1, nI_m1]
            exact w1
          · rcases w4 with ⟨x1, x2, x3⟩ | ⟨t', s', e', P', N', z', f', mr', x1, x2, x3, x4, x5, x6, x7, x8⟩
            · refine Or.inl ⟨x1, by omega, fun m => ?_⟩
              rw [show m + (c5 + c + 1) + 2 = (m + c5 + 2) + 1 + c by omega, pre]
              exact x3 m
            · refine Or.inr ⟨t', s', e', P', N', z', f', mr', fun r' g' hb m => ?_, x2, by omega, by omega, x5.cong (fun j hj => upn_n (by omega)), x6, x7, x8⟩
              rw [show m + (c5 + c + 1) + 1 = (m + c5 + 1) + 1 + c by omega, pre]
              exact x1 r' g' hb m
        · -- the end
          obtain ⟨gm2, v1, v2, v3, v4⟩ := m_back1 hwb (x1 := 0) (by decide) f5 hpN hA' hO' hb4' hb5' (by omega) (by omega)
          have v1' : fixN (F_X7_behind_30B 0) FU gm1 = F_X7_behind_139 0 gm2 := v1
          rw [if_neg (fun q => h10 (k10.mp q))]
          refine ⟨gx1, gm2, _, c, rfl, p2, p3.tr v4, Or.inr ⟨t1, s1, e1, P1, N1, z1 + k + cnt la + cnt lo, _, mo ||| (ma &&& mr), fun r' g' hb m => ?_, f2.tg (TgX.rf gx1) v3, f3, f4, v2.cong (fun j hj => plN_l (by omega)), by omega, rfl, hmo'⟩⟩
          have eB : F_X7_behind gm1 = some (r', g') := by
            unfold F_X7_behind F_X7_behind_29
            rw [i9.2 h9, Option.bind_some, if_pos rfl, i10.2 h10, Option.bind_some, if_pos rfl, v1', hb]
          rw [show m + c + 1 = m + 1 + c by omega, f1, e_behind f2.f0m b43 (by omega) (by omega) eB]
end TREE

/-! loops, once more -/
theorem fix_toK {κ σ ρ : Type} {B : κ → (σ → Option ρ) → σ → Option ρ} (I : Nat → σ → Prop) (E : κ → σ → Option ρ) (N : Nat) (hs : ∀ i s, i < N → I i s → ∃ s', I (i + 1) s' ∧ ∀ k kb, B k kb s = kb s') (he : ∀ s, I N s → ∀ k kb, B k kb s = E k s) :
    ∀ d i n s, i + d = N → d < n → I i s → ∃ s', I N s' ∧ ∀ k, fixN (B k) n s = E k s' := by
  intro d
  induction d with
  | zero =>
    intro i n s hi hn hI
    obtain ⟨n, rfl⟩ : ∃ k, n = k + 1 := ⟨n - 1, by omega⟩
    have e : i = N := by omega
    subst e
    exact ⟨s, hI, fun k => he s hI k _⟩
  | succ d ih =>
    intro i n s hi hn hI
    obtain ⟨n, rfl⟩ : ∃ k, n = k + 1 := ⟨n - 1, by omega⟩
    obtain ⟨s', h1, h2⟩ := hs i s (by omega) hI
    obtain ⟨s2, h3, h4⟩ := ih (i + 1) n s' (by omega) (by omega) h1
    exact ⟨s2, h3, fun k => (h2 k _).trans (h4 k)⟩
theorem fix_invO {σ ρ : Type} {B : (σ → Option ρ) → σ → Option ρ} (I : Nat → σ → Prop) (R : Option ρ → Prop) (N : Nat) (hs : ∀ i s, i < N → I i s → (∃ s', I (i + 1) s' ∧ ∀ kb, B kb s = kb s') ∨ (∃ r, R r ∧ ∀ kb, B kb s = r)) (he : ∀ s, I N s → ∃ r, R r ∧ ∀ kb, B kb s = r) :
    ∀ d i n s, i + d = N → d < n → I i s → R (fixN B n s) := by
  intro d
  induction d with
  | zero =>
    intro i n s hi hn hI
    obtain ⟨n, rfl⟩ : ∃ k, n = k + 1 := ⟨n - 1, by omega⟩
    have e : i = N := by omega
    subst e
    obtain ⟨r, h1, h2⟩ := he s hI
    have : fixN B (n + 1) s = r := h2 _
    rw [this]; exact h1
  | succ d ih =>
    intro i n s hi hn hI
    obtain ⟨n, rfl⟩ : ∃ k, n = k + 1 := ⟨n - 1, by omega⟩
    rcases hs i s (by omega) hI with ⟨s', h1, h2⟩ | ⟨r, h1, h2⟩
    · have : fixN B (n + 1) s = fixN B n s' := h2 _
      rw [this]
      exact ih (i + 1) n s' (by omega) (by omega) h1
    · have : fixN B (n + 1) s = r := h2 _
      rw [this]; exact h1
/-! tables and rows -/
section PARTS
variable {len : Nat} {tx : Nat → Nat} {b : Nat}
theorem s_parts : ∀ d i gx gm S t s e, i + d = 22 → sT S + sR S = i → Sy gx gm len tx false t s e → RA b gx gm S → gi gm 0 24 = nI b → ∀ n m, d < n → d < m → ∃ gx' gm', fixN (F_X3_readAll_20B 22) n (nI i, gx) = F_X3_readAll_131 gx' ∧ fixN F_X7_store_39B m gm = F_X7_store_94 gm' ∧ Ow PSx QSx gx gx' ∧ Ow (PSm b) (QSm b) gm gm' ∧ ((∃ s' e' S', Sy gx' gm' len tx false Tk.fin s' e' ∧ RA b gx' gm' S') ∨ Fa gx' gm') := by
  intro d
  induction d with
  | zero =>
    intro i gx gm S t s e hi hc hS hA hrb n m hn hm
    have h1 := hA.1.2.1
    have h2 := hA.2.1.1
    omega
  | succ d ih =>
    intro i gx gm S t s e hi hc hS hA hrb n m hn hm
    obtain ⟨n, rfl⟩ : ∃ k, n = k + 2 := ⟨n - 2, by omega⟩
    obtain ⟨m, rfl⟩ : ∃ k, m = k + 2 := ⟨m - 2, by omega⟩
    have hT5 := hA.1.2.1
    have hR16 := hA.2.1.1
    have hb := hA.1.1
    have nb : ¬ (22 : Int32) ≤ nI i := nI_ge (a := i) (b := 22) (by omega) (by decide)
    -- a fault ends both
    have fin0 : ∀ {gx' gm' : GM}, Fa gx' gm' → (∀ j, fixN (F_X3_readAll_20B 22) (n + 1) (nI j, gx') = F_X3_readAll_131 gx') ∧ fixN F_X7_store_39B (m + 1) gm' = F_X7_store_94 gm' := by
      intro gx' gm' hF
      refine ⟨fun j => ?_, ?_⟩
      · have st : ∀ kb, F_X3_readAll_20B 22 kb (nI j, gx') = F_X3_readAll_131 gx' := by
          intro kb
          unfold F_X3_readAll_20B
          dsimp only
          rw [if_neg hF.nx]
          split <;> rfl
        exact st _
      · have st : ∀ kb, F_X7_store_39B kb gm' = F_X7_store_94 gm' := by
          intro kb
          unfold F_X7_store_39B
          rw [hF.bad, Option.bind_some, if_pos rfl]
        exact st _
    by_cases cf : t = Tk.fin
    · subst cf
      refine ⟨gx, gm, ?_, ?_, Ow.rf gx, Ow.rf gm, Or.inl ⟨s, e, S, hS, hA⟩⟩
      · have st : ∀ kb, F_X3_readAll_20B 22 kb (nI i, gx) = F_X3_readAll_131 gx := by
          intro kb
          unfold F_X3_readAll_20B
          dsimp only
          rw [if_neg nb, if_pos hS.f0x, hS.kx, if_pos (show kX Tk.fin = 0 from rfl)]
        exact st _
      · have st : ∀ kb, F_X7_store_39B kb gm = F_X7_store_94 gm := by
          intro kb
          unfold F_X7_store_39B
          rw [m_good hS.f0m, Option.bind_some, if_neg (by decide), hS.km, if_pos (show kM Tk.fin = 0 from rfl)]
        exact st _
    · have nk : ¬ gi gx 1 5 = 0 := by rw [hS.kx]; exact fun q => cf ((k_fin hS.dx).mp q)
      have nm : ¬ gi gm 0 8 = 0 := by
        rw [hS.km]
        rcases t with _ | _ | ⟨w, v⟩ | i | k | c
        · exact absurd rfl cf
        · decide
        · show ¬ (2 : Int32) = 0; decide
        · show ¬ (3 : Int32) = 0; decide
        · show ¬ (4 : Int32) = 0; decide
        · show ¬ (5 : Int32) = 0; decide
      have k4 : gi gx 1 5 = 4 ↔ t = Tk.wrd 0 := by rw [hS.kx]; exact k_wrd hS.dx (j := 0) (by decide)
      have k5 : gi gx 1 5 = 5 ↔ t = Tk.wrd 1 := by rw [hS.kx]; exact k_wrd hS.dx (j := 1) (by decide)
      -- both refuse the token
      have both : (∃ gx1 gm1, (∀ kb, F_X3_readAll_20B 22 kb (nI i, gx) = kb (nI (i + 1), gx1)) ∧ (∀ kb, F_X7_store_39B kb gm = kb gm1) ∧ Fa gx1 gm1 ∧ Ow PSx QSx gx gx1 ∧ Ow (PSm b) (QSm b) gm gm1) → ∃ gx' gm', fixN (F_X3_readAll_20B 22) (n + 2) (nI i, gx) = F_X3_readAll_131 gx' ∧ fixN F_X7_store_39B (m + 2) gm = F_X7_store_94 gm' ∧ Ow PSx QSx gx gx' ∧ Ow (PSm b) (QSm b) gm gm' ∧ ((∃ s' e' S', Sy gx' gm' len tx false Tk.fin s' e' ∧ RA b gx' gm' S') ∨ Fa gx' gm') := by
        rintro ⟨gx1, gm1, h1, h2, h3, h4, h5⟩
        exact ⟨gx1, gm1, (h1 _).trans ((fin0 h3).1 (i + 1)), (h2 _).trans (fin0 h3).2, h4, h5, Or.inr h3⟩
      -- both go on
      have next : ∀ {gx1 gm1 : GM}, (∀ kb, F_X3_readAll_20B 22 kb (nI i, gx) = kb (nI (i + 1), gx1)) → (∀ kb, F_X7_store_39B kb gm = kb gm1) → Ow PSx QSx gx gx1 → Ow (PSm b) (QSm b) gm gm1 → ((∃ t' s' e' S', Sy gx1 gm1 len tx false t' s' e' ∧ RA b gx1 gm1 S' ∧ sT S' + sR S' = i + 1) ∨ Fa gx1 gm1) → ∃ gx' gm', fixN (F_X3_readAll_20B 22) (n + 2) (nI i, gx) = F_X3_readAll_131 gx' ∧ fixN F_X7_store_39B (m + 2) gm = F_X7_store_94 gm' ∧ Ow PSx QSx gx gx' ∧ Ow (PSm b) (QSm b) gm gm' ∧ ((∃ s' e' S', Sy gx' gm' len tx false Tk.fin s' e' ∧ RA b gx' gm' S') ∨ Fa gx' gm') := by
        intro gx1 gm1 h1 h2 h3 h4 h5
        rcases h5 with ⟨t', s', e', S', q1, q2, q3⟩ | hF
        · obtain ⟨gx2, gm2, w1, w2, w3, w4, w5⟩ := ih (i + 1) gx1 gm1 S' t' s' e' (by omega) q3 q1 q2 (by rw [h4.m0 (by decide)]; exact hrb) (n + 1) (m + 1) (by omega) (by omega)
          exact ⟨gx2, gm2, (h1 _).trans w1, (h2 _).trans w2, h3.tr w3, h4.tr w4, w5⟩
        · exact both ⟨gx1, gm1, h1, h2, hF, h3, h4⟩
      by_cases c0 : t = Tk.wrd 0
      · have w0 : F_X7_isWord 499850046565 gm = some 1 := (m_isWord hS (j := 0) (by decide)).1 c0
        by_cases cT : sT S < 5
        · obtain ⟨gx1, gm1, h1, h2, h3, h4, h5⟩ := s_readTable hS hA hrb cT
          refine next (gx1 := gx1) (gm1 := gm1) (fun kb => ?_) (fun kb => ?_) h3 h4 ?_
          · unfold F_X3_readAll_20B F_X3_readAll_125
            dsimp only
            rw [if_neg nb, if_pos hS.f0x, if_neg nk, if_pos (k4.mpr c0), show gi gx 17 0 = nI (sT S) from hA.1.2.2.1, if_neg (show ¬ (5 : Int32) ≤ nI (sT S) from nI_ge (a := sT S) (b := 5) cT (by decide)), h1, Option.bind_some, lt_def, nI_1]
          · unfold F_X7_store_39B
            rw [m_good hS.f0m, Option.bind_some, if_neg (by decide), if_neg nm, w0, Option.bind_some, if_neg (by decide), h2, Option.bind_some]
          · rcases h5 with ⟨t', s', e', S', q1, q2, q3, q4⟩ | hF
            · exact Or.inl ⟨t', s', e', S', q1, q2, by omega⟩
            · exact Or.inr hF
        · have eT : sT S = 5 := by omega
          obtain ⟨gx1, gm1, h1, h2, h3, h4, h5⟩ := s_wrong hS
          refine both ⟨gx1, gm1, fun kb => ?_, fun kb => ?_, h3, h4.psx, h5.psm⟩
          · unfold F_X3_readAll_20B F_X3_readAll_81 F_X3_readAll_118 F_X3_readAll_125
            dsimp only
            rw [if_neg nb, if_pos hS.f0x, if_neg nk, if_pos (k4.mpr c0), show gi gx 17 0 = nI (sT S) from hA.1.2.2.1, eT, if_pos (show (5 : Int32) ≤ nI 5 by decide), if_neg (fun q => by rw [k4.mpr c0] at q; exact absurd q (by decide)), h1, Option.bind_some, lt_def, nI_1]
          · have hr : F_X7_readTable gm = some gm1 := by
              unfold F_X7_readTable
              rw [hrb, ck_true (inB_nI hb (by decide)), nI_clamp (by omega), hA.1.2.2.2.1, eT, if_pos (show nI 5 = 5 from rfl), h2, Option.bind_some, f_readTable h3]
            unfold F_X7_store_39B
            rw [m_good hS.f0m, Option.bind_some, if_neg (by decide), if_neg nm, w0, Option.bind_some, if_neg (by decide), hr, Option.bind_some]
      · have w0 : F_X7_isWord 499850046565 gm = some 0 := (m_isWord hS (j := 0) (by decide)).2 c0
        by_cases c1 : t = Tk.wrd 1
        · have w1 : F_X7_isWord 7499639 gm = some 1 := (m_isWord hS (j := 1) (by decide)).1 c1
          by_cases cR : sR S < 16
          · obtain ⟨gx1, gm1, h1, h2, h3, h4, h5⟩ := s_readRow hS hA hrb cR
            refine next (gx1 := gx1) (gm1 := gm1) (fun kb => ?_) (fun kb => ?_) h3 h4 ?_
            · unfold F_X3_readAll_20B F_X3_readAll_81 F_X3_readAll_125
              dsimp only
              rw [if_neg nb, if_pos hS.f0x, if_neg nk, if_neg (fun q => c0 (k4.mp q)), if_pos (k5.mpr c1), show gi gx 17 6 = nI (sR S) from hA.2.1.2.1, if_neg (show ¬ (16 : Int32) ≤ nI (sR S) from nI_ge (a := sR S) (b := 16) cR (by decide)), h1, Option.bind_some, lt_def, nI_1]
            · unfold F_X7_store_39B
              rw [m_good hS.f0m, Option.bind_some, if_neg (by decide), if_neg nm, w0, Option.bind_some, if_pos (by decide), w1, Option.bind_some, if_neg (by decide), h2, Option.bind_some]
            · rcases h5 with ⟨t', s', e', S', q1, q2, q3, q4⟩ | hF
              · exact Or.inl ⟨t', s', e', S', q1, q2, by omega⟩
              · exact Or.inr hF
          · have eR : sR S = 16 := by omega
            obtain ⟨gx1, gm1, h1, h2, h3, h4, h5⟩ := s_wrong hS
            refine both ⟨gx1, gm1, fun kb => ?_, fun kb => ?_, h3, h4.psx, h5.psm⟩
            · unfold F_X3_readAll_20B F_X3_readAll_81 F_X3_readAll_118 F_X3_readAll_125
              dsimp only
              rw [if_neg nb, if_pos hS.f0x, if_neg nk, if_neg (fun q => c0 (k4.mp q)), if_pos (k5.mpr c1), show gi gx 17 6 = nI (sR S) from hA.2.1.2.1, eR, if_pos (show (16 : Int32) ≤ nI 16 by decide), h1, Option.bind_some, lt_def, nI_1]
            · have hr : F_X7_readRow gm = some gm1 := by
                unfold F_X7_readRow
                rw [hrb, ck_true (inB_nI hb (by decide)), nI_clamp (by omega), hA.2.1.2.2.1, eR, if_pos (show nI 16 = 16 from rfl), h2, Option.bind_some, f_readRow h3]
              unfold F_X7_store_39B
              rw [m_good hS.f0m, Option.bind_some, if_neg (by decide), if_neg nm, w0, Option.bind_some, if_pos (by decide), w1, Option.bind_some, if_neg (by decide), hr, Option.bind_some]
        · have w1 : F_X7_isWord 7499639 gm = some 0 := (m_isWord hS (j := 1) (by decide)).2 c1
          obtain ⟨gx1, gm1, h1, h2, h3, h4, h5⟩ := s_wrong hS
          refine both ⟨gx1, gm1, fun kb => ?_, fun kb => ?_, h3, h4.psx, h5.psm⟩
          · unfold F_X3_readAll_20B F_X3_readAll_81 F_X3_readAll_118 F_X3_readAll_125
            dsimp only
            rw [if_neg nb, if_pos hS.f0x, if_neg nk, if_neg (fun q => c0 (k4.mp q)), if_neg (fun q => c1 (k5.mp q)), h1, Option.bind_some, lt_def, nI_1]
          · unfold F_X7_store_39B
            rw [m_good hS.f0m, Option.bind_some, if_neg (by decide), if_neg nm, w0, Option.bind_some, if_pos (by decide), w1, Option.bind_some, if_pos (by decide), h2, Option.bind_some]
end PARTS

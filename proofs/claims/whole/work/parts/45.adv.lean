/-! advance and next -/
theorem lt_eq {α β : Type} (a : α) (f : α → Option β) : lt a f = f a := by simp only [lt]
section ADV
variable {gx gm : GM} {len p : Nat} {tx : Nat → Nat} {w : Bool}
/-- what a step to the next token gives -/
def Adv (gx gm : GM) (len : Nat) (tx : Nat → Nat) (w : Bool) (p : Nat) (rx rm : Option GM) : Prop :=
  ∃ t s e gx' gm', rx = some gx' ∧ rm = some gm' ∧ TkX gx' t s e ∧ TkM gm' len tx t s e ∧ p ≤ s ∧ s ≤ e ∧ e ≤ len ∧ (¬ t = Tk.fin → s < e) ∧ (∀ c, t = Tk.sgn c → c ∈ SG w) ∧ FrX gx gx' ∧ FrM gm gm'
theorem SG_le {w : Bool} {c : Nat} (h : c ∈ SG w) : c ∈ SG true := by
  cases w with
  | true => exact h
  | false =>
    simp only [SG, Bool.false_eq_true, if_false, if_true, List.mem_cons, List.not_mem_nil, or_false] at h ⊢
    rcases h with h | h | h | h | h | h <;> simp [h]
theorem m58 {s : Nat} (hM1 : MTx (si gm 0 6 (nI s)) len tx) (m6 : gi (si gm 0 6 (nI s)) 0 6 = nI s) (hM2 : MTx (si (si gm 0 6 (nI s)) 0 7 (nI (s + 1))) len tx) (m6' : gi (si (si gm 0 6 (nI s)) 0 7 (nI (s + 1))) 0 6 = nI s) (c : s < len) : F_X7_next_58 (si gm 0 6 (nI s)) = (F_X7_isLetter (nI (tx s))).bind fun r_23 => if r_23 = 0 then (F_X7_isDigit (nI (tx s))).bind fun r_24 => if r_24 = 0 then (F_X7_isSign (nI (tx s)) (si (si gm 0 6 (nI s)) 0 7 (nI (s + 1)))).bind fun r_25 => if r_25 = 0 then F_X7_next_377 1 (si (si gm 0 6 (nI s)) 0 7 (nI (s + 1))) else F_X7_next_377 5 (si (si gm 0 6 (nI s)) 0 7 (nI (s + 1))) else fixN F_X7_next_259B FU (si (si (si (si gm 0 6 (nI s)) 0 7 (nI (s + 1))) 0 9 0) 0 7 (nI s)) else fixN F_X7_next_119B FU (si (si gm 0 6 (nI s)) 0 7 (nI (s + 1))) := by
  have hl := hM1.1
  have hsg : sgn len tx s = tx s := by unfold sgn; rw [if_pos c]
  unfold F_X7_next_58
  rw [m6, m_sign hM1 (by omega), Option.bind_some, hsg, lt_def, lt_def, nI_1, m6', hM2.2.1, if_pos (nI_lt c (by omega)), lt_def, lt_def, gi_si, if_neg (by decide), m6']
theorem a_word {s e : Nat} {ax am : GM} (hl : len ≤ 1200) (s1 : p ≤ s) (e1 : s ≤ e) (e2 : e ≤ len) (hse : s + 1 ≤ e) (e3 : ∀ j, s ≤ j → j < e → isL (tx j)) (ax4 : gi ax 1 4 = nI e) (ax6 : gi ax 1 6 = nI s) (ax8 : gl ax 1 8 = lN (w32 tx s (e - s))) (axR : RsX ax) (axF : FrX gx ax) (am7 : gi am 0 7 = nI e) (am6 : gi am 0 6 = nI s) (am10 : gl am 0 10 = lN (w256 tx s (min (e - s) 8))) (amF : FrM gm am) :
    Adv gx gm len tx w p ((F_X4_readWord_85 ax).bind fun g_5 => some g_5) (F_X7_next_199 am) := by
  have eX2 : F_X4_readWord_85 ax = if e - s ≤ 8 then fixN F_X4_readWord_110B FU (0, si ax 1 5 2) else fixN F_X4_readWord_110B FU (0, si ax 1 5 1) := by
    unfold F_X4_readWord_85 F_X4_readWord_105
    rw [ax4, ax6, nI_sub e1]
    simp only [show (8 : Int32) = nI 8 from rfl, nI_leI (show e - s < 2 ^ 31 by omega) (show 8 < 2 ^ 31 by decide), lt_eq]
  have eM2 : F_X7_next_199 am = if e - s ≤ 8 then (F_X7_isKept (gl am 0 10)).bind fun r_11 => if r_11 = 0 then some (si am 0 8 2) else some (si am 0 8 3) else some (si am 0 8 1) := by
    unfold F_X7_next_199 F_X7_next_233
    rw [am7, am6, nI_sub e1]
    simp only [show (8 : Int32) = nI 8 from rfl, nI_leI (show e - s < 2 ^ 31 by omega) (show 8 < 2 ^ 31 by decide), lt_def]
  rw [eX2, eM2]
  have axR2 : ∀ v, RsX (si ax 1 5 v) := fun v i hi => by rw [gl_si]; exact axR i hi
  by_cases c8 : e - s ≤ 8
  · rw [if_pos c8, if_pos c8]
    have hNR : NR (lN (w32 tx s (e - s))) (lN (w256 tx s (e - s))) := ⟨tx, s, e - s, c8, fun j hj => e3 (s + j) (by omega) (by omega), rfl, rfl⟩
    rw [Nat.min_eq_left c8] at am10
    obtain ⟨k1, k2⟩ := m_kept hNR
    by_cases cw : ∃ i, i < 11 ∧ lN (w32 tx s (e - s)) = wX i
    · obtain ⟨i, hi, hwi⟩ := cw
      have hk := x_kind1 (g := si ax 1 5 2) (axR2 2) (by rw [gi_si, if_pos ⟨rfl, rfl⟩]) hi (by rw [gl_si, ax8, hwi])
      rw [hk, am10, k1 ⟨i, hi, hwi⟩, Option.bind_some, Option.bind_some, if_neg (by decide), si_si]
      refine ⟨Tk.wrd i, s, e, _, _, rfl, rfl, ⟨?_, ?_, ?_, hi⟩, ⟨?_, ?_, ?_, ?_⟩, s1, e1, e2, fun _ => by omega, (fun c h => by cases h), axF.si (by decide), amF.si (by decide)⟩
      · rw [gi_si, if_neg (by decide)]; exact ax4
      · rw [gi_si, if_neg (by decide)]; exact ax6
      · rw [gi_si, if_pos ⟨rfl, rfl⟩]; rfl
      · rw [gi_si, if_neg (by decide)]; exact am7
      · rw [gi_si, if_neg (by decide)]; exact am6
      · rw [gi_si, if_pos ⟨rfl, rfl⟩]; rfl
      · show gl (si am 0 8 3) 0 10 = wM i
        rw [gl_si, am10]
        exact (hNR.iff (NRw hi)).mp hwi
    · have hno : ∀ i, i < 11 → ¬ lN (w32 tx s (e - s)) = wX i := fun i hi q => cw ⟨i, hi, q⟩
      have hk := x_kind0 (g := si ax 1 5 2) (axR2 2) (Or.inr (fun i hi => by rw [gl_si, ax8]; exact hno i hi))
      rw [hk, am10, k2 hno, Option.bind_some, Option.bind_some, if_pos rfl]
      refine ⟨Tk.nam (lN (w32 tx s (e - s))) (lN (w256 tx s (e - s))), s, e, _, _, rfl, rfl, ⟨?_, ?_, ?_, ?_, hNR⟩, ⟨?_, ?_, ?_, ?_⟩, s1, e1, e2, fun _ => by omega, (fun c h => by cases h), axF.si (by decide), amF.si (by decide)⟩
      · rw [gi_si, if_neg (by decide)]; exact ax4
      · rw [gi_si, if_neg (by decide)]; exact ax6
      · rw [gi_si, if_pos ⟨rfl, rfl⟩]; rfl
      · rw [gl_si, ax8]
      · rw [gi_si, if_neg (by decide)]; exact am7
      · rw [gi_si, if_neg (by decide)]; exact am6
      · rw [gi_si, if_pos ⟨rfl, rfl⟩]; rfl
      · show gl (si am 0 8 2) 0 10 = _
        rw [gl_si, am10]
  · rw [if_neg c8, if_neg c8]
    have hk := x_kind0 (g := si ax 1 5 1) (axR2 1) (Or.inl (by rw [gi_si, if_pos ⟨rfl, rfl⟩]; decide))
    rw [hk]
    refine ⟨Tk.bad, s, e, _, _, rfl, rfl, ⟨?_, ?_, ?_, trivial⟩, ⟨?_, ?_, ?_, trivial⟩, s1, e1, e2, fun _ => by omega, (fun c h => by cases h), axF.si (by decide), amF.si (by decide)⟩
    · rw [gi_si, if_neg (by decide)]; exact ax4
    · rw [gi_si, if_neg (by decide)]; exact ax6
    · rw [gi_si, if_pos ⟨rfl, rfl⟩]; rfl
    · rw [gi_si, if_neg (by decide)]; exact am7
    · rw [gi_si, if_neg (by decide)]; exact am6
    · rw [gi_si, if_pos ⟨rfl, rfl⟩]; rfl
theorem adv (hX : XTx gx len tx) (hM : MTx gm len tx) (h4 : gi gx 1 4 = nI p) (h7 : gi gm 0 7 = nI p) (hp : p ≤ len) (hs : gi gx 1 3 = if w then 2 else 1) (hw : gi gm 0 11 = if w then 1 else 0) (hr : RsX gx) :
    Adv gx gm len tx w p (F_X4_advance gx) (F_X7_next gm) := by
  obtain ⟨s, s1, s2, s3, s4⟩ := scan (fun j => isB (tx j)) len (len - p) p (by omega)
  have hl := hX.1
  rw [x_skip hX h4 s1 s2 s3 s4, m_skip hM h7 s1 s2 s3 s4]
  have x4 : gi (si gx 1 4 (nI s)) 1 4 = nI s := by rw [gi_si, if_pos ⟨rfl, rfl⟩]
  have m6 : gi (si gm 0 6 (nI s)) 0 6 = nI s := by rw [gi_si, if_pos ⟨rfl, rfl⟩]
  have hX1 : XTx (si (si gx 1 4 (nI s)) 1 6 (nI s)) len tx := (hX.si (by decide)).si (by decide)
  have hM1 : MTx (si gm 0 6 (nI s)) len tx := hM.si (by decide)
  have eX : F_X4_advance_52 (si gx 1 4 (nI s)) = if s < len then F_X4_advance_88 (nI (tx s)) (si (si gx 1 4 (nI s)) 1 6 (nI s)) else F_X4_advance_88 (-1) (si (si gx 1 4 (nI s)) 1 6 (nI s)) := by
    have y4 : gi (si (si gx 1 4 (nI s)) 1 6 (nI s)) 1 4 = nI s := by rw [gi_si, if_neg (by decide)]; exact x4
    unfold F_X4_advance_52
    rw [lt_def, x4, hX1.2.1, y4]
    by_cases c : s < len
    · obtain ⟨b1, b2⟩ := hX1.2.2 s c
      rw [if_neg (nI_ge c (by omega)), ck_true (inB_nI (by omega) (by decide)), nI_clamp (by omega), b2, sx_255 _ b1, if_pos c]
    · rw [if_pos (nI_le (by omega) (by omega)), if_neg c]
  rw [eX]
  by_cases c : s < len
  · rw [if_pos c]
    have b1 := (hX.2.2 s c).1
    have hsg : sgn len tx s = tx s := by unfold sgn; rw [if_pos c]
    have hM2 : MTx (si (si gm 0 6 (nI s)) 0 7 (nI (s + 1))) len tx := hM1.si (by decide)
    have m6' : gi (si (si gm 0 6 (nI s)) 0 7 (nI (s + 1))) 0 6 = nI s := by rw [gi_si, if_neg (by decide)]; exact m6
    have m7' : gi (si (si gm 0 6 (nI s)) 0 7 (nI (s + 1))) 0 7 = nI (s + 1) := by rw [gi_si, if_pos ⟨rfl, rfl⟩]
    have y4 : gi (si (si gx 1 4 (nI s)) 1 6 (nI s)) 1 4 = nI s := by rw [gi_si, if_neg (by decide)]; exact x4
    have y6 : gi (si (si gx 1 4 (nI s)) 1 6 (nI s)) 1 6 = nI s := by rw [gi_si, if_pos ⟨rfl, rfl⟩]
    have eM := m58 hM1 m6 hM2 m6' c
    rw [eM]
    unfold F_X4_advance_88
    rw [if_neg (show ¬ nI (tx s) = -1 from nI_ne1 (by omega))]
    by_cases cL : isL (tx s)
    · -- a word
      rw [(m_isLetter b1).1 cL, Option.bind_some, if_neg (show ¬ (1 : Int32) = 0 by decide)]
      obtain ⟨e, e1, e2, e3, e4⟩ := scan (fun j => isL (tx j)) len (len - s) s (by omega)
      have hse : s + 1 ≤ e := by
        rcases Nat.lt_or_ge s e with q | q
        · exact q
        · have : e = s := by omega
          subst this
          exact absurd cL (e4 c)
      rw [m_letters hM2 m6' m7' hse e2 e3 e4]
      have hcl := cL
      unfold isL at hcl
      rw [if_neg (fun q => by have := (nI_97 _ b1).mp q; omega), if_neg (fun q => by have := (nI_122 _ b1).mp q; omega), x_letters hX1 y4 e1 e2 e3 e4]
      -- memories behind the letters
      generalize hgx : si (sl (si (si gx 1 4 (nI s)) 1 6 (nI s)) 1 8 (lN (w32 tx s (e - s)))) 1 4 (nI e) = ax
      have ax4 : gi ax 1 4 = nI e := by rw [← hgx, gi_si, if_pos ⟨rfl, rfl⟩]
      have ax6 : gi ax 1 6 = nI s := by rw [← hgx, gi_si, if_neg (by decide), gi_sl]; exact y6
      have ax8 : gl ax 1 8 = lN (w32 tx s (e - s)) := by rw [← hgx, gl_si, gl_sl, if_pos ⟨rfl, rfl⟩]
      have axR : RsX ax := fun i hi => by rw [← hgx, gl_si, gl_sl, if_neg (by simp), gl_si, gl_si]; exact hr i hi
      have axF : FrX gx ax := by rw [← hgx]; exact ((((FrX.rf gx).si (by decide)).si (by decide)).sl).si (by decide)
      generalize hgm : sl (si (si (si gm 0 6 (nI s)) 0 7 (nI (s + 1))) 0 7 (nI e)) 0 10 (lN (w256 tx s (min (e - s) 8))) = am
      have am7 : gi am 0 7 = nI e := by rw [← hgm, gi_sl, gi_si, if_pos ⟨rfl, rfl⟩]
      have am6 : gi am 0 6 = nI s := by rw [← hgm, gi_sl, gi_si, if_neg (by decide)]; exact m6'
      have am10 : gl am 0 10 = lN (w256 tx s (min (e - s) 8)) := by rw [← hgm, gl_sl, if_pos ⟨rfl, rfl⟩]
      have amF : FrM gm am := by rw [← hgm]; exact ((((FrM.rf gm).si (by decide)).si (by decide)).si (by decide)).sl
      exact a_word hl s1 e1 e2 hse e3 ax4 ax6 ax8 axR axF am7 am6 am10 amF
    · rw [(m_isLetter b1).2 cL, Option.bind_some, if_pos rfl]
      have hcl := cL
      unfold isL at hcl
      have e88 : (if nI (tx s) < 97 then F_X4_advance_121 (nI (tx s)) (si (si gx 1 4 (nI s)) 1 6 (nI s)) else if 122 < nI (tx s) then F_X4_advance_121 (nI (tx s)) (si (si gx 1 4 (nI s)) 1 6 (nI s)) else (F_X4_readWord (si (si gx 1 4 (nI s)) 1 6 (nI s))).bind fun g_5 => some g_5) = F_X4_advance_121 (nI (tx s)) (si (si gx 1 4 (nI s)) 1 6 (nI s)) := by
        by_cases q : tx s < 97
        · rw [if_pos ((nI_97 _ b1).mpr q)]
        · rw [if_neg (fun r => q ((nI_97 _ b1).mp r)), if_pos ((nI_122 _ b1).mpr (by omega))]
      rw [e88]
      unfold F_X4_advance_121
      by_cases cD : isD (tx s)
      · -- a number
        rw [(m_isDigit b1).1 cD, Option.bind_some, if_neg (show ¬ (1 : Int32) = 0 by decide)]
        obtain ⟨e, e1, e2, e3, e4⟩ := scan (fun j => isD (tx j)) len (len - s) s (by omega)
        have hse : s + 1 ≤ e := by
          rcases Nat.lt_or_ge s e with q | q
          · exact q
          · have : e = s := by omega
            subst this
            exact absurd cD (e4 c)
        have hcd := cD
        unfold isD at hcd
        rw [if_neg (fun q => by have := (nI_48 _ b1).mp q; omega), if_neg (fun q => by have := (nI_57 _ b1).mp q; omega), x_digits hX1 y4 e1 e2 e3 e4]
        have hM3 : MTx (si (si (si (si gm 0 6 (nI s)) 0 7 (nI (s + 1))) 0 9 0) 0 7 (nI s)) len tx := (hM2.si (by decide)).si (by decide)
        rw [m_digits hM3 (by rw [gi_si, if_neg (by decide), gi_si, if_neg (by decide)]; exact m6') (by rw [gi_si, if_pos ⟨rfl, rfl⟩]) (by rw [gi_si, if_neg (by decide), gi_si, if_pos ⟨rfl, rfl⟩]) e1 e2 e3 e4]
        generalize hgx : si (si (si (si gx 1 4 (nI s)) 1 6 (nI s)) 1 7 (nI (dv tx s (e - s)))) 1 4 (nI e) = ax
        have hXa : XTx ax len tx := by rw [← hgx]; exact (hX1.si (by decide)).si (by decide)
        have ax4 : gi ax 1 4 = nI e := by rw [← hgx, gi_si, if_pos ⟨rfl, rfl⟩]
        have ax6 : gi ax 1 6 = nI s := by rw [← hgx, gi_si, if_neg (by decide), gi_si, if_neg (by decide)]; exact y6
        have ax7 : gi ax 1 7 = nI (dv tx s (e - s)) := by rw [← hgx, gi_si, if_neg (by decide), gi_si, if_pos ⟨rfl, rfl⟩]
        have axF : FrX gx ax := by rw [← hgx]; exact ((((FrX.rf gx).si (by decide)).si (by decide)).si (by decide)).si (by decide)
        generalize hgm : si (si (si (si (si (si gm 0 6 (nI s)) 0 7 (nI (s + 1))) 0 9 0) 0 7 (nI s)) 0 9 (nI (dv tx s (min (e - s) 6)))) 0 7 (nI e) = am
        have am7 : gi am 0 7 = nI e := by rw [← hgm, gi_si, if_pos ⟨rfl, rfl⟩]
        have am6 : gi am 0 6 = nI s := by rw [← hgm, gi_si, if_neg (by decide), gi_si, if_neg (by decide), gi_si, if_neg (by decide), gi_si, if_neg (by decide)]; exact m6'
        have am9 : gi am 0 9 = nI (dv tx s (min (e - s) 6)) := by rw [← hgm, gi_si, if_neg (by decide), gi_si, if_pos ⟨rfl, rfl⟩]
        have amF : FrM gm am := by rw [← hgm]; exact ((((((FrM.rf gm).si (by decide)).si (by decide)).si (by decide)).si (by decide)).si (by decide)).si (by decide)
        have eX2 : F_X4_readNumber_81 ax = if 6 < e - s then some (si ax 1 5 1) else if sgn len tx e < 97 ∨ 122 < sgn len tx e then some (si ax 1 5 3) else some (si ax 1 5 1) := by
          unfold F_X4_readNumber_81 F_X4_readNumber_124 F_X4_readNumber_125 F_X4_readNumber_145 F_X4_readNumber_150
          rw [hXa.2.1, ax4, ax6, nI_sub e1]
          simp only [show (6 : Int32) = nI 6 from rfl, nI_ltI (show 6 < 2 ^ 31 by decide) (show e - s < 2 ^ 31 by omega), lt_def]
          rw [if_pos trivial, if_neg (show ¬ (1 : Int32) = 0 by decide)]
          unfold sgn
          by_cases ce : e < len
          · obtain ⟨d1, d2⟩ := hXa.2.2 e ce
            rw [if_neg (nI_ge ce (by omega)), ck_true (inB_nI (by omega) (by decide)), ck_true (inB_nI (by omega) (by decide)), nI_clamp (by omega), d2, if_pos ce]
            by_cases q : isL (tx e)
            · obtain ⟨q1, q2⟩ := isL_x q
              rw [if_neg q1, if_neg q2]
              unfold isL at q
              rw [if_neg (show ¬ (tx e < 97 ∨ 122 < tx e) by omega)]
            · have q' := nL_x d1 q
              unfold isL at q
              rw [if_pos (show tx e < 97 ∨ 122 < tx e by omega)]
              rcases q' with r | ⟨r, r'⟩
              · rw [if_pos r]
              · rw [if_neg r, if_pos r']
          · rw [if_pos (nI_le (by omega) (by omega)), if_neg ce, if_pos (show (0 : Nat) < 97 ∨ 122 < 0 by decide)]
        rw [eX2]
        by_cases c6 : 6 < e - s
        · rw [if_pos c6, if_pos c6]
          refine ⟨Tk.bad, s, e, _, _, rfl, rfl, ⟨?_, ?_, ?_, trivial⟩, ⟨?_, ?_, ?_, trivial⟩, s1, e1, e2, fun _ => by omega, (fun c h => by cases h), axF.si (by decide), amF.si (by decide)⟩
          · rw [gi_si, if_neg (by decide)]; exact ax4
          · rw [gi_si, if_neg (by decide)]; exact ax6
          · rw [gi_si, if_pos ⟨rfl, rfl⟩]; rfl
          · rw [gi_si, if_neg (by decide)]; exact am7
          · rw [gi_si, if_neg (by decide)]; exact am6
          · rw [gi_si, if_pos ⟨rfl, rfl⟩]; rfl
        · rw [if_neg c6, if_neg c6]
          by_cases cb : sgn len tx e < 97 ∨ 122 < sgn len tx e
          · rw [if_pos cb, if_pos cb]
            have hd := dv_lt tx s (e - s) (fun j hj => e3 (s + j) (by omega) (by omega))
            have hd2 : 10 ^ (e - s) ≤ 10 ^ 6 := Nat.pow_le_pow_right (by decide) (by omega)
            refine ⟨Tk.num (dv tx s (e - s)), s, e, _, _, rfl, rfl, ⟨?_, ?_, ?_, ?_, by omega⟩, ⟨?_, ?_, ?_, ?_⟩, s1, e1, e2, fun _ => by omega, (fun c h => by cases h), axF.si (by decide), amF.si (by decide)⟩
            · rw [gi_si, if_neg (by decide)]; exact ax4
            · rw [gi_si, if_neg (by decide)]; exact ax6
            · rw [gi_si, if_pos ⟨rfl, rfl⟩]; rfl
            · rw [gi_si, if_neg (by decide)]; exact ax7
            · rw [gi_si, if_neg (by decide)]; exact am7
            · rw [gi_si, if_neg (by decide)]; exact am6
            · rw [gi_si, if_pos ⟨rfl, rfl⟩]; rfl
            · show gi (si am 0 8 4) 0 9 = _
              rw [gi_si, if_neg (by decide), am9, Nat.min_eq_left (by omega)]
          · rw [if_neg cb, if_neg cb]
            refine ⟨Tk.bad, s, e, _, _, rfl, rfl, ⟨?_, ?_, ?_, trivial⟩, ⟨?_, ?_, ?_, trivial⟩, s1, e1, e2, fun _ => by omega, (fun c h => by cases h), axF.si (by decide), amF.si (by decide)⟩
            · rw [gi_si, if_neg (by decide)]; exact ax4
            · rw [gi_si, if_neg (by decide)]; exact ax6
            · rw [gi_si, if_pos ⟨rfl, rfl⟩]; rfl
            · rw [gi_si, if_neg (by decide)]; exact am7
            · rw [gi_si, if_neg (by decide)]; exact am6
            · rw [gi_si, if_pos ⟨rfl, rfl⟩]; rfl
      · -- a sign
        rw [(m_isDigit b1).2 cD, Option.bind_some, if_pos rfl]
        have hcd := cD
        unfold isD at hcd
        have e121 : (if nI (tx s) < 48 then F_X4_advance_140 (nI (tx s)) (si (si gx 1 4 (nI s)) 1 6 (nI s)) else if 57 < nI (tx s) then F_X4_advance_140 (nI (tx s)) (si (si gx 1 4 (nI s)) 1 6 (nI s)) else (F_X4_readNumber (si (si gx 1 4 (nI s)) 1 6 (nI s))).bind fun g_4 => some g_4) = F_X4_advance_140 (nI (tx s)) (si (si gx 1 4 (nI s)) 1 6 (nI s)) := by
          by_cases q : tx s < 48
          · rw [if_pos ((nI_48 _ b1).mpr q)]
          · rw [if_neg (fun r => q ((nI_48 _ b1).mp r)), if_pos ((nI_57 _ b1).mpr (by omega))]
        rw [e121]
        unfold F_X4_advance_140 F_X4_advance_158 F_X7_next_377
        obtain ⟨r, hr1, hr2⟩ := x_ix (w := w) b1
        have y3 : gi (si (si gx 1 4 (nI s)) 1 6 (nI s)) 1 3 = if w then 2 else 1 := by rw [gi_si, if_neg (by decide), gi_si, if_neg (by decide)]; exact hs
        have n11 : gi (si (si gm 0 6 (nI s)) 0 7 (nI (s + 1))) 0 11 = if w then 1 else 0 := by rw [gi_si, if_neg (by decide), gi_si, if_neg (by decide)]; exact hw
        rw [y3, sx_ch _ b1, hr1, Option.bind_some, lt_def, lt_def, lt_def, lt_def, lt_def, lt_def]
        have z4 : ∀ v, gi (si (si (si gx 1 4 (nI s)) 1 6 (nI s)) 1 5 v) 1 4 = nI s := fun v => by rw [gi_si, if_neg (by decide)]; exact y4
        rw [z4, z4, nI_1]
        obtain ⟨k1, k2⟩ := m_isSign n11 b1
        by_cases cs : tx s ∈ SG w
        · rw [if_neg (fun q => hr2.mp q cs), k1 cs, Option.bind_some, if_neg (by decide)]
          refine ⟨Tk.sgn (tx s), s, s + 1, _, _, rfl, rfl, ⟨?_, ?_, ?_, SG_le cs⟩, ⟨?_, ?_, ?_, c, rfl⟩, s1, by omega, c, fun _ => by omega, (fun c h => by cases h; exact cs), ((((FrX.rf gx).si (by decide)).si (by decide)).si (by decide)).si (by decide), (((FrM.rf gm).si (by decide)).si (by decide)).si (by decide)⟩
          · rw [gi_si, if_pos ⟨rfl, rfl⟩]
          · rw [gi_si, if_neg (by decide), gi_si, if_neg (by decide)]; exact y6
          · rw [gi_si, if_neg (by decide), gi_si, if_pos ⟨rfl, rfl⟩]; rfl
          · rw [gi_si, if_neg (by decide)]; exact m7'
          · rw [gi_si, if_neg (by decide)]; exact m6'
          · rw [gi_si, if_pos ⟨rfl, rfl⟩]; rfl
        · rw [if_pos (hr2.mpr cs), k2 cs, Option.bind_some, if_pos rfl]
          refine ⟨Tk.bad, s, s + 1, _, _, rfl, rfl, ⟨?_, ?_, ?_, trivial⟩, ⟨?_, ?_, ?_, trivial⟩, s1, by omega, c, fun _ => by omega, (fun c h => by cases h), ((((FrX.rf gx).si (by decide)).si (by decide)).si (by decide)).si (by decide), (((FrM.rf gm).si (by decide)).si (by decide)).si (by decide)⟩
          · rw [gi_si, if_pos ⟨rfl, rfl⟩]
          · rw [gi_si, if_neg (by decide), gi_si, if_neg (by decide)]; exact y6
          · rw [gi_si, if_neg (by decide), gi_si, if_pos ⟨rfl, rfl⟩]; rfl
          · rw [gi_si, if_neg (by decide)]; exact m7'
          · rw [gi_si, if_neg (by decide)]; exact m6'
          · rw [gi_si, if_pos ⟨rfl, rfl⟩]; rfl
  · rw [if_neg c]
    have hse : s = len := by omega
    subst hse
    have eM : F_X7_next_58 (si gm 0 6 (nI s)) = some (si (si (si (si (si gm 0 6 (nI s)) 0 7 (nI (s + 1))) 0 8 0) 0 6 (nI s)) 0 7 (nI s)) := by
      unfold F_X7_next_58
      have q3 : gi (si (si gm 0 6 (nI s)) 0 7 (nI (s + 1))) 0 3 = nI s := ((hM1.si (k := 7) (v := nI (s + 1)) (by decide)).2.1)
      have q6 : gi (si (si gm 0 6 (nI s)) 0 7 (nI (s + 1))) 0 6 = nI s := by rw [gi_si, if_neg (by decide)]; exact m6
      rw [m6, m_sign hM1 (by omega), Option.bind_some, lt_def, lt_def, nI_1, q6, q3, if_neg (nI_nlt (Nat.le_refl _) (by omega)), lt_def, lt_def, lt_def, gi_si, if_neg (by decide), q3, gi_si, if_neg (by decide), gi_si, if_neg (by decide), q3]
    rw [eM]
    unfold F_X4_advance_88
    rw [if_pos rfl, lt_def]
    refine ⟨Tk.fin, s, s, _, _, rfl, rfl, ⟨?_, ?_, ?_, trivial⟩, ⟨?_, ?_, ?_, trivial⟩, s1, Nat.le_refl _, Nat.le_refl _, fun h => absurd rfl h, (fun c h => by cases h), (((FrX.rf gx).si (by decide)).si (by decide)).si (by decide), (((((FrM.rf gm).si (by decide)).si (by decide)).si (by decide)).si (by decide)).si (by decide)⟩
    · rw [gi_si, if_neg (by decide), gi_si, if_neg (by decide)]; exact x4
    · rw [gi_si, if_neg (by decide), gi_si, if_pos ⟨rfl, rfl⟩]
    · rw [gi_si, if_pos ⟨rfl, rfl⟩]; rfl
    · rw [gi_si, if_pos ⟨rfl, rfl⟩]
    · rw [gi_si, if_neg (by decide), gi_si, if_pos ⟨rfl, rfl⟩]
    · rw [gi_si, if_neg (by decide), gi_si, if_neg (by decide), gi_si, if_pos ⟨rfl, rfl⟩]; rfl
end ADV

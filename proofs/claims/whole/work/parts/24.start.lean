theorem tb_t1 {i : Nat} {w : Cond} (h : tables_1_1[i]? = some w) : w ∈ lw_tbl := List.mem_append_right _ (List.mem_append_left _ (List.mem_of_getElem? h))
theorem tb_t2 {i : Nat} {w : Cond} (h : tables_1_2[i]? = some w) : w ∈ lw_tbl := List.mem_append_right _ (List.mem_append_right _ (List.mem_append_left _ (List.mem_of_getElem? h)))
theorem tb_t3 {i : Nat} {w : Cond} (h : tables_1_3[i]? = some w) : w ∈ lw_tbl := List.mem_append_right _ (List.mem_append_right _ (List.mem_append_right _ (List.mem_append_left _ (List.mem_of_getElem? h))))
theorem tb_t4 {i : Nat} {w : Cond} (h : tables_1_4[i]? = some w) : w ∈ lw_tbl := List.mem_append_right _ (List.mem_append_right _ (List.mem_append_right _ (List.mem_append_right _ (List.mem_append_left _ (List.mem_of_getElem? h)))))
theorem tb_t5 {i : Nat} {w : Cond} (h : tables_1_5[i]? = some w) : w ∈ lw_tbl := List.mem_append_right _ (List.mem_append_right _ (List.mem_append_right _ (List.mem_append_right _ (List.mem_append_right _ (List.mem_append_left _ (List.mem_of_getElem? h))))))
theorem tb_t6 {i : Nat} {w : Cond} (h : tables_1_6[i]? = some w) : w ∈ lw_tbl := List.mem_append_right _ (List.mem_append_right _ (List.mem_append_right _ (List.mem_append_right _ (List.mem_append_right _ (List.mem_append_right _ (List.mem_of_getElem? h))))))
theorem inst_ok : ∀ c, c < 8 → Cond.instantiable (RR c) (NN c) ∈ lw_tbl := by
  intro c h
  match c, h with
  | 0, _ => exact tb_t3 (i := 166) rfl
  | 1, _ => exact tb_t1 (i := 199) rfl
  | 2, _ => exact tb_t1 (i := 132) rfl
  | 3, _ => exact tb_t2 (i := 59) rfl
  | 4, _ => exact tb_t1 (i := 26) rfl
  | 5, _ => exact tb_t3 (i := 16) rfl
  | 6, _ => exact tb_t1 (i := 18) rfl
  | 7, _ => exact tb_t4 (i := 74) rfl
def tmS (i : Nat) : Term := .string RX4 (if i = 0 then 19 else if i = 1 then 29 else 45)
abbrev PRE1 : Cond := Jvm.Cond.and given_1 narrow_1
theorem pr_ex : ∀ i, i < 3 → Cond.exactly (tmS i) "java/lang/String" ∈ flatC PRE1 := by decide +kernel
theorem pr_co : ∀ i, i < 3 → Cond.eq (.field (tmS i) "java/lang/String" "coder" "B") (.int 0) ∈ flatC PRE1 := by decide +kernel
theorem pr_ar : ∀ i, i < 3 → Cond.arrayOf (.field (tmS i) "java/lang/String" "value" "[B") .byte ∈ flatC PRE1 := by decide +kernel
theorem pr_le : ∀ i, i < 3 → Cond.eq (.length (.field (tmS i) "java/lang/String" "value" "[B")) (.int (Int32.ofNat (SLEN.getD i 0))) ∈ flatC PRE1 := by decide +kernel
theorem pr_el : ∀ i, i < 3 → ∀ j, j < SLEN.getD i 0 → Cond.eq (.elem (.field (tmS i) "java/lang/String" "value" "[B") (.int (Int32.ofNat j))) (.int ((SBYT.getD i []).getD j 0)) ∈ flatC PRE1 := by decide +kernel
theorem pr_ne : ∀ i, i < 3 → ∀ j, j < 3 → i ≠ j → (Cond.not (Cond.eq (tmS i) (tmS j)) ∈ flatC PRE1 ∨ Cond.not (Cond.eq (tmS j) (tmS i)) ∈ flatC PRE1) := by decide +kernel
theorem pr_cs : Cond.eq (.static "java/lang/String" "COMPACT_STRINGS" "Z") (.int 1) ∈ flatC PRE1 := by decide +kernel
theorem pr_fm : Cond.isRef (.static "jdk/internal/util/Preconditions" "SIOOBE_FORMATTER" "Ljava/util/function/BiFunction;") ∈ flatC PRE1 := by decide +kernel
theorem slen_lt : ∀ i, i < 3 → SLEN.getD i 0 < 2 ^ 31 := by decide +kernel
theorem nst_in : ∀ w ∈ NSTW, w ∈ lw_tbl := List.forall_mem_cons.mpr ⟨tb_t2 (i := 191) rfl, List.forall_mem_cons.mpr ⟨tb_t2 (i := 194) rfl, List.forall_mem_cons.mpr ⟨tb_t3 (i := 160) rfl, List.forall_mem_cons.mpr ⟨tb_t3 (i := 202) rfl, fun _ h => absurd h List.not_mem_nil⟩⟩⟩⟩
set_option maxHeartbeats 1000000 in
theorem law_known {s : State} {b : Nat} (hts : ∀ w ∈ lw_tbl, w.before #[Value.ref b] s = true) : ∃ (D : va_G) (cA : Nat → ClassId), va_K D vwCl (tysA cA) s := by
  have h : ∀ k : Nat, ∃ x : ClassId × (Nat → Nat), ∀ q : vw_C, vwCl[k]? = some q → u_Kn s q.1 q.2.1 q.2.2 x.1 x.2 := by
    intro k
    by_cases hk : k < 8
    · obtain ⟨cC, iS, hK⟩ := u_known (C := RR k) (T := TT k) (N := NN k) (n := NN k) hts (fun w h => ok_in (cl_in k hk w h)) (hts _ (inst_ok k hk))
      refine ⟨(cC, iS), fun q hq => ?_⟩
      rw [cl_at k hk] at hq
      cases hq
      exact hK
    · refine ⟨(0, fun _ => 0), fun q hq => ?_⟩
      have := (List.getElem?_eq_some_iff.mp hq).1
      exact absurd this (by simpa [vwCl] using hk)
  obtain ⟨f, hf⟩ := Classical.axiomOfChoice h
  have ha : ∀ ty : FieldType, Cond.arrayClass ty ∈ lw_tbl → ∃ c : ClassId, ArrOfT s c ty ∧ s.vm.findClass ("[" ++ ty.toString) = some c := by
    intro ty hty
    obtain ⟨c, k, comp, h1, h2, h3⟩ := Cond.arrayClass_spec (hts _ hty)
    exact ⟨c, fun n z => ⟨fun k h => (by cases h), k, h2, comp, h3⟩, h1⟩
  obtain ⟨c8, a8, b8⟩ := ha .int (tb_t1 (i := 197) rfl)
  obtain ⟨c9, a9, b9⟩ := ha .long (tb_t1 (i := 130) rfl)
  obtain ⟨c10, a10, b10⟩ := ha .byte (tb_t1 (i := 129) rfl)
  obtain ⟨c11, a11, b11⟩ := ha .boolean (tb_t1 (i := 235) rfl)
  refine ⟨(fun k => (f k).1, fun k => (f k).2), fun k => if k = 8 then c8 else if k = 9 then c9 else if k = 10 then c10 else c11, fun k q hq => hf k q hq, fun k q hq => ?_⟩
  match k, hq with
  | 0, hq => cases hq; exact ⟨a8, b8⟩
  | 1, hq => cases hq; exact ⟨a9, b9⟩
  | 2, hq => cases hq; exact ⟨a10, b10⟩
  | 3, hq => cases hq; exact ⟨a11, b11⟩
  | k + 4, hq => simp [tysA] at hq
set_option maxHeartbeats 1000000 in
theorem law_ev {s : State} {b : Nat} (hts : ∀ w ∈ lw_tbl, w.before #[Value.ref b] s = true) (hgv : PRE1.before #[Value.ref b] s = true) : ∃ ev : EVa, EV ev (Alw s) s s.heap := by
  have hs := flat_of_before _ hgv
  have hA : ∀ a : Nat, a < s.heap.size → ¬ Alw s a := fun a h => Nat.not_le.mpr h
  obtain ⟨adK, adV, hS, hev⟩ := vk_Sof (args := #[Value.ref b]) (s := s) (N := 3) (tm := tmS) (len := SLEN) (byt := SBYT) (A := Alw s) slen_lt (fun i hi => hs _ (pr_ex i hi)) (fun i hi => hs _ (pr_co i hi)) (fun i hi => hs _ (pr_ar i hi)) (fun i hi => hs _ (pr_le i hi)) (fun i hi j hj => hs _ (pr_el i hi j hj)) (fun i j hi hj hij => (pr_ne i hi j hj hij).imp (fun h => hs _ h) (fun h => hs _ h)) hA
  obtain ⟨v, hv, hvr⟩ := Cond.isRef_spec (hs _ pr_fm)
  have ho : ∃ o : Option Nat, v = va_rf o := by
    cases v <;> first | exact ⟨none, rfl⟩ | (rename_i a; exact ⟨some a, rfl⟩) | (simp [Value.isRef] at hvr)
  obtain ⟨o, rfl⟩ := ho
  refine ⟨(adK, adV, o), hS, ⟨va_Zof (hts _ (tb_t1 (i := 42) rfl)) (hts _ (tb_t1 (i := 3) rfl)) (va_eqi (hs _ pr_cs)) hA, va_Zof (hts _ (tb_t1 (i := 58) rfl)) (hts _ (tb_t1 (i := 5) rfl)) hv hA⟩, ⟨vk_R.of (hts _ (tb_t1 (i := 31) rfl)) (hev 0 (by decide)), vk_R.of (hts _ (tb_t1 (i := 32) rfl)) (hev 1 (by decide)), vk_R.of (hts _ (tb_t2 (i := 84) rfl)) (hev 2 (by decide))⟩, fun w hw => ?_⟩
  obtain ⟨a, i, x, hh, rfl⟩ := nst_of hw
  exact va_Nw.of rfl (hts _ (nst_in _ hw))

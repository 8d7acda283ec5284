/-! the model reads an item, the text, and lays -/
theorem prt_cases {l : Int} (h : prt l ≠ 0) : (l = 119 ∧ prt l = 2) ∨ (l = 104 ∧ prt l = 4) ∨ (l = 109 ∧ prt l = 3) ∨ (l = 99 ∧ prt l = 1) ∨ (l = 110 ∧ prt l = 1) := by
  unfold prt at h ⊢
  by_cases h1 : l = 104
  · subst h1; simp
  · by_cases h2 : l = 109
    · subst h2; simp
    · by_cases h3 : l = 119
      · subst h3; simp
      · by_cases h4 : l = 110
        · subst h4; simp
        · by_cases h5 : l = 99
          · subst h5; simp
          · rw [if_neg h1, if_neg h2, if_neg h3, if_neg (by omega)] at h
            exact absurd rfl h
theorem m_isGood (l : Int) (p : Nat) (v : Nat → Int) (M D : MM) (hd : WFd D) (hm : DM M D) (hl : prt l ≠ 0) (hv : ∀ k, k < prt l → M 78 k = v k ∧ 0 ≤ v k ∧ v k ≤ 99) : oQ 2 108 [vR 55, vI l, vI p] M (gdP M D l p v) := by
  rcases prt_cases hl with ⟨h1, h2⟩ | ⟨h1, h2⟩ | ⟨h1, h2⟩ | ⟨h1, h2⟩ | ⟨h1, h2⟩ <;> rw [h2] at hv <;> subst h1
  · exact m_goodW p v M D hm hv
  · exact m_goodH p v M D hd hm hv
  · exact m_goodM p v M D hd hm hv
  · exact m_goodC p v M D hd hm hv
  · exact m_goodN p v M D hd hm hv
def itf (k j : Nat) : Prop := drf k j ∨ k = 78 ∨ (k = 55 ∧ j = 2)
theorem m_isItem (tx : Nat → Int) (n p : Nat) (M D : MM) (hn4 : n ≤ 400) (hb : ∀ k, -128 ≤ tx k ∧ tx k ≤ 127) (hn : M 55 0 = n) (hx : ∀ k, M 56 k = tx k) (hp : M 55 2 = p) (hpn : p < n) (hd : WFd D) (hm : DM M D) :
    oQ 3 107 [vR 55] M (fun r M' => r = some (Sum.inl (b2i (itm tx n D p).isSome)) ∧ (∀ D' q, itm tx n D p = some (D', q) → DM M' D' ∧ M' 55 2 = (q : Nat)) ∧ ∀ k j, ¬ itf k j → M' k j = M k j) := by
  have hbp := hb p
  have hw4 := prt_rg (tx p)
  generalize hwd : prt (tx p) = w at hw4
  have no : ∀ N : MM, itm tx n D p = none → (∀ k j, ¬ itf k j → N k j = M k j) → Rtn 107 0 0 (fun r sh M' => sh = sh0 ∧ r = some (Sum.inl (b2i (itm tx n D p).isSome)) ∧ (∀ D' q, itm tx n D p = some (D', q) → DM M' D' ∧ M' 55 2 = (q : Nat)) ∧ ∀ k j, ¬ itf k j → M' k j = M k j) (some (Sum.inl 0)) (sh0, 0, 0) N := fun N h hF =>
    rt107 (by decide) ⟨rfl, by rw [h]; rfl, fun D' q z => (by rw [h] at z; cases z), hF⟩
  have f2 : ∀ (N : MM) (a : Int), (∀ k j, ¬ itf k j → N k j = M k j) → ∀ k j, ¬ itf k j → mset N 55 2 a k j = M k j := fun N a hF k j hk => by
    rw [← hF k j hk]
    unfold itf at hk
    unfold mset
    rw [if_neg (by omega)]
  have f78 : ∀ (N : MM) (x : Nat) (a : Int), (∀ k j, ¬ itf k j → N k j = M k j) → ∀ k j, ¬ itf k j → mset N 78 x a k j = M k j := fun N x a hF k j hk => by
    rw [← hF k j hk]
    unfold itf at hk
    unfold mset
    rw [if_neg (by omega)]
  have lexno : ∀ k, k < w → okN tx n (p + 1) w k = false → itm tx n D p = none := fun k hk h => by
    unfold itm
    rw [hwd, if_neg (fun z => by rw [lexB_no hk h] at z; cases z.2)]
  refine go107 (fun S hS => ?_)
  have dead : ∀ (k : Nat) (N : MM), k ≤ 5 → itm tx n D p = none → (∀ k j, ¬ itf k j → N k j = M k j) → S 44 [some (vR 55), some (vI p), some (vI (tx p)), some (vI w), some (vI 0), some (vI k)] [] (sh0, 0, 0) N := by
    intro k N hk hi hF
    refine wpx_ok hS bk107 (sp := sp107) 60 44 _ _ _ _ ?_
    simp only [LCM, B2, Bool.not_eq_false, Bool.not_eq_true, decide_eq_true_eq, decide_eq_false_iff_not, Int.not_lt, Int.not_le, CST, TN, WX, WA, WB, GS, LOC, BT107, SP107, CLS, FLD, ARR, CD, true_and, and_true, and_self, forall_const, true_implies, false_implies, implies_true, not_true_eq_false, not_false_eq_true, if_true, if_false, rgI, rgL, scr, swl, lkl, cats, cat, is2, List.drop_succ_cons, List.drop_zero, List.drop_nil, List.cons_append, List.nil_append, Option.toList_some, Option.toList_none, List.length_cons, List.length_nil, ne_eq, Classical.not_not, reduceCtorEq, Nat.reduceAdd, Nat.reduceSub, Nat.reduceMul, Nat.reduceLT, Nat.reduceLeDiff, Nat.reduceEqDiff, Nat.reduceBEq, Int.reduceToNat, Int.reduceLE, Int.reduceLT, Int.reduceEq, Int.reduceNeg, Int.reduceAdd, Int.reduceSub, Int.reduceMul, Int.toNat_natCast, Nat.zero_add, Int.add_zero, Nat.add_zero, ite_true, ite_false, Option.some.injEq, Nat.le_refl, or_true, true_or, or_false, false_or, if_pos, reduceIte, Nat.reduceGT, ms_ne, ms_eq, ms_nj]
    exact ⟨by omega, fun _ => no _ hi (f2 N _ hF), fun _ => no _ hi (f2 N _ hF)⟩
  have alive : ∀ (m k a : Nat) (N : MM), k + m = w → 0 < w → (∀ k j, ¬ itf k j → N k j = M k j) → DM N D → N 55 2 = (a : Int) → (k = 0 → a = p + 1) → (0 < k → a + 1 = pls tx n (p + 1) k) → a ≤ n → (∀ j, j < k → okD tx n (pls tx n (p + 1) j) = true) → (∀ j, j + 1 < k → okN tx n (p + 1) w j = true) → (∀ j, j < k → N 78 j = nvl tx n (pls tx n (p + 1) j)) →
      S 44 [some (vR 55), some (vI p), some (vI (tx p)), some (vI w), some (vI 1), some (vI k)] [] (sh0, 0, 0) N := by
    intro m
    induction m with
    | zero =>
      intro k a N hk hw0 hF hDM h2 hk0 hk1 han hD hO hV
      have hkw : k = w := by omega
      obtain ⟨k', rfl⟩ : ∃ k', k = k' + 1 := ⟨k - 1, by omega⟩
      have ha := hk1 (by omega)
      rw [pls] at ha
      have hfg : fig tx n (pls tx n (p + 1) k') = true := by
        have := hD k' (by omega)
        unfold okD at this
        rw [Bool.and_eq_true] at this
        exact this.1
      have hae : a = pls tx n (p + 1) k' + nln tx n (pls tx n (p + 1) k') := by omega
      have hmk : mkk w k' = 59 := by unfold mkk; rw [if_neg (by omega)]
      have e0 : N 55 0 = n := by rw [hF 55 0 (by unfold itf drf; omega)]; exact hn
      have e56 : ∀ x, N 56 x = tx x := fun x => by rw [hF 56 x (by unfold itf drf; omega)]; exact hx x
      have hba := hb a
      have fail : okN tx n (p + 1) w k' = false → S 189 [some (vR 55), some (vI p), some (vI (tx p)), some (vI w), some (vI 1), some (vI ((k' + 1 : Nat) : Int))] [Sum.inl 0] (sh0, 0, 0) N := by
        intro h
        refine wpx_ok hS bk107 (sp := sp107) 60 189 _ _ _ _ ?_
        simp only [LCM, B2, Bool.not_eq_false, Bool.not_eq_true, decide_eq_true_eq, decide_eq_false_iff_not, Int.not_lt, Int.not_le, CST, TN, WX, WA, WB, GS, LOC, BT107, SP107, CLS, FLD, ARR, CD, true_and, and_true, and_self, forall_const, true_implies, false_implies, implies_true, not_true_eq_false, not_false_eq_true, if_true, if_false, rgI, rgL, scr, swl, lkl, cats, cat, is2, List.drop_succ_cons, List.drop_zero, List.drop_nil, List.cons_append, List.nil_append, Option.toList_some, Option.toList_none, List.length_cons, List.length_nil, ne_eq, Classical.not_not, reduceCtorEq, Nat.reduceAdd, Nat.reduceSub, Nat.reduceMul, Nat.reduceLT, Nat.reduceLeDiff, Nat.reduceEqDiff, Nat.reduceBEq, Int.reduceToNat, Int.reduceLE, Int.reduceLT, Int.reduceEq, Int.reduceNeg, Int.reduceAdd, Int.reduceSub, Int.reduceMul, Int.toNat_natCast, Nat.zero_add, Int.add_zero, Nat.add_zero, ite_true, ite_false, Option.some.injEq, Nat.le_refl, or_true, true_or, or_false, false_or, if_pos, reduceIte, Nat.reduceGT, ms_ne, ms_eq, ms_nj]
        exact no _ (lexno k' (by omega) h) (f2 N _ hF)
      have good : okN tx n (p + 1) w k' = true → S 189 [some (vR 55), some (vI p), some (vI (tx p)), some (vI w), some (vI 1), some (vI ((k' + 1 : Nat) : Int))] [Sum.inl 1] (sh0, 0, 0) N := by
        intro h
        have hl : ∀ j, j < w → okN tx n (p + 1) w j = true := fun j hj => by
          by_cases hjk : j = k'
          · rw [hjk]; exact h
          · exact hO j (by omega)
        have hit : itm tx n D p = (tk D (tx p) p (fun k => nvl tx n (pls tx n (p + 1) k))).map (fun D' => (D', pls tx n (p + 1) w)) := by
          unfold itm
          rw [hwd, if_pos ⟨by omega, lexB_iff.mpr hl⟩]
        have hDM2 : DM (mset N 55 2 ((a : Int) + 1)) D := hDM.keep (fun k j hk => by
          unfold drf at hk
          unfold mset
          rw [if_neg (by omega)])
        refine wpx_ok hS bk107 (sp := sp107) 60 189 _ _ _ _ ?_
        simp only [LCM, B2, Bool.not_eq_false, Bool.not_eq_true, decide_eq_true_eq, decide_eq_false_iff_not, Int.not_lt, Int.not_le, CST, TN, WX, WA, WB, GS, LOC, BT107, SP107, CLS, FLD, ARR, CD, true_and, and_true, and_self, forall_const, true_implies, false_implies, implies_true, not_true_eq_false, not_false_eq_true, if_true, if_false, rgI, rgL, scr, swl, lkl, cats, cat, is2, List.drop_succ_cons, List.drop_zero, List.drop_nil, List.cons_append, List.nil_append, Option.toList_some, Option.toList_none, List.length_cons, List.length_nil, ne_eq, Classical.not_not, reduceCtorEq, Nat.reduceAdd, Nat.reduceSub, Nat.reduceMul, Nat.reduceLT, Nat.reduceLeDiff, Nat.reduceEqDiff, Nat.reduceBEq, Int.reduceToNat, Int.reduceLE, Int.reduceLT, Int.reduceEq, Int.reduceNeg, Int.reduceAdd, Int.reduceSub, Int.reduceMul, Int.toNat_natCast, Nat.zero_add, Int.add_zero, Nat.add_zero, ite_true, ite_false, Option.some.injEq, Nat.le_refl, or_true, true_or, or_false, false_or, if_pos, reduceIte, Nat.reduceGT, ms_ne, ms_eq, ms_nj]
        rw [h2]
        refine ⟨rcv_ok rfl own108 rfl, kQ (m_isGood (tx p) p (fun k => nvl tx n (pls tx n (p + 1) k)) (mset N 55 2 ((a : Int) + 1)) D hd hDM2 (by omega) (fun x hx2 => ⟨by rw [ms_ne (by decide)]; exact hV x (by omega), nvl_rg (okN_iff.mp (hl x (by omega))).1⟩)) (Nat.le_of_ble_eq_true rfl) rfl rfl (Nat.le_of_ble_eq_true rfl) (Nat.le_of_ble_eq_true rfl) rfl ?_⟩
        rintro r N1 ⟨rfl, hg, hF1⟩
        have hF2 : ∀ k j, ¬ itf k j → N1 k j = M k j := fun k j hk => by
          rw [hF1 k j (fun z => hk (Or.inl z))]; exact f2 N _ hF k j hk
        have e2 : N1 55 2 = (a : Int) + 1 := by rw [hF1 55 2 (by unfold drf; omega), ms_eq]
        show S 212 _ [Sum.inl _] _ N1
        cases htk : tk D (tx p) p (fun k => nvl tx n (pls tx n (p + 1) k)) with
        | none =>
          rw [htk] at hit
          simp only [Option.isSome_none]
          refine wpx_ok hS bk107 (sp := sp107) 60 212 _ _ _ _ ?_
          simp only [LCM, B2, Bool.not_eq_false, Bool.not_eq_true, decide_eq_true_eq, decide_eq_false_iff_not, Int.not_lt, Int.not_le, CST, TN, WX, WA, WB, GS, LOC, BT107, SP107, CLS, FLD, ARR, CD, true_and, and_true, and_self, forall_const, true_implies, false_implies, implies_true, not_true_eq_false, not_false_eq_true, if_true, if_false, rgI, rgL, scr, swl, lkl, cats, cat, is2, List.drop_succ_cons, List.drop_zero, List.drop_nil, List.cons_append, List.nil_append, Option.toList_some, Option.toList_none, List.length_cons, List.length_nil, ne_eq, Classical.not_not, reduceCtorEq, Nat.reduceAdd, Nat.reduceSub, Nat.reduceMul, Nat.reduceLT, Nat.reduceLeDiff, Nat.reduceEqDiff, Nat.reduceBEq, Int.reduceToNat, Int.reduceLE, Int.reduceLT, Int.reduceEq, Int.reduceNeg, Int.reduceAdd, Int.reduceSub, Int.reduceMul, Int.toNat_natCast, Nat.zero_add, Int.add_zero, Nat.add_zero, ite_true, ite_false, Option.some.injEq, Nat.le_refl, or_true, true_or, or_false, false_or, if_pos, reduceIte, Nat.reduceGT, ms_ne, ms_eq, ms_nj]
          exact no _ hit hF2
        | some E =>
          rw [htk] at hit
          simp only [Option.isSome_some]
          refine wpx_ok hS bk107 (sp := sp107) 60 212 _ _ _ _ ?_
          simp only [LCM, B2, Bool.not_eq_false, Bool.not_eq_true, decide_eq_true_eq, decide_eq_false_iff_not, Int.not_lt, Int.not_le, CST, TN, WX, WA, WB, GS, LOC, BT107, SP107, CLS, FLD, ARR, CD, true_and, and_true, and_self, forall_const, true_implies, false_implies, implies_true, not_true_eq_false, not_false_eq_true, if_true, if_false, rgI, rgL, scr, swl, lkl, cats, cat, is2, List.drop_succ_cons, List.drop_zero, List.drop_nil, List.cons_append, List.nil_append, Option.toList_some, Option.toList_none, List.length_cons, List.length_nil, ne_eq, Classical.not_not, reduceCtorEq, Nat.reduceAdd, Nat.reduceSub, Nat.reduceMul, Nat.reduceLT, Nat.reduceLeDiff, Nat.reduceEqDiff, Nat.reduceBEq, Int.reduceToNat, Int.reduceLE, Int.reduceLT, Int.reduceEq, Int.reduceNeg, Int.reduceAdd, Int.reduceSub, Int.reduceMul, Int.toNat_natCast, Nat.zero_add, Int.add_zero, Nat.add_zero, ite_true, ite_false, Option.some.injEq, Nat.le_refl, or_true, true_or, or_false, false_or, if_pos, reduceIte, Nat.reduceGT, ms_ne, ms_eq, ms_nj]
          refine rt107 (by decide) ⟨rfl, by rw [hit]; rfl, fun D' q z => ?_, hF2⟩
          rw [hit] at z
          simp only [Option.map_some, Option.some.injEq, Prod.mk.injEq] at z
          obtain ⟨rfl, rfl⟩ := z
          refine ⟨hg _ htk, ?_⟩
          rw [e2, ← hkw, pls]
          omega
      refine wpx_ok hS bk107 (sp := (fun t => sp107 t || t == 189)) 60 44 _ _ _ _ ?_
      simp only [LCM, B2, Bool.not_eq_false, Bool.not_eq_true, decide_eq_true_eq, decide_eq_false_iff_not, Int.not_lt, Int.not_le, CST, TN, WX, WA, WB, GS, LOC, BT107, SP107, CLS, FLD, ARR, CD, true_and, and_true, and_self, forall_const, true_implies, false_implies, implies_true, not_true_eq_false, not_false_eq_true, if_true, if_false, rgI, rgL, scr, swl, lkl, cats, cat, is2, List.drop_succ_cons, List.drop_zero, List.drop_nil, List.cons_append, List.nil_append, Option.toList_some, Option.toList_none, List.length_cons, List.length_nil, ne_eq, Classical.not_not, reduceCtorEq, Nat.reduceAdd, Nat.reduceSub, Nat.reduceMul, Nat.reduceLT, Nat.reduceLeDiff, Nat.reduceEqDiff, Nat.reduceBEq, Int.reduceToNat, Int.reduceLE, Int.reduceLT, Int.reduceEq, Int.reduceNeg, Int.reduceAdd, Int.reduceSub, Int.reduceMul, Int.toNat_natCast, Nat.zero_add, Int.add_zero, Nat.add_zero, ite_true, ite_false, Option.some.injEq, Nat.le_refl, or_true, true_or, or_false, false_or, if_pos, reduceIte, Nat.reduceGT, Bool.or_false, Bool.false_or, Bool.or_true, Bool.true_or, beq_self_eq_true, Nat.reduceBEq]
      rw [h2, e0]
      simp only [Int.toNat_natCast, e56]
      refine ⟨by omega, fun _ => ⟨by omega, fun h1 => fail ?_, fun h1 => ⟨by omega, by omega, fun h3 => fail ?_, fun h3 => good ?_⟩⟩, fun h => by omega⟩
      · cases ho : okN tx n (p + 1) w k' with
        | false => rfl
        | true => have := (okN_iff.mp ho).2.1; omega
      · cases ho : okN tx n (p + 1) w k' with
        | false => rfl
        | true => have := (okN_iff.mp ho).2.2; rw [← hae, hmk] at this; exact absurd this h3
      · exact okN_iff.mpr ⟨hfg, by omega, by rw [← hae, hmk]; exact h3⟩
    | succ m ih =>
      intro k a N hk hw0 hF hDM h2 hk0 hk1 han hD hO hV
      have e0 : ∀ N : MM, (∀ k j, ¬ itf k j → N k j = M k j) → N 55 0 = n := fun N hF => by rw [hF 55 0 (by unfold itf drf; omega)]; exact hn
      have e56 : ∀ N : MM, (∀ k j, ¬ itf k j → N k j = M k j) → ∀ x, N 56 x = tx x := fun N hF x => by rw [hF 56 x (by unfold itf drf; omega)]; exact hx x
      have hba := hb a
      have dm2 : ∀ (N : MM) (b : Int), DM N D → DM (mset N 55 2 b) D := fun N b h => h.keep (fun k j hk => by
        unfold drf at hk
        unfold mset
        rw [if_neg (by omega)])
      have dm78 : ∀ (N : MM) (x : Nat) (b : Int), DM N D → DM (mset N 78 x b) D := fun N x b h => h.keep (fun k j hk => by
        unfold drf at hk
        unfold mset
        rw [if_neg (by omega)])
      have at126 : ∀ (q : Nat) (N1 : MM), (∀ k j, ¬ itf k j → N1 k j = M k j) → DM N1 D → N1 55 2 = (q : Int) → q ≤ n → (okD tx n (pls tx n (p + 1) k) = true → q = pls tx n (p + 1) k + nln tx n (pls tx n (p + 1) k)) → (∀ j, j < k → N1 78 j = nvl tx n (pls tx n (p + 1) j)) → (∀ j, j < k → okN tx n (p + 1) w j = true) →
          S 126 [some (vR 55), some (vI p), some (vI (tx p)), some (vI w), some (vI 1), some (vI k)] [Sum.inl (if okD tx n (pls tx n (p + 1) k) then nvl tx n (pls tx n (p + 1) k) else -1), Sum.inl (k : Int), Sum.inr (Sum.inr 78)] (sh0, 0, 0) N1 := by
        intro q N1 hF1 hDM1 hq hqn hqo hV1 hO1
        cases ho : okD tx n (pls tx n (p + 1) k) with
        | true =>
          have hfg : fig tx n (pls tx n (p + 1) k) = true := by
            unfold okD at ho
            rw [Bool.and_eq_true] at ho
            exact ho.1
          have hvr := nvl_rg hfg
          simp only [if_true]
          refine wpx_ok hS bk107 (sp := sp107) 60 126 _ _ _ _ ?_
          simp only [LCM, B2, Bool.not_eq_false, Bool.not_eq_true, decide_eq_true_eq, decide_eq_false_iff_not, Int.not_lt, Int.not_le, CST, TN, WX, WA, WB, GS, LOC, BT107, SP107, CLS, FLD, ARR, CD, true_and, and_true, and_self, forall_const, true_implies, false_implies, implies_true, not_true_eq_false, not_false_eq_true, if_true, if_false, rgI, rgL, scr, swl, lkl, cats, cat, is2, List.drop_succ_cons, List.drop_zero, List.drop_nil, List.cons_append, List.nil_append, Option.toList_some, Option.toList_none, List.length_cons, List.length_nil, ne_eq, Classical.not_not, reduceCtorEq, Nat.reduceAdd, Nat.reduceSub, Nat.reduceMul, Nat.reduceLT, Nat.reduceLeDiff, Nat.reduceEqDiff, Nat.reduceBEq, Int.reduceToNat, Int.reduceLE, Int.reduceLT, Int.reduceEq, Int.reduceNeg, Int.reduceAdd, Int.reduceSub, Int.reduceMul, Int.toNat_natCast, Nat.zero_add, Int.add_zero, Nat.add_zero, ite_true, ite_false, Option.some.injEq, Nat.le_refl, or_true, true_or, or_false, false_or, if_pos, reduceIte, Nat.reduceGT, ms_ne, ms_eq, ms_nj]
          refine ⟨by omega, by omega, by omega, fun h => by omega, fun h => ?_⟩
          refine ih (k + 1) q _ (by omega) hw0 (f78 N1 _ _ hF1) (dm78 N1 _ _ hDM1) (by rw [ms_ne (by decide)]; exact hq) (fun z => by omega) (fun _ => by rw [pls, hqo ho]) hqn (fun j hj => ?_) (fun j hj => hO1 j (by omega)) (fun j hj => ?_)
          · by_cases hjk : j = k
            · rw [hjk]; exact ho
            · exact hD j (by omega)
          · by_cases hjk : j = k
            · subst hjk; rw [ms_eq]
            · rw [ms_nj hjk]; exact hV1 j (by omega)
        | false =>
          simp only [Bool.false_eq_true, if_false]
          refine wpx_ok hS bk107 (sp := sp107) 60 126 _ _ _ _ ?_
          simp only [LCM, B2, Bool.not_eq_false, Bool.not_eq_true, decide_eq_true_eq, decide_eq_false_iff_not, Int.not_lt, Int.not_le, CST, TN, WX, WA, WB, GS, LOC, BT107, SP107, CLS, FLD, ARR, CD, true_and, and_true, and_self, forall_const, true_implies, false_implies, implies_true, not_true_eq_false, not_false_eq_true, if_true, if_false, rgI, rgL, scr, swl, lkl, cats, cat, is2, List.drop_succ_cons, List.drop_zero, List.drop_nil, List.cons_append, List.nil_append, Option.toList_some, Option.toList_none, List.length_cons, List.length_nil, ne_eq, Classical.not_not, reduceCtorEq, Nat.reduceAdd, Nat.reduceSub, Nat.reduceMul, Nat.reduceLT, Nat.reduceLeDiff, Nat.reduceEqDiff, Nat.reduceBEq, Int.reduceToNat, Int.reduceLE, Int.reduceLT, Int.reduceEq, Int.reduceNeg, Int.reduceAdd, Int.reduceSub, Int.reduceMul, Int.toNat_natCast, Nat.zero_add, Int.add_zero, Nat.add_zero, ite_true, ite_false, Option.some.injEq, Nat.le_refl, or_true, true_or, or_false, false_or, if_pos, reduceIte, Nat.reduceGT, ms_ne, ms_eq, ms_nj]
          refine ⟨by omega, by omega, ?_⟩
          refine dead (k + 1) _ (by omega) (lexno k (by omega) ?_) (f78 N1 _ _ hF1)
          cases hok : okN tx n (p + 1) w k with
          | false => rfl
          | true => rw [okN_okD hok] at ho; cases ho
      have at90 : ∀ (b : Nat), b = pls tx n (p + 1) k → (k = 0 → b = a) → (0 < k → b = a + 1) → b ≤ n → (∀ j, j < k → okN tx n (p + 1) w j = true) → S 90 [some (vR 55), some (vI p), some (vI (tx p)), some (vI w), some (vI 1), some (vI k)] [Sum.inl 1] (sh0, 0, 0) N := by
        intro b hbP hb0 hb1 hbn hO1
        refine wpx_ok hS bk107 (sp := sp107) 60 90 _ _ _ _ ?_
        simp only [LCM, B2, Bool.not_eq_false, Bool.not_eq_true, decide_eq_true_eq, decide_eq_false_iff_not, Int.not_lt, Int.not_le, CST, TN, WX, WA, WB, GS, LOC, BT107, SP107, CLS, FLD, ARR, CD, true_and, and_true, and_self, forall_const, true_implies, false_implies, implies_true, not_true_eq_false, not_false_eq_true, if_true, if_false, rgI, rgL, scr, swl, lkl, cats, cat, is2, List.drop_succ_cons, List.drop_zero, List.drop_nil, List.cons_append, List.nil_append, Option.toList_some, Option.toList_none, List.length_cons, List.length_nil, ne_eq, Classical.not_not, reduceCtorEq, Nat.reduceAdd, Nat.reduceSub, Nat.reduceMul, Nat.reduceLT, Nat.reduceLeDiff, Nat.reduceEqDiff, Nat.reduceBEq, Int.reduceToNat, Int.reduceLE, Int.reduceLT, Int.reduceEq, Int.reduceNeg, Int.reduceAdd, Int.reduceSub, Int.reduceMul, Int.toNat_natCast, Nat.zero_add, Int.add_zero, Nat.add_zero, ite_true, ite_false, Option.some.injEq, Nat.le_refl, or_true, true_or, or_false, false_or, if_pos, reduceIte, Nat.reduceGT, ms_ne, ms_eq, ms_nj]
        rw [h2]
        refine ⟨by omega, fun h => ?_, fun h => ?_⟩
        · have hab : (a : Int) + 1 = (b : Int) := by have := hb1 (by omega); omega
          rw [hab]
          refine ⟨rcv_ok rfl own105 rfl, kQ (m_number tx n b (mset N 55 2 (b : Int)) hn4 hb (e0 _ (f2 N _ hF)) (e56 _ (f2 N _ hF)) ms_eq hbn) (Nat.le_of_ble_eq_true rfl) rfl rfl (Nat.le_of_ble_eq_true rfl) (Nat.le_of_ble_eq_true rfl) rfl ?_⟩
          rintro r N1 ⟨q, hq1, hq2, hq3, rfl, rfl⟩
          rw [hbP] at hq3 ⊢
          exact at126 q _ (f2 _ _ (f2 N _ hF)) (dm2 _ _ (dm2 _ _ hDM)) ms_eq hq2 hq3 (fun j hj => by rw [ms_ne (by decide), ms_ne (by decide)]; exact hV j hj) hO1
        · have hab : (a : Int) = (b : Int) := by have := hb0 (by omega); omega
          rw [hab]
          refine ⟨rcv_ok rfl own105 rfl, kQ (m_number tx n b (mset N 55 2 (b : Int)) hn4 hb (e0 _ (f2 N _ hF)) (e56 _ (f2 N _ hF)) ms_eq hbn) (Nat.le_of_ble_eq_true rfl) rfl rfl (Nat.le_of_ble_eq_true rfl) (Nat.le_of_ble_eq_true rfl) rfl ?_⟩
          rintro r N1 ⟨q, hq1, hq2, hq3, rfl, rfl⟩
          rw [hbP] at hq3 ⊢
          exact at126 q _ (f2 _ _ (f2 N _ hF)) (dm2 _ _ (dm2 _ _ hDM)) ms_eq hq2 hq3 (fun j hj => by rw [ms_ne (by decide), ms_ne (by decide)]; exact hV j hj) hO1
      have at90n : 0 < k → itm tx n D p = none → S 90 [some (vR 55), some (vI p), some (vI (tx p)), some (vI w), some (vI 1), some (vI k)] [Sum.inl 0] (sh0, 0, 0) N := by
        intro hk0' hi
        have hF2 := f78 _ k (-1) (f2 N ((a : Int) + 1) hF)
        have hz : (k : Int) ≠ 0 := by omega
        refine wpx_ok hS bk107 (sp := sp107) 60 90 _ _ _ _ ?_
        simp only [LCM, B2, Bool.not_eq_false, Bool.not_eq_true, decide_eq_true_eq, decide_eq_false_iff_not, Int.not_lt, Int.not_le, CST, TN, WX, WA, WB, GS, LOC, BT107, SP107, CLS, FLD, ARR, CD, true_and, and_true, and_self, forall_const, true_implies, false_implies, implies_true, not_true_eq_false, not_false_eq_true, if_true, if_false, rgI, rgL, scr, swl, lkl, cats, cat, is2, List.drop_succ_cons, List.drop_zero, List.drop_nil, List.cons_append, List.nil_append, Option.toList_some, Option.toList_none, List.length_cons, List.length_nil, ne_eq, Classical.not_not, reduceCtorEq, Nat.reduceAdd, Nat.reduceSub, Nat.reduceMul, Nat.reduceLT, Nat.reduceLeDiff, Nat.reduceEqDiff, Nat.reduceBEq, Int.reduceToNat, Int.reduceLE, Int.reduceLT, Int.reduceEq, Int.reduceNeg, Int.reduceAdd, Int.reduceSub, Int.reduceMul, Int.toNat_natCast, Nat.zero_add, Int.add_zero, Nat.add_zero, ite_true, ite_false, Option.some.injEq, Nat.le_refl, or_true, true_or, or_false, false_or, if_pos, reduceIte, Nat.reduceGT, ms_ne, ms_eq, ms_nj]
        rw [h2]
        refine ⟨by omega, fun h => ⟨by omega, by omega, ?_⟩, fun h => absurd h hz⟩
        exact dead (k + 1) _ (by omega) hi hF2
      have prev : 0 < k → ∃ k', k = k' + 1 ∧ a = pls tx n (p + 1) k' + nln tx n (pls tx n (p + 1) k') ∧ fig tx n (pls tx n (p + 1) k') = true ∧ mkk w k' = 44 := by
        intro hk0'
        obtain ⟨k', rfl⟩ : ∃ k', k = k' + 1 := ⟨k - 1, by omega⟩
        have ha := hk1 (by omega)
        rw [pls] at ha
        refine ⟨k', rfl, by omega, ?_, by unfold mkk; rw [if_pos (by omega)]⟩
        have := hD k' (by omega)
        unfold okD at this
        rw [Bool.and_eq_true] at this
        exact this.1
      refine wpx_ok hS bk107 (sp := (fun t => sp107 t || t == 90)) 60 44 _ _ _ _ ?_
      simp only [LCM, B2, Bool.not_eq_false, Bool.not_eq_true, decide_eq_true_eq, decide_eq_false_iff_not, Int.not_lt, Int.not_le, CST, TN, WX, WA, WB, GS, LOC, BT107, SP107, CLS, FLD, ARR, CD, true_and, and_true, and_self, forall_const, true_implies, false_implies, implies_true, not_true_eq_false, not_false_eq_true, if_true, if_false, rgI, rgL, scr, swl, lkl, cats, cat, is2, List.drop_succ_cons, List.drop_zero, List.drop_nil, List.cons_append, List.nil_append, Option.toList_some, Option.toList_none, List.length_cons, List.length_nil, ne_eq, Classical.not_not, reduceCtorEq, Nat.reduceAdd, Nat.reduceSub, Nat.reduceMul, Nat.reduceLT, Nat.reduceLeDiff, Nat.reduceEqDiff, Nat.reduceBEq, Int.reduceToNat, Int.reduceLE, Int.reduceLT, Int.reduceEq, Int.reduceNeg, Int.reduceAdd, Int.reduceSub, Int.reduceMul, Int.toNat_natCast, Nat.zero_add, Int.add_zero, Nat.add_zero, ite_true, ite_false, Option.some.injEq, Nat.le_refl, or_true, true_or, or_false, false_or, if_pos, reduceIte, Nat.reduceGT, Bool.or_false, Bool.false_or, Bool.or_true, Bool.true_or, beq_self_eq_true, Nat.reduceBEq]
      rw [h2, e0 N hF]
      simp only [Int.toNat_natCast, e56 N hF]
      refine ⟨by omega, fun h => by omega, fun h => ⟨by omega, fun h1 => ?_, fun h1 => ⟨by omega, fun h3 => ?_, fun h3 => ⟨by omega, by omega, fun h4 => ?_, fun h4 => ?_⟩⟩⟩⟩
      · have hk00 : k = 0 := by omega
        refine at90 a ?_ (fun _ => rfl) (fun z => by omega) han (fun j hj => by omega)
        rw [hk00, pls]
        exact hk0 hk00
      · obtain ⟨k', e1, e2, e3, e4⟩ := prev (by omega)
        refine at90n (by omega) (lexno k' (by omega) ?_)
        cases ho : okN tx n (p + 1) w k' with
        | false => rfl
        | true => have := (okN_iff.mp ho).2.1; omega
      · obtain ⟨k', e1, e2, e3, e4⟩ := prev (by omega)
        refine at90n (by omega) (lexno k' (by omega) ?_)
        cases ho : okN tx n (p + 1) w k' with
        | false => rfl
        | true => have := (okN_iff.mp ho).2.2; rw [← e2, e4] at this; exact absurd this h4
      · obtain ⟨k', e1, e2, e3, e4⟩ := prev (by omega)
        refine at90 (a + 1) (hk1 (by omega)) (fun z => by omega) (fun _ => rfl) (by omega) (fun j hj => ?_)
        by_cases hjk : j = k'
        · rw [hjk]; exact okN_iff.mpr ⟨e3, by omega, by rw [← e2, e4]; exact h4⟩
        · exact hO j (by omega)
  refine wpx_ok hS bk107 (sp := sp107) 60 0 _ _ _ _ ?_
  simp only [LCM, B2, Bool.not_eq_false, Bool.not_eq_true, decide_eq_true_eq, decide_eq_false_iff_not, Int.not_lt, Int.not_le, CST, TN, WX, WA, WB, GS, LOC, BT107, SP107, CLS, FLD, ARR, CD, true_and, and_true, and_self, forall_const, true_implies, false_implies, implies_true, not_true_eq_false, not_false_eq_true, if_true, if_false, rgI, rgL, scr, swl, lkl, cats, cat, is2, List.drop_succ_cons, List.drop_zero, List.drop_nil, List.cons_append, List.nil_append, Option.toList_some, Option.toList_none, List.length_cons, List.length_nil, ne_eq, Classical.not_not, reduceCtorEq, Nat.reduceAdd, Nat.reduceSub, Nat.reduceMul, Nat.reduceLT, Nat.reduceLeDiff, Nat.reduceEqDiff, Nat.reduceBEq, Int.reduceToNat, Int.reduceLE, Int.reduceLT, Int.reduceEq, Int.reduceNeg, Int.reduceAdd, Int.reduceSub, Int.reduceMul, Int.toNat_natCast, Nat.zero_add, Int.add_zero, Nat.add_zero, ite_true, ite_false, Option.some.injEq, Nat.le_refl, or_true, true_or, or_false, false_or, if_pos, reduceIte, Nat.reduceGT, ms_ne, ms_eq, ms_nj]
  rw [hp]
  simp only [Int.toNat_natCast, hx]
  refine ⟨by omega, ?_⟩
  refine kI (m_parts (tx p) _ (by unfold rgI; omega)) (Nat.le_of_ble_eq_true rfl) rfl rfl (Nat.le_of_ble_eq_true rfl) (Nat.le_of_ble_eq_true rfl) rfl ?_
  rw [hwd]
  have hF1 := f2 M ((p : Int) + 1) (fun _ _ _ => rfl)
  refine wpx_ok hS bk107 (sp := sp107) 60 29 _ _ _ _ ?_
  simp only [LCM, B2, Bool.not_eq_false, Bool.not_eq_true, decide_eq_true_eq, decide_eq_false_iff_not, Int.not_lt, Int.not_le, CST, TN, WX, WA, WB, GS, LOC, BT107, SP107, CLS, FLD, ARR, CD, true_and, and_true, and_self, forall_const, true_implies, false_implies, implies_true, not_true_eq_false, not_false_eq_true, if_true, if_false, rgI, rgL, scr, swl, lkl, cats, cat, is2, List.drop_succ_cons, List.drop_zero, List.drop_nil, List.cons_append, List.nil_append, Option.toList_some, Option.toList_none, List.length_cons, List.length_nil, ne_eq, Classical.not_not, reduceCtorEq, Nat.reduceAdd, Nat.reduceSub, Nat.reduceMul, Nat.reduceLT, Nat.reduceLeDiff, Nat.reduceEqDiff, Nat.reduceBEq, Int.reduceToNat, Int.reduceLE, Int.reduceLT, Int.reduceEq, Int.reduceNeg, Int.reduceAdd, Int.reduceSub, Int.reduceMul, Int.toNat_natCast, Nat.zero_add, Int.add_zero, Nat.add_zero, ite_true, ite_false, Option.some.injEq, Nat.le_refl, or_true, true_or, or_false, false_or, if_pos, reduceIte, Nat.reduceGT, ms_ne, ms_eq, ms_nj]
  refine ⟨by omega, fun h => ?_, fun h => ?_⟩
  · refine dead 0 _ (by omega) ?_ hF1
    unfold itm
    rw [hwd, if_neg (fun z => z.1 (by omega))]
  · refine alive w 0 (p + 1) _ (by omega) (by omega) hF1 (hm.keep (fun k j hk => ?_)) ?_ (fun _ => rfl) (fun z => by omega) (by omega) (fun j hj => by omega) (fun j hj => by omega) (fun j hj => by omega)
    · unfold drf at hk
      unfold mset
      rw [if_neg (by omega)]
    · rw [ms_eq]; omega

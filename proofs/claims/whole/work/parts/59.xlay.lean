/-! the component's reader, whole -/
theorem x_take5 (l : Int) (p : Nat) (v : Nat → Int) (M D : MM) (hd : WFd D) (hR : RD5 M D) (hP : RP M D) (hl : prt l ≠ 0) (hv : ∀ k, k < prt l → M 3 k = v k ∧ 0 ≤ v k ∧ v k ≤ 99) : oQ 3 12 [vR 2, vI l, vI p, vR 5, vR 13] M (tkX5 M (tk D l p v)) := by
  refine go12 (fun S hS => ?_)
  rcases prt_cases hl with ⟨h1, h2⟩ | ⟨h1, h2⟩ | ⟨h1, h2⟩ | ⟨h1, h2⟩ | ⟨h1, h2⟩ <;> rw [h2] at hv <;> subst h1
  · have ht : tk D 119 p v = tkW D v := by unfold tk; rw [if_pos rfl]
    refine wpx_ok hS bk12 (sp := sp12) 60 0 _ _ _ _ ?_
    simp only [LCM, B2, Bool.not_eq_false, Bool.not_eq_true, decide_eq_true_eq, decide_eq_false_iff_not, Int.not_lt, Int.not_le, CST, TN, WX, WA, WB, GS, LOC, BT12, SP12, CLS, FLD, ARR, CD, true_and, and_true, and_self, forall_const, true_implies, false_implies, implies_true, not_true_eq_false, not_false_eq_true, if_true, if_false, rgI, rgL, scr, swl, lkl, cats, cat, is2, List.drop_succ_cons, List.drop_zero, List.drop_nil, List.cons_append, List.nil_append, Option.toList_some, Option.toList_none, List.length_cons, List.length_nil, ne_eq, Classical.not_not, reduceCtorEq, Nat.reduceAdd, Nat.reduceSub, Nat.reduceMul, Nat.reduceLT, Nat.reduceLeDiff, Nat.reduceEqDiff, Nat.reduceBEq, Int.reduceToNat, Int.reduceLE, Int.reduceLT, Int.reduceEq, Int.reduceNeg, Int.reduceAdd, Int.reduceSub, Int.reduceMul, Int.toNat_natCast, Nat.zero_add, Int.add_zero, Nat.add_zero, ite_true, ite_false, Option.some.injEq, Nat.le_refl, or_true, true_or, or_false, false_or, if_pos, reduceIte, Nat.reduceGT]
    refine ⟨rcv_ok rfl own13 rfl, kQ (x_takeWeeks5 v M D hR hP hv) (Nat.le_of_ble_eq_true rfl) rfl rfl (Nat.le_of_ble_eq_true rfl) (Nat.le_of_ble_eq_true rfl) rfl ?_⟩
    rintro r N ⟨rfl, h3, h4⟩
    show S 57 _ [Sum.inl _] _ N
    refine wpx_ok hS bk12 (sp := sp12) 60 57 _ _ _ _ ?_
    simp only [LCM, B2, Bool.not_eq_false, Bool.not_eq_true, decide_eq_true_eq, decide_eq_false_iff_not, Int.not_lt, Int.not_le, CST, TN, WX, WA, WB, GS, LOC, BT12, SP12, CLS, FLD, ARR, CD, true_and, and_true, and_self, forall_const, true_implies, false_implies, implies_true, not_true_eq_false, not_false_eq_true, if_true, if_false, rgI, rgL, scr, swl, lkl, cats, cat, is2, List.drop_succ_cons, List.drop_zero, List.drop_nil, List.cons_append, List.nil_append, Option.toList_some, Option.toList_none, List.length_cons, List.length_nil, ne_eq, Classical.not_not, reduceCtorEq, Nat.reduceAdd, Nat.reduceSub, Nat.reduceMul, Nat.reduceLT, Nat.reduceLeDiff, Nat.reduceEqDiff, Nat.reduceBEq, Int.reduceToNat, Int.reduceLE, Int.reduceLT, Int.reduceEq, Int.reduceNeg, Int.reduceAdd, Int.reduceSub, Int.reduceMul, Int.toNat_natCast, Nat.zero_add, Int.add_zero, Nat.add_zero, ite_true, ite_false, Option.some.injEq, Nat.le_refl, or_true, true_or, or_false, false_or, if_pos, reduceIte, Nat.reduceGT]
    exact rt12 (b2i_01 _) ⟨rfl, by rw [ht], by rw [ht]; exact h3, h4⟩
  · have ht : tk D 104 p v = tkH D p v := by unfold tk; rw [if_neg (by decide), if_pos rfl]
    refine wpx_ok hS bk12 (sp := sp12) 60 0 _ _ _ _ ?_
    simp only [LCM, B2, Bool.not_eq_false, Bool.not_eq_true, decide_eq_true_eq, decide_eq_false_iff_not, Int.not_lt, Int.not_le, CST, TN, WX, WA, WB, GS, LOC, BT12, SP12, CLS, FLD, ARR, CD, true_and, and_true, and_self, forall_const, true_implies, false_implies, implies_true, not_true_eq_false, not_false_eq_true, if_true, if_false, rgI, rgL, scr, swl, lkl, cats, cat, is2, List.drop_succ_cons, List.drop_zero, List.drop_nil, List.cons_append, List.nil_append, Option.toList_some, Option.toList_none, List.length_cons, List.length_nil, ne_eq, Classical.not_not, reduceCtorEq, Nat.reduceAdd, Nat.reduceSub, Nat.reduceMul, Nat.reduceLT, Nat.reduceLeDiff, Nat.reduceEqDiff, Nat.reduceBEq, Int.reduceToNat, Int.reduceLE, Int.reduceLT, Int.reduceEq, Int.reduceNeg, Int.reduceAdd, Int.reduceSub, Int.reduceMul, Int.toNat_natCast, Nat.zero_add, Int.add_zero, Nat.add_zero, ite_true, ite_false, Option.some.injEq, Nat.le_refl, or_true, true_or, or_false, false_or, if_pos, reduceIte, Nat.reduceGT]
    refine ⟨rcv_ok rfl own15 rfl, kQ (x_takeHouse5 p v M D hd hR hP hv) (Nat.le_of_ble_eq_true rfl) rfl rfl (Nat.le_of_ble_eq_true rfl) (Nat.le_of_ble_eq_true rfl) rfl ?_⟩
    rintro r N ⟨rfl, h3, h4⟩
    show S 66 _ [Sum.inl _] _ N
    refine wpx_ok hS bk12 (sp := sp12) 60 66 _ _ _ _ ?_
    simp only [LCM, B2, Bool.not_eq_false, Bool.not_eq_true, decide_eq_true_eq, decide_eq_false_iff_not, Int.not_lt, Int.not_le, CST, TN, WX, WA, WB, GS, LOC, BT12, SP12, CLS, FLD, ARR, CD, true_and, and_true, and_self, forall_const, true_implies, false_implies, implies_true, not_true_eq_false, not_false_eq_true, if_true, if_false, rgI, rgL, scr, swl, lkl, cats, cat, is2, List.drop_succ_cons, List.drop_zero, List.drop_nil, List.cons_append, List.nil_append, Option.toList_some, Option.toList_none, List.length_cons, List.length_nil, ne_eq, Classical.not_not, reduceCtorEq, Nat.reduceAdd, Nat.reduceSub, Nat.reduceMul, Nat.reduceLT, Nat.reduceLeDiff, Nat.reduceEqDiff, Nat.reduceBEq, Int.reduceToNat, Int.reduceLE, Int.reduceLT, Int.reduceEq, Int.reduceNeg, Int.reduceAdd, Int.reduceSub, Int.reduceMul, Int.toNat_natCast, Nat.zero_add, Int.add_zero, Nat.add_zero, ite_true, ite_false, Option.some.injEq, Nat.le_refl, or_true, true_or, or_false, false_or, if_pos, reduceIte, Nat.reduceGT]
    exact rt12 (b2i_01 _) ⟨rfl, by rw [ht], by rw [ht]; exact h3, h4⟩
  · have ht : tk D 109 p v = tkM D v := by unfold tk; rw [if_neg (by decide), if_neg (by decide), if_pos rfl]
    refine wpx_ok hS bk12 (sp := sp12) 60 0 _ _ _ _ ?_
    simp only [LCM, B2, Bool.not_eq_false, Bool.not_eq_true, decide_eq_true_eq, decide_eq_false_iff_not, Int.not_lt, Int.not_le, CST, TN, WX, WA, WB, GS, LOC, BT12, SP12, CLS, FLD, ARR, CD, true_and, and_true, and_self, forall_const, true_implies, false_implies, implies_true, not_true_eq_false, not_false_eq_true, if_true, if_false, rgI, rgL, scr, swl, lkl, cats, cat, is2, List.drop_succ_cons, List.drop_zero, List.drop_nil, List.cons_append, List.nil_append, Option.toList_some, Option.toList_none, List.length_cons, List.length_nil, ne_eq, Classical.not_not, reduceCtorEq, Nat.reduceAdd, Nat.reduceSub, Nat.reduceMul, Nat.reduceLT, Nat.reduceLeDiff, Nat.reduceEqDiff, Nat.reduceBEq, Int.reduceToNat, Int.reduceLE, Int.reduceLT, Int.reduceEq, Int.reduceNeg, Int.reduceAdd, Int.reduceSub, Int.reduceMul, Int.toNat_natCast, Nat.zero_add, Int.add_zero, Nat.add_zero, ite_true, ite_false, Option.some.injEq, Nat.le_refl, or_true, true_or, or_false, false_or, if_pos, reduceIte, Nat.reduceGT]
    refine ⟨rcv_ok rfl own17 rfl, kQ (x_takeWork5 v M D hd hR hP hv) (Nat.le_of_ble_eq_true rfl) rfl rfl (Nat.le_of_ble_eq_true rfl) (Nat.le_of_ble_eq_true rfl) rfl ?_⟩
    rintro r N ⟨rfl, h3, h4⟩
    show S 80 _ [Sum.inl _] _ N
    refine wpx_ok hS bk12 (sp := sp12) 60 80 _ _ _ _ ?_
    simp only [LCM, B2, Bool.not_eq_false, Bool.not_eq_true, decide_eq_true_eq, decide_eq_false_iff_not, Int.not_lt, Int.not_le, CST, TN, WX, WA, WB, GS, LOC, BT12, SP12, CLS, FLD, ARR, CD, true_and, and_true, and_self, forall_const, true_implies, false_implies, implies_true, not_true_eq_false, not_false_eq_true, if_true, if_false, rgI, rgL, scr, swl, lkl, cats, cat, is2, List.drop_succ_cons, List.drop_zero, List.drop_nil, List.cons_append, List.nil_append, Option.toList_some, Option.toList_none, List.length_cons, List.length_nil, ne_eq, Classical.not_not, reduceCtorEq, Nat.reduceAdd, Nat.reduceSub, Nat.reduceMul, Nat.reduceLT, Nat.reduceLeDiff, Nat.reduceEqDiff, Nat.reduceBEq, Int.reduceToNat, Int.reduceLE, Int.reduceLT, Int.reduceEq, Int.reduceNeg, Int.reduceAdd, Int.reduceSub, Int.reduceMul, Int.toNat_natCast, Nat.zero_add, Int.add_zero, Nat.add_zero, ite_true, ite_false, Option.some.injEq, Nat.le_refl, or_true, true_or, or_false, false_or, if_pos, reduceIte, Nat.reduceGT]
    exact rt12 (b2i_01 _) ⟨rfl, by rw [ht], by rw [ht]; exact h3, h4⟩
  · have ht : tk D 99 p v = tkC D v := by unfold tk; rw [if_neg (by decide), if_neg (by decide), if_neg (by decide), if_pos rfl]
    refine wpx_ok hS bk12 (sp := sp12) 60 0 _ _ _ _ ?_
    simp only [LCM, B2, Bool.not_eq_false, Bool.not_eq_true, decide_eq_true_eq, decide_eq_false_iff_not, Int.not_lt, Int.not_le, CST, TN, WX, WA, WB, GS, LOC, BT12, SP12, CLS, FLD, ARR, CD, true_and, and_true, and_self, forall_const, true_implies, false_implies, implies_true, not_true_eq_false, not_false_eq_true, if_true, if_false, rgI, rgL, scr, swl, lkl, cats, cat, is2, List.drop_succ_cons, List.drop_zero, List.drop_nil, List.cons_append, List.nil_append, Option.toList_some, Option.toList_none, List.length_cons, List.length_nil, ne_eq, Classical.not_not, reduceCtorEq, Nat.reduceAdd, Nat.reduceSub, Nat.reduceMul, Nat.reduceLT, Nat.reduceLeDiff, Nat.reduceEqDiff, Nat.reduceBEq, Int.reduceToNat, Int.reduceLE, Int.reduceLT, Int.reduceEq, Int.reduceNeg, Int.reduceAdd, Int.reduceSub, Int.reduceMul, Int.toNat_natCast, Nat.zero_add, Int.add_zero, Nat.add_zero, ite_true, ite_false, Option.some.injEq, Nat.le_refl, or_true, true_or, or_false, false_or, if_pos, reduceIte, Nat.reduceGT]
    refine ⟨rcv_ok rfl own18 rfl, kQ (x_takeCook5 v M D hd hR hP hv) (Nat.le_of_ble_eq_true rfl) rfl rfl (Nat.le_of_ble_eq_true rfl) (Nat.le_of_ble_eq_true rfl) rfl ?_⟩
    rintro r N ⟨rfl, h3, h4⟩
    show S 86 _ [Sum.inl _] _ N
    refine wpx_ok hS bk12 (sp := sp12) 60 86 _ _ _ _ ?_
    simp only [LCM, B2, Bool.not_eq_false, Bool.not_eq_true, decide_eq_true_eq, decide_eq_false_iff_not, Int.not_lt, Int.not_le, CST, TN, WX, WA, WB, GS, LOC, BT12, SP12, CLS, FLD, ARR, CD, true_and, and_true, and_self, forall_const, true_implies, false_implies, implies_true, not_true_eq_false, not_false_eq_true, if_true, if_false, rgI, rgL, scr, swl, lkl, cats, cat, is2, List.drop_succ_cons, List.drop_zero, List.drop_nil, List.cons_append, List.nil_append, Option.toList_some, Option.toList_none, List.length_cons, List.length_nil, ne_eq, Classical.not_not, reduceCtorEq, Nat.reduceAdd, Nat.reduceSub, Nat.reduceMul, Nat.reduceLT, Nat.reduceLeDiff, Nat.reduceEqDiff, Nat.reduceBEq, Int.reduceToNat, Int.reduceLE, Int.reduceLT, Int.reduceEq, Int.reduceNeg, Int.reduceAdd, Int.reduceSub, Int.reduceMul, Int.toNat_natCast, Nat.zero_add, Int.add_zero, Nat.add_zero, ite_true, ite_false, Option.some.injEq, Nat.le_refl, or_true, true_or, or_false, false_or, if_pos, reduceIte, Nat.reduceGT]
    exact rt12 (b2i_01 _) ⟨rfl, by rw [ht], by rw [ht]; exact h3, h4⟩
  · have ht : tk D 110 p v = tkN D v := by unfold tk; rw [if_neg (by decide), if_neg (by decide), if_neg (by decide), if_neg (by decide), if_pos rfl]
    refine wpx_ok hS bk12 (sp := sp12) 60 0 _ _ _ _ ?_
    simp only [LCM, B2, Bool.not_eq_false, Bool.not_eq_true, decide_eq_true_eq, decide_eq_false_iff_not, Int.not_lt, Int.not_le, CST, TN, WX, WA, WB, GS, LOC, BT12, SP12, CLS, FLD, ARR, CD, true_and, and_true, and_self, forall_const, true_implies, false_implies, implies_true, not_true_eq_false, not_false_eq_true, if_true, if_false, rgI, rgL, scr, swl, lkl, cats, cat, is2, List.drop_succ_cons, List.drop_zero, List.drop_nil, List.cons_append, List.nil_append, Option.toList_some, Option.toList_none, List.length_cons, List.length_nil, ne_eq, Classical.not_not, reduceCtorEq, Nat.reduceAdd, Nat.reduceSub, Nat.reduceMul, Nat.reduceLT, Nat.reduceLeDiff, Nat.reduceEqDiff, Nat.reduceBEq, Int.reduceToNat, Int.reduceLE, Int.reduceLT, Int.reduceEq, Int.reduceNeg, Int.reduceAdd, Int.reduceSub, Int.reduceMul, Int.toNat_natCast, Nat.zero_add, Int.add_zero, Nat.add_zero, ite_true, ite_false, Option.some.injEq, Nat.le_refl, or_true, true_or, or_false, false_or, if_pos, reduceIte, Nat.reduceGT]
    refine ⟨rcv_ok rfl own16 rfl, kQ (x_takeNew5 v M D hd hR hP hv) (Nat.le_of_ble_eq_true rfl) rfl rfl (Nat.le_of_ble_eq_true rfl) (Nat.le_of_ble_eq_true rfl) rfl ?_⟩
    rintro r N ⟨rfl, h3, h4⟩
    show S 74 _ [Sum.inl _] _ N
    refine wpx_ok hS bk12 (sp := sp12) 60 74 _ _ _ _ ?_
    simp only [LCM, B2, Bool.not_eq_false, Bool.not_eq_true, decide_eq_true_eq, decide_eq_false_iff_not, Int.not_lt, Int.not_le, CST, TN, WX, WA, WB, GS, LOC, BT12, SP12, CLS, FLD, ARR, CD, true_and, and_true, and_self, forall_const, true_implies, false_implies, implies_true, not_true_eq_false, not_false_eq_true, if_true, if_false, rgI, rgL, scr, swl, lkl, cats, cat, is2, List.drop_succ_cons, List.drop_zero, List.drop_nil, List.cons_append, List.nil_append, Option.toList_some, Option.toList_none, List.length_cons, List.length_nil, ne_eq, Classical.not_not, reduceCtorEq, Nat.reduceAdd, Nat.reduceSub, Nat.reduceMul, Nat.reduceLT, Nat.reduceLeDiff, Nat.reduceEqDiff, Nat.reduceBEq, Int.reduceToNat, Int.reduceLE, Int.reduceLT, Int.reduceEq, Int.reduceNeg, Int.reduceAdd, Int.reduceSub, Int.reduceMul, Int.toNat_natCast, Nat.zero_add, Int.add_zero, Nat.add_zero, ite_true, ite_false, Option.some.injEq, Nat.le_refl, or_true, true_or, or_false, false_or, if_pos, reduceIte, Nat.reduceGT]
    exact rt12 (b2i_01 _) ⟨rfl, by rw [ht], by rw [ht]; exact h3, h4⟩
theorem x_wrong5 (M D : MM) (hd : WFd D) (hR : RD5 M D) (hP : RP M D) : oI 1 19 [vR 2, vR 5, vR 13] M (endF D) := by
  have hH := hd.H
  have hww := hd.1
  refine go19 (fun S hS => ?_)
  have head : ∀ (m i : Nat), i + m = hN D → (∀ x, x < i → wrg D x = false) → S 2 [some (vR 2), some (vR 5), some (vR 13), some (vI i)] [] (sh0, 0, 0) M := by
    intro m
    induction m with
    | zero =>
      intro i hi hlo
      refine wpx_ok hS bk19 (sp := sp19) 60 2 _ _ _ _ ?_
      simp only [LCM, B2, Bool.not_eq_false, Bool.not_eq_true, decide_eq_true_eq, decide_eq_false_iff_not, Int.not_lt, Int.not_le, CST, TN, WX, WA, WB, GS, LOC, BT19, SP19, CLS, FLD, ARR, CD, true_and, and_true, and_self, forall_const, true_implies, false_implies, implies_true, not_true_eq_false, not_false_eq_true, if_true, if_false, rgI, rgL, scr, swl, lkl, cats, cat, is2, List.drop_succ_cons, List.drop_zero, List.drop_nil, List.cons_append, List.nil_append, Option.toList_some, Option.toList_none, List.length_cons, List.length_nil, ne_eq, Classical.not_not, reduceCtorEq, Nat.reduceAdd, Nat.reduceSub, Nat.reduceMul, Nat.reduceLT, Nat.reduceLeDiff, Nat.reduceEqDiff, Nat.reduceBEq, Int.reduceToNat, Int.reduceLE, Int.reduceLT, Int.reduceEq, Int.reduceNeg, Int.reduceAdd, Int.reduceSub, Int.reduceMul, Int.toNat_natCast, Nat.zero_add, Int.add_zero, Nat.add_zero, ite_true, ite_false, Option.some.injEq, Nat.le_refl, or_true, true_or, or_false, false_or, if_pos, reduceIte, Nat.reduceGT]
      rw [hR.1.2.2.1, ← hH.1]
      refine ⟨by omega, fun _ => rt19 ⟨rfl, ?_, rfl⟩, fun h => by omega⟩
      unfold endF
      rw [fstF_none.mpr (fun x _ hx2 => hlo x (by omega))]
    | succ m ih =>
      intro i hi hlo
      have hh := hd.2.1 i (by omega)
      have he := hR.2.2.2.2.1 i (by omega)
      have wk : ∀ w : Int, w = 0 ∨ w = 1 → M 6 w.toNat = D 57 w.toNat ∧ 2 ≤ D 57 w.toNat ∧ D 57 w.toNat ≤ 12 := by
        intro w hw
        rcases hw with rfl | rfl
        · exact ⟨hR.1.1, hww.1⟩
        · exact ⟨hR.1.2.1, hww.2.1⟩
      have hw2 := wk _ hh.1
      refine wpx_ok hS bk19 (sp := sp19) 60 2 _ _ _ _ ?_
      simp only [LCM, B2, Bool.not_eq_false, Bool.not_eq_true, decide_eq_true_eq, decide_eq_false_iff_not, Int.not_lt, Int.not_le, CST, TN, WX, WA, WB, GS, LOC, BT19, SP19, CLS, FLD, ARR, CD, true_and, and_true, and_self, forall_const, true_implies, false_implies, implies_true, not_true_eq_false, not_false_eq_true, if_true, if_false, rgI, rgL, scr, swl, lkl, cats, cat, is2, List.drop_succ_cons, List.drop_zero, List.drop_nil, List.cons_append, List.nil_append, Option.toList_some, Option.toList_none, List.length_cons, List.length_nil, ne_eq, Classical.not_not, reduceCtorEq, Nat.reduceAdd, Nat.reduceSub, Nat.reduceMul, Nat.reduceLT, Nat.reduceLeDiff, Nat.reduceEqDiff, Nat.reduceBEq, Int.reduceToNat, Int.reduceLE, Int.reduceLT, Int.reduceEq, Int.reduceNeg, Int.reduceAdd, Int.reduceSub, Int.reduceMul, Int.toNat_natCast, Nat.zero_add, Int.add_zero, Nat.add_zero, ite_true, ite_false, Option.some.injEq, Nat.le_refl, or_true, true_or, or_false, false_or, if_pos, reduceIte, Nat.reduceGT]
      rw [hR.1.2.2.1, ← hH.1, he.1, he.2, hw2.1, hP i (by omega)]
      refine ⟨by omega, fun h => by omega, fun h => ⟨by omega, by omega, by omega, by omega, fun h1 => ?_, fun h1 => ⟨by omega, ?_⟩⟩⟩
      · refine ih (i + 1) (by omega) (fun x hx2 => ?_)
        by_cases hxi : x = i
        · rw [hxi]; unfold wrg; exact decide_eq_false (by omega)
        · exact hlo x (by omega)
      · refine rt19 ⟨rfl, ?_, rfl⟩
        unfold endF
        rw [fstF_some.mpr ⟨Nat.zero_le i, by omega, by unfold wrg; exact decide_eq_true h1, fun x _ hx2 => hlo x hx2⟩]
  have := head (hN D) 0 (by omega) (fun x hx2 => by omega)
  refine wpx_ok hS bk19 (sp := sp19) 60 0 _ _ _ _ ?_
  simp only [LCM, B2, Bool.not_eq_false, Bool.not_eq_true, decide_eq_true_eq, decide_eq_false_iff_not, Int.not_lt, Int.not_le, CST, TN, WX, WA, WB, GS, LOC, BT19, SP19, CLS, FLD, ARR, CD, true_and, and_true, and_self, forall_const, true_implies, false_implies, implies_true, not_true_eq_false, not_false_eq_true, if_true, if_false, rgI, rgL, scr, swl, lkl, cats, cat, is2, List.drop_succ_cons, List.drop_zero, List.drop_nil, List.cons_append, List.nil_append, Option.toList_some, Option.toList_none, List.length_cons, List.length_nil, ne_eq, Classical.not_not, reduceCtorEq, Nat.reduceAdd, Nat.reduceSub, Nat.reduceMul, Nat.reduceLT, Nat.reduceLeDiff, Nat.reduceEqDiff, Nat.reduceBEq, Int.reduceToNat, Int.reduceLE, Int.reduceLT, Int.reduceEq, Int.reduceNeg, Int.reduceAdd, Int.reduceSub, Int.reduceMul, Int.toNat_natCast, Nat.zero_add, Int.add_zero, Nat.add_zero, ite_true, ite_false, Option.some.injEq, Nat.le_refl, or_true, true_or, or_false, false_or, if_pos, reduceIte, Nat.reduceGT]
  exact this
def rdP5 (M : MM) (Q : MM × Option Nat) : Option AV → MM → Prop := fun r M' => r = some (Sum.inl (resF Q)) ∧ (Q.2 = none → RD5 M' Q.1) ∧ (∀ k j, ¬ pfr5 k j → M' k j = M k j) ∧ M' 13 3 = 0
theorem x_read5 (tx : Nat → Int) (n : Nat) (M : MM) (hn4 : n ≤ 400) (hb : ∀ k, -128 ≤ tx k ∧ tx k ≤ 127) (hx : ∀ k, k < n → M 1 k = tx k) : oQ 4 8 [vR 2, vR 1, vI n, vR 5, vR 13] M (rdP5 M (prs tx n n D0 0)) := by
  generalize hQ : prs tx n n D0 0 = Q
  refine go8 (fun S hS => ?_)
  have tail : ∀ (D : MM) (N : MM) (p it : Nat) (o : Option AV), Q = (D, none) → WFd D → RD5 N D → RP N D → (∀ k j, ¬ pfr5 k j → N k j = M k j) → N 13 3 = 0 → n ≤ p → p ≤ 1000 → it ≤ p → S 15 [some (vR 2), some (vR 1), some (vI n), some (vR 5), some (vR 13), some (vI p), some (vI it), o] [] (sh0, 0, 0) N := by
    intro D N p it o hQD hd hR hP hF h3 hpn hp1 hit
    have at80 : S 80 [some (vR 2), some (vR 1), some (vI n), some (vR 5), some (vR 13), some (vI p), some (vI it), o] [Sum.inl (endF D)] (sh0, 0, 0) N := by
      refine wpx_ok hS bk8 (sp := sp8) 60 80 _ _ _ _ ?_
      simp only [LCM, B2, Bool.not_eq_false, Bool.not_eq_true, decide_eq_true_eq, decide_eq_false_iff_not, Int.not_lt, Int.not_le, CST, TN, WX, WA, WB, GS, LOC, BT8, SP8, CLS, FLD, ARR, CD, true_and, and_true, and_self, forall_const, true_implies, false_implies, implies_true, not_true_eq_false, not_false_eq_true, if_true, if_false, rgI, rgL, scr, swl, lkl, cats, cat, is2, List.drop_succ_cons, List.drop_zero, List.drop_nil, List.cons_append, List.nil_append, Option.toList_some, Option.toList_none, List.length_cons, List.length_nil, ne_eq, Classical.not_not, reduceCtorEq, Nat.reduceAdd, Nat.reduceSub, Nat.reduceMul, Nat.reduceLT, Nat.reduceLeDiff, Nat.reduceEqDiff, Nat.reduceBEq, Int.reduceToNat, Int.reduceLE, Int.reduceLT, Int.reduceEq, Int.reduceNeg, Int.reduceAdd, Int.reduceSub, Int.reduceMul, Int.toNat_natCast, Nat.zero_add, Int.add_zero, Nat.add_zero, ite_true, ite_false, Option.some.injEq, Nat.le_refl, or_true, true_or, or_false, false_or, if_pos, reduceIte, Nat.reduceGT]
      refine rt8 ⟨rfl, ?_, fun _ => by rw [hQD]; exact hR, hF, h3⟩
      rw [hQD]; rfl
    refine wpx_ok hS bk8 (sp := sp8) 60 15 _ _ _ _ ?_
    simp only [LCM, B2, Bool.not_eq_false, Bool.not_eq_true, decide_eq_true_eq, decide_eq_false_iff_not, Int.not_lt, Int.not_le, CST, TN, WX, WA, WB, GS, LOC, BT8, SP8, CLS, FLD, ARR, CD, true_and, and_true, and_self, forall_const, true_implies, false_implies, implies_true, not_true_eq_false, not_false_eq_true, if_true, if_false, rgI, rgL, scr, swl, lkl, cats, cat, is2, List.drop_succ_cons, List.drop_zero, List.drop_nil, List.cons_append, List.nil_append, Option.toList_some, Option.toList_none, List.length_cons, List.length_nil, ne_eq, Classical.not_not, reduceCtorEq, Nat.reduceAdd, Nat.reduceSub, Nat.reduceMul, Nat.reduceLT, Nat.reduceLeDiff, Nat.reduceEqDiff, Nat.reduceBEq, Int.reduceToNat, Int.reduceLE, Int.reduceLT, Int.reduceEq, Int.reduceNeg, Int.reduceAdd, Int.reduceSub, Int.reduceMul, Int.toNat_natCast, Nat.zero_add, Int.add_zero, Nat.add_zero, ite_true, ite_false, Option.some.injEq, Nat.le_refl, or_true, true_or, or_false, false_or, if_pos, reduceIte, Nat.reduceGT]
    refine ⟨by omega, fun _ => ?_, fun _ => ⟨by omega, fun _ => ?_, fun h => by omega⟩⟩
    · refine ⟨rcv_ok rfl own19 rfl, kI (x_wrong5 N D hd hR hP) (Nat.le_of_ble_eq_true rfl) rfl rfl (Nat.le_of_ble_eq_true rfl) (Nat.le_of_ble_eq_true rfl) rfl ?_⟩
      exact at80
    · refine ⟨rcv_ok rfl own19 rfl, kI (x_wrong5 N D hd hR hP) (Nat.le_of_ble_eq_true rfl) rfl rfl (Nat.le_of_ble_eq_true rfl) (Nat.le_of_ble_eq_true rfl) rfl ?_⟩
      exact at80
  have head : ∀ (f : Nat) (D : MM) (p it : Nat) (N : MM) (o : Option AV), n ≤ p + f → p ≤ n → it ≤ p → WFd D → RD5 N D → RP N D → (∀ k j, ¬ pfr5 k j → N k j = M k j) → N 13 3 = 0 → prs tx n f D p = Q → S 15 [some (vR 2), some (vR 1), some (vI n), some (vR 5), some (vR 13), some (vI p), some (vI it), o] [] (sh0, 0, 0) N := by
    intro f
    induction f with
    | zero =>
      intro D p it N o hpf hpn hit hd hR hP hF h3 hpr
      exact tail D N p it o hpr.symm hd hR hP hF h3 (by omega) (by omega) hit
    | succ f ih =>
      intro D p it N o hpf hpn hit hd hR hP hF h3 hpr
      by_cases hp : p < n
      · rw [prs, if_pos hp] at hpr
        have hxN : ∀ k, k < n → N 1 k = tx k := fun k hk => by rw [hF 1 k (by unfold pfr5; omega)]; exact hx k hk
        have hbp := hb p
        refine wpx_ok hS bk8 (sp := sp8) 60 15 _ _ _ _ ?_
        simp only [LCM, B2, Bool.not_eq_false, Bool.not_eq_true, decide_eq_true_eq, decide_eq_false_iff_not, Int.not_lt, Int.not_le, CST, TN, WX, WA, WB, GS, LOC, BT8, SP8, CLS, FLD, ARR, CD, true_and, and_true, and_self, forall_const, true_implies, false_implies, implies_true, not_true_eq_false, not_false_eq_true, if_true, if_false, rgI, rgL, scr, swl, lkl, cats, cat, is2, List.drop_succ_cons, List.drop_zero, List.drop_nil, List.cons_append, List.nil_append, Option.toList_some, Option.toList_none, List.length_cons, List.length_nil, ne_eq, Classical.not_not, reduceCtorEq, Nat.reduceAdd, Nat.reduceSub, Nat.reduceMul, Nat.reduceLT, Nat.reduceLeDiff, Nat.reduceEqDiff, Nat.reduceBEq, Int.reduceToNat, Int.reduceLE, Int.reduceLT, Int.reduceEq, Int.reduceNeg, Int.reduceAdd, Int.reduceSub, Int.reduceMul, Int.toNat_natCast, Nat.zero_add, Int.add_zero, Nat.add_zero, ite_true, ite_false, Option.some.injEq, Nat.le_refl, or_true, true_or, or_false, false_or, if_pos, reduceIte, Nat.reduceGT]
        refine ⟨by omega, fun h => by omega, fun _ => ⟨by omega, fun h => by omega, fun _ => ?_⟩⟩
        refine ⟨rcv_ok rfl own9 rfl, kQ (x_readNumbers tx n p N hn4 hb hxN hp) (Nat.le_of_ble_eq_true rfl) rfl rfl (Nat.le_of_ble_eq_true rfl) (Nat.le_of_ble_eq_true rfl) rfl ?_⟩
        rintro r N1 ⟨rfl, hV, hF1⟩
        have hF2 : ∀ k j, ¬ pfr5 k j → N1 k j = M k j := fun k j hk => by rw [hF1 k j (fun z => hk (by unfold pfr5; omega))]; exact hF k j hk
        have hR1 : RD5 N1 D := hR.keep (fun k j hk => hF1 k j (by omega))
        have hP1 : RP N1 D := fun i hi => by rw [hF1 4 i (by decide)]; exact hP i hi
        have h31 : N1 13 3 = 0 := by rw [hF1 13 3 (by decide)]; exact h3
        have fail : itm tx n D p = none → ∀ N2 : MM, (∀ k j, ¬ pfr5 k j → N2 k j = M k j) → N2 13 3 = 0 → Rtn 8 0 0 (fun r sh M' => sh = sh0 ∧ rdP5 M Q r M') (some (Sum.inl (p : Int))) (sh0, 0, 0) N2 := by
          intro hi N2 hFN h32
          rw [hi] at hpr
          refine rt8 ⟨rfl, ?_, fun z => ?_, hFN, h32⟩
          · rw [← hpr]; rfl
          · rw [← hpr] at z; cases z
        show S 35 _ [Sum.inl _] _ N1
        cases hlx : lxB tx n p with
        | false =>
          have hi : itm tx n D p = none := by
            unfold itm
            unfold lxB at hlx
            rw [if_neg (fun z => ?_)]
            rw [decide_eq_true z.1, z.2] at hlx
            cases hlx
          simp only [Bool.false_eq_true, if_false]
          refine wpx_ok hS bk8 (sp := sp8) 60 35 _ _ _ _ ?_
          simp only [LCM, B2, Bool.not_eq_false, Bool.not_eq_true, decide_eq_true_eq, decide_eq_false_iff_not, Int.not_lt, Int.not_le, CST, TN, WX, WA, WB, GS, LOC, BT8, SP8, CLS, FLD, ARR, CD, true_and, and_true, and_self, forall_const, true_implies, false_implies, implies_true, not_true_eq_false, not_false_eq_true, if_true, if_false, rgI, rgL, scr, swl, lkl, cats, cat, is2, List.drop_succ_cons, List.drop_zero, List.drop_nil, List.cons_append, List.nil_append, Option.toList_some, Option.toList_none, List.length_cons, List.length_nil, ne_eq, Classical.not_not, reduceCtorEq, Nat.reduceAdd, Nat.reduceSub, Nat.reduceMul, Nat.reduceLT, Nat.reduceLeDiff, Nat.reduceEqDiff, Nat.reduceBEq, Int.reduceToNat, Int.reduceLE, Int.reduceLT, Int.reduceEq, Int.reduceNeg, Int.reduceAdd, Int.reduceSub, Int.reduceMul, Int.toNat_natCast, Nat.zero_add, Int.add_zero, Nat.add_zero, ite_true, ite_false, Option.some.injEq, Nat.le_refl, or_true, true_or, or_false, false_or, if_pos, reduceIte, Nat.reduceGT]
          exact fail hi N1 hF2 h31
        | true =>
          have hlx2 : prt (tx p) ≠ 0 ∧ lexB tx n (p + 1) (prt (tx p)) = true := by
            unfold lxB at hlx
            rw [Bool.and_eq_true, decide_eq_true_iff] at hlx
            exact hlx
          have hit2 : itm tx n D p = (tk D (tx p) p (fun k => nvl tx n (pls tx n (p + 1) k))).map (fun D' => (D', pls tx n (p + 1) (prt (tx p)))) := by
            unfold itm
            rw [if_pos hlx2]
          have hpl := pls_le (tx := tx) (n := n) (p := p + 1) (w := prt (tx p)) (by omega) (lexB_iff.mp hlx2.2)
          have e1 : N1 1 p = tx p := by rw [hF1 1 p (by decide)]; exact hxN p hp
          generalize hbe : pls tx n (p + 1) (prt (tx p)) = be at hit2 hpl ⊢
          simp only [if_true]
          refine wpx_ok hS bk8 (sp := sp8) 60 35 _ _ _ _ ?_
          simp only [LCM, B2, Bool.not_eq_false, Bool.not_eq_true, decide_eq_true_eq, decide_eq_false_iff_not, Int.not_lt, Int.not_le, CST, TN, WX, WA, WB, GS, LOC, BT8, SP8, CLS, FLD, ARR, CD, true_and, and_true, and_self, forall_const, true_implies, false_implies, implies_true, not_true_eq_false, not_false_eq_true, if_true, if_false, rgI, rgL, scr, swl, lkl, cats, cat, is2, List.drop_succ_cons, List.drop_zero, List.drop_nil, List.cons_append, List.nil_append, Option.toList_some, Option.toList_none, List.length_cons, List.length_nil, ne_eq, Classical.not_not, reduceCtorEq, Nat.reduceAdd, Nat.reduceSub, Nat.reduceMul, Nat.reduceLT, Nat.reduceLeDiff, Nat.reduceEqDiff, Nat.reduceBEq, Int.reduceToNat, Int.reduceLE, Int.reduceLT, Int.reduceEq, Int.reduceNeg, Int.reduceAdd, Int.reduceSub, Int.reduceMul, Int.toNat_natCast, Nat.zero_add, Int.add_zero, Nat.add_zero, ite_true, ite_false, Option.some.injEq, Nat.le_refl, or_true, true_or, or_false, false_or, if_pos, reduceIte, Nat.reduceGT]
          rw [e1]
          refine ⟨by omega, by omega, ?_⟩
          refine ⟨rcv_ok rfl own12 rfl, kQ (x_take5 (tx p) p (fun k => nvl tx n (pls tx n (p + 1) k)) N1 D hd hR1 hP1 hlx2.1 (fun k hk => ⟨hV hlx k hk, nvl_rg (okN_iff.mp (lexB_iff.mp hlx2.2 k hk)).1⟩)) (Nat.le_of_ble_eq_true rfl) rfl rfl (Nat.le_of_ble_eq_true rfl) (Nat.le_of_ble_eq_true rfl) rfl ?_⟩
          rintro r N2 ⟨rfl, hD2, hF3, h32⟩
          have hF4 : ∀ k j, ¬ pfr5 k j → N2 k j = M k j := fun k j hk => by rw [hF3 k j hk]; exact hF2 k j hk
          have h33 : N2 13 3 = 0 := h32.trans h31
          show S 57 _ [Sum.inl _] _ N2
          cases htk : tk D (tx p) p (fun k => nvl tx n (pls tx n (p + 1) k)) with
          | none =>
            rw [htk] at hit2
            simp only [Option.isSome_none]
            refine wpx_ok hS bk8 (sp := sp8) 60 57 _ _ _ _ ?_
            simp only [LCM, B2, Bool.not_eq_false, Bool.not_eq_true, decide_eq_true_eq, decide_eq_false_iff_not, Int.not_lt, Int.not_le, CST, TN, WX, WA, WB, GS, LOC, BT8, SP8, CLS, FLD, ARR, CD, true_and, and_true, and_self, forall_const, true_implies, false_implies, implies_true, not_true_eq_false, not_false_eq_true, if_true, if_false, rgI, rgL, scr, swl, lkl, cats, cat, is2, List.drop_succ_cons, List.drop_zero, List.drop_nil, List.cons_append, List.nil_append, Option.toList_some, Option.toList_none, List.length_cons, List.length_nil, ne_eq, Classical.not_not, reduceCtorEq, Nat.reduceAdd, Nat.reduceSub, Nat.reduceMul, Nat.reduceLT, Nat.reduceLeDiff, Nat.reduceEqDiff, Nat.reduceBEq, Int.reduceToNat, Int.reduceLE, Int.reduceLT, Int.reduceEq, Int.reduceNeg, Int.reduceAdd, Int.reduceSub, Int.reduceMul, Int.toNat_natCast, Nat.zero_add, Int.add_zero, Nat.add_zero, ite_true, ite_false, Option.some.injEq, Nat.le_refl, or_true, true_or, or_false, false_or, if_pos, reduceIte, Nat.reduceGT]
            exact fail hit2 N2 hF4 h33
          | some E =>
            rw [htk] at hit2
            have hi : itm tx n D p = some (E, be) := hit2
            have ho := itm_ok hd hn4 hp hi
            rw [hi] at hpr
            simp only [Option.isSome_some]
            have := ih E be (it + 1) N2 (some (vI be)) (by omega) ho.2.2 (by omega) ho.1 (hD2 E htk).1 (hD2 E htk).2 hF4 h33 hpr
            refine wpx_ok hS bk8 (sp := sp8) 60 57 _ _ _ _ ?_
            simp only [LCM, B2, Bool.not_eq_false, Bool.not_eq_true, decide_eq_true_eq, decide_eq_false_iff_not, Int.not_lt, Int.not_le, CST, TN, WX, WA, WB, GS, LOC, BT8, SP8, CLS, FLD, ARR, CD, true_and, and_true, and_self, forall_const, true_implies, false_implies, implies_true, not_true_eq_false, not_false_eq_true, if_true, if_false, rgI, rgL, scr, swl, lkl, cats, cat, is2, List.drop_succ_cons, List.drop_zero, List.drop_nil, List.cons_append, List.nil_append, Option.toList_some, Option.toList_none, List.length_cons, List.length_nil, ne_eq, Classical.not_not, reduceCtorEq, Nat.reduceAdd, Nat.reduceSub, Nat.reduceMul, Nat.reduceLT, Nat.reduceLeDiff, Nat.reduceEqDiff, Nat.reduceBEq, Int.reduceToNat, Int.reduceLE, Int.reduceLT, Int.reduceEq, Int.reduceNeg, Int.reduceAdd, Int.reduceSub, Int.reduceMul, Int.toNat_natCast, Nat.zero_add, Int.add_zero, Nat.add_zero, ite_true, ite_false, Option.some.injEq, Nat.le_refl, or_true, true_or, or_false, false_or, if_pos, reduceIte, Nat.reduceGT]
            exact this
      · rw [prs, if_neg hp] at hpr
        exact tail D N p it o hpr.symm hd hR hP hF h3 (by omega) (by omega) hit
  refine wpx_ok hS bk8 (sp := sp8) 60 0 _ _ _ _ ?_
  simp only [LCM, B2, Bool.not_eq_false, Bool.not_eq_true, decide_eq_true_eq, decide_eq_false_iff_not, Int.not_lt, Int.not_le, CST, TN, WX, WA, WB, GS, LOC, BT8, SP8, CLS, FLD, ARR, CD, true_and, and_true, and_self, forall_const, true_implies, false_implies, implies_true, not_true_eq_false, not_false_eq_true, if_true, if_false, rgI, rgL, scr, swl, lkl, cats, cat, is2, List.drop_succ_cons, List.drop_zero, List.drop_nil, List.cons_append, List.nil_append, Option.toList_some, Option.toList_none, List.length_cons, List.length_nil, ne_eq, Classical.not_not, reduceCtorEq, Nat.reduceAdd, Nat.reduceSub, Nat.reduceMul, Nat.reduceLT, Nat.reduceLeDiff, Nat.reduceEqDiff, Nat.reduceBEq, Int.reduceToNat, Int.reduceLE, Int.reduceLT, Int.reduceEq, Int.reduceNeg, Int.reduceAdd, Int.reduceSub, Int.reduceMul, Int.toNat_natCast, Nat.zero_add, Int.add_zero, Nat.add_zero, ite_true, ite_false, Option.some.injEq, Nat.le_refl, or_true, true_or, or_false, false_or, if_pos, reduceIte, Nat.reduceGT]
  refine ⟨rcv_ok rfl own28 rfl, kQ (x_tbegin5 M) (Nat.le_of_ble_eq_true rfl) rfl rfl (Nat.le_of_ble_eq_true rfl) (Nat.le_of_ble_eq_true rfl) rfl ?_⟩
  rintro r N ⟨rfl, h1, h2, h3⟩
  show S 4 _ [] _ N
  refine wpx_ok hS bk8 (sp := sp8) 60 4 _ _ _ _ ?_
  simp only [LCM, B2, Bool.not_eq_false, Bool.not_eq_true, decide_eq_true_eq, decide_eq_false_iff_not, Int.not_lt, Int.not_le, CST, TN, WX, WA, WB, GS, LOC, BT8, SP8, CLS, FLD, ARR, CD, true_and, and_true, and_self, forall_const, true_implies, false_implies, implies_true, not_true_eq_false, not_false_eq_true, if_true, if_false, rgI, rgL, scr, swl, lkl, cats, cat, is2, List.drop_succ_cons, List.drop_zero, List.drop_nil, List.cons_append, List.nil_append, Option.toList_some, Option.toList_none, List.length_cons, List.length_nil, ne_eq, Classical.not_not, reduceCtorEq, Nat.reduceAdd, Nat.reduceSub, Nat.reduceMul, Nat.reduceLT, Nat.reduceLeDiff, Nat.reduceEqDiff, Nat.reduceBEq, Int.reduceToNat, Int.reduceLE, Int.reduceLT, Int.reduceEq, Int.reduceNeg, Int.reduceAdd, Int.reduceSub, Int.reduceMul, Int.toNat_natCast, Nat.zero_add, Int.add_zero, Nat.add_zero, ite_true, ite_false, Option.some.injEq, Nat.le_refl, or_true, true_or, or_false, false_or, if_pos, reduceIte, Nat.reduceGT]
  refine ⟨rcv_ok rfl own1 rfl, kV (x_bbegin5 N) (Nat.le_of_ble_eq_true rfl) rfl rfl (Nat.le_of_ble_eq_true rfl) (Nat.le_of_ble_eq_true rfl) rfl ?_⟩
  have h0 := head n D0 0 0 (mset (mset N 13 2 0) 13 3 0) none (by omega) (by omega) (by omega) WFd_0 (RD5.begin ⟨h1, h2⟩ rfl) (fun i hi => absurd hi (by unfold hN D0; simp)) (fun k j hk => ?_) ms_eq hQ
  · refine wpx_ok hS bk8 (sp := sp8) 60 9 _ _ _ _ ?_
    simp only [LCM, B2, Bool.not_eq_false, Bool.not_eq_true, decide_eq_true_eq, decide_eq_false_iff_not, Int.not_lt, Int.not_le, CST, TN, WX, WA, WB, GS, LOC, BT8, SP8, CLS, FLD, ARR, CD, true_and, and_true, and_self, forall_const, true_implies, false_implies, implies_true, not_true_eq_false, not_false_eq_true, if_true, if_false, rgI, rgL, scr, swl, lkl, cats, cat, is2, List.drop_succ_cons, List.drop_zero, List.drop_nil, List.cons_append, List.nil_append, Option.toList_some, Option.toList_none, List.length_cons, List.length_nil, ne_eq, Classical.not_not, reduceCtorEq, Nat.reduceAdd, Nat.reduceSub, Nat.reduceMul, Nat.reduceLT, Nat.reduceLeDiff, Nat.reduceEqDiff, Nat.reduceBEq, Int.reduceToNat, Int.reduceLE, Int.reduceLT, Int.reduceEq, Int.reduceNeg, Int.reduceAdd, Int.reduceSub, Int.reduceMul, Int.toNat_natCast, Nat.zero_add, Int.add_zero, Nat.add_zero, ite_true, ite_false, Option.some.injEq, Nat.le_refl, or_true, true_or, or_false, false_or, if_pos, reduceIte, Nat.reduceGT]
    exact h0
  · unfold pfr5 at hk
    rw [← h3 k j (by omega)]
    unfold mset
    rw [if_neg (by omega), if_neg (by omega)]
theorem x_take18 (l : Int) (p : Nat) (v : Nat → Int) (M D : MM) (hd : WFd D) (hR : RD18 M D) (hP : RP M D) (hl : prt l ≠ 0) (hv : ∀ k, k < prt l → M 3 k = v k ∧ 0 ≤ v k ∧ v k ≤ 99) : oQ 3 12 [vR 2, vI l, vI p, vR 18, vR 26] M (tkX18 M (tk D l p v)) := by
  refine go12 (fun S hS => ?_)
  rcases prt_cases hl with ⟨h1, h2⟩ | ⟨h1, h2⟩ | ⟨h1, h2⟩ | ⟨h1, h2⟩ | ⟨h1, h2⟩ <;> rw [h2] at hv <;> subst h1
  · have ht : tk D 119 p v = tkW D v := by unfold tk; rw [if_pos rfl]
    refine wpx_ok hS bk12 (sp := sp12) 60 0 _ _ _ _ ?_
    simp only [LCM, B2, Bool.not_eq_false, Bool.not_eq_true, decide_eq_true_eq, decide_eq_false_iff_not, Int.not_lt, Int.not_le, CST, TN, WX, WA, WB, GS, LOC, BT12, SP12, CLS, FLD, ARR, CD, true_and, and_true, and_self, forall_const, true_implies, false_implies, implies_true, not_true_eq_false, not_false_eq_true, if_true, if_false, rgI, rgL, scr, swl, lkl, cats, cat, is2, List.drop_succ_cons, List.drop_zero, List.drop_nil, List.cons_append, List.nil_append, Option.toList_some, Option.toList_none, List.length_cons, List.length_nil, ne_eq, Classical.not_not, reduceCtorEq, Nat.reduceAdd, Nat.reduceSub, Nat.reduceMul, Nat.reduceLT, Nat.reduceLeDiff, Nat.reduceEqDiff, Nat.reduceBEq, Int.reduceToNat, Int.reduceLE, Int.reduceLT, Int.reduceEq, Int.reduceNeg, Int.reduceAdd, Int.reduceSub, Int.reduceMul, Int.toNat_natCast, Nat.zero_add, Int.add_zero, Nat.add_zero, ite_true, ite_false, Option.some.injEq, Nat.le_refl, or_true, true_or, or_false, false_or, if_pos, reduceIte, Nat.reduceGT]
    refine ⟨rcv_ok rfl own13 rfl, kQ (x_takeWeeks18 v M D hR hP hv) (Nat.le_of_ble_eq_true rfl) rfl rfl (Nat.le_of_ble_eq_true rfl) (Nat.le_of_ble_eq_true rfl) rfl ?_⟩
    rintro r N ⟨rfl, h3, h4⟩
    show S 57 _ [Sum.inl _] _ N
    refine wpx_ok hS bk12 (sp := sp12) 60 57 _ _ _ _ ?_
    simp only [LCM, B2, Bool.not_eq_false, Bool.not_eq_true, decide_eq_true_eq, decide_eq_false_iff_not, Int.not_lt, Int.not_le, CST, TN, WX, WA, WB, GS, LOC, BT12, SP12, CLS, FLD, ARR, CD, true_and, and_true, and_self, forall_const, true_implies, false_implies, implies_true, not_true_eq_false, not_false_eq_true, if_true, if_false, rgI, rgL, scr, swl, lkl, cats, cat, is2, List.drop_succ_cons, List.drop_zero, List.drop_nil, List.cons_append, List.nil_append, Option.toList_some, Option.toList_none, List.length_cons, List.length_nil, ne_eq, Classical.not_not, reduceCtorEq, Nat.reduceAdd, Nat.reduceSub, Nat.reduceMul, Nat.reduceLT, Nat.reduceLeDiff, Nat.reduceEqDiff, Nat.reduceBEq, Int.reduceToNat, Int.reduceLE, Int.reduceLT, Int.reduceEq, Int.reduceNeg, Int.reduceAdd, Int.reduceSub, Int.reduceMul, Int.toNat_natCast, Nat.zero_add, Int.add_zero, Nat.add_zero, ite_true, ite_false, Option.some.injEq, Nat.le_refl, or_true, true_or, or_false, false_or, if_pos, reduceIte, Nat.reduceGT]
    exact rt12 (b2i_01 _) ⟨rfl, by rw [ht], by rw [ht]; exact h3, h4⟩
  · have ht : tk D 104 p v = tkH D p v := by unfold tk; rw [if_neg (by decide), if_pos rfl]
    refine wpx_ok hS bk12 (sp := sp12) 60 0 _ _ _ _ ?_
    simp only [LCM, B2, Bool.not_eq_false, Bool.not_eq_true, decide_eq_true_eq, decide_eq_false_iff_not, Int.not_lt, Int.not_le, CST, TN, WX, WA, WB, GS, LOC, BT12, SP12, CLS, FLD, ARR, CD, true_and, and_true, and_self, forall_const, true_implies, false_implies, implies_true, not_true_eq_false, not_false_eq_true, if_true, if_false, rgI, rgL, scr, swl, lkl, cats, cat, is2, List.drop_succ_cons, List.drop_zero, List.drop_nil, List.cons_append, List.nil_append, Option.toList_some, Option.toList_none, List.length_cons, List.length_nil, ne_eq, Classical.not_not, reduceCtorEq, Nat.reduceAdd, Nat.reduceSub, Nat.reduceMul, Nat.reduceLT, Nat.reduceLeDiff, Nat.reduceEqDiff, Nat.reduceBEq, Int.reduceToNat, Int.reduceLE, Int.reduceLT, Int.reduceEq, Int.reduceNeg, Int.reduceAdd, Int.reduceSub, Int.reduceMul, Int.toNat_natCast, Nat.zero_add, Int.add_zero, Nat.add_zero, ite_true, ite_false, Option.some.injEq, Nat.le_refl, or_true, true_or, or_false, false_or, if_pos, reduceIte, Nat.reduceGT]
    refine ⟨rcv_ok rfl own15 rfl, kQ (x_takeHouse18 p v M D hd hR hP hv) (Nat.le_of_ble_eq_true rfl) rfl rfl (Nat.le_of_ble_eq_true rfl) (Nat.le_of_ble_eq_true rfl) rfl ?_⟩
    rintro r N ⟨rfl, h3, h4⟩
    show S 66 _ [Sum.inl _] _ N
    refine wpx_ok hS bk12 (sp := sp12) 60 66 _ _ _ _ ?_
    simp only [LCM, B2, Bool.not_eq_false, Bool.not_eq_true, decide_eq_true_eq, decide_eq_false_iff_not, Int.not_lt, Int.not_le, CST, TN, WX, WA, WB, GS, LOC, BT12, SP12, CLS, FLD, ARR, CD, true_and, and_true, and_self, forall_const, true_implies, false_implies, implies_true, not_true_eq_false, not_false_eq_true, if_true, if_false, rgI, rgL, scr, swl, lkl, cats, cat, is2, List.drop_succ_cons, List.drop_zero, List.drop_nil, List.cons_append, List.nil_append, Option.toList_some, Option.toList_none, List.length_cons, List.length_nil, ne_eq, Classical.not_not, reduceCtorEq, Nat.reduceAdd, Nat.reduceSub, Nat.reduceMul, Nat.reduceLT, Nat.reduceLeDiff, Nat.reduceEqDiff, Nat.reduceBEq, Int.reduceToNat, Int.reduceLE, Int.reduceLT, Int.reduceEq, Int.reduceNeg, Int.reduceAdd, Int.reduceSub, Int.reduceMul, Int.toNat_natCast, Nat.zero_add, Int.add_zero, Nat.add_zero, ite_true, ite_false, Option.some.injEq, Nat.le_refl, or_true, true_or, or_false, false_or, if_pos, reduceIte, Nat.reduceGT]
    exact rt12 (b2i_01 _) ⟨rfl, by rw [ht], by rw [ht]; exact h3, h4⟩
  · have ht : tk D 109 p v = tkM D v := by unfold tk; rw [if_neg (by decide), if_neg (by decide), if_pos rfl]
    refine wpx_ok hS bk12 (sp := sp12) 60 0 _ _ _ _ ?_
    simp only [LCM, B2, Bool.not_eq_false, Bool.not_eq_true, decide_eq_true_eq, decide_eq_false_iff_not, Int.not_lt, Int.not_le, CST, TN, WX, WA, WB, GS, LOC, BT12, SP12, CLS, FLD, ARR, CD, true_and, and_true, and_self, forall_const, true_implies, false_implies, implies_true, not_true_eq_false, not_false_eq_true, if_true, if_false, rgI, rgL, scr, swl, lkl, cats, cat, is2, List.drop_succ_cons, List.drop_zero, List.drop_nil, List.cons_append, List.nil_append, Option.toList_some, Option.toList_none, List.length_cons, List.length_nil, ne_eq, Classical.not_not, reduceCtorEq, Nat.reduceAdd, Nat.reduceSub, Nat.reduceMul, Nat.reduceLT, Nat.reduceLeDiff, Nat.reduceEqDiff, Nat.reduceBEq, Int.reduceToNat, Int.reduceLE, Int.reduceLT, Int.reduceEq, Int.reduceNeg, Int.reduceAdd, Int.reduceSub, Int.reduceMul, Int.toNat_natCast, Nat.zero_add, Int.add_zero, Nat.add_zero, ite_true, ite_false, Option.some.injEq, Nat.le_refl, or_true, true_or, or_false, false_or, if_pos, reduceIte, Nat.reduceGT]
    refine ⟨rcv_ok rfl own17 rfl, kQ (x_takeWork18 v M D hd hR hP hv) (Nat.le_of_ble_eq_true rfl) rfl rfl (Nat.le_of_ble_eq_true rfl) (Nat.le_of_ble_eq_true rfl) rfl ?_⟩
    rintro r N ⟨rfl, h3, h4⟩
    show S 80 _ [Sum.inl _] _ N
    refine wpx_ok hS bk12 (sp := sp12) 60 80 _ _ _ _ ?_
    simp only [LCM, B2, Bool.not_eq_false, Bool.not_eq_true, decide_eq_true_eq, decide_eq_false_iff_not, Int.not_lt, Int.not_le, CST, TN, WX, WA, WB, GS, LOC, BT12, SP12, CLS, FLD, ARR, CD, true_and, and_true, and_self, forall_const, true_implies, false_implies, implies_true, not_true_eq_false, not_false_eq_true, if_true, if_false, rgI, rgL, scr, swl, lkl, cats, cat, is2, List.drop_succ_cons, List.drop_zero, List.drop_nil, List.cons_append, List.nil_append, Option.toList_some, Option.toList_none, List.length_cons, List.length_nil, ne_eq, Classical.not_not, reduceCtorEq, Nat.reduceAdd, Nat.reduceSub, Nat.reduceMul, Nat.reduceLT, Nat.reduceLeDiff, Nat.reduceEqDiff, Nat.reduceBEq, Int.reduceToNat, Int.reduceLE, Int.reduceLT, Int.reduceEq, Int.reduceNeg, Int.reduceAdd, Int.reduceSub, Int.reduceMul, Int.toNat_natCast, Nat.zero_add, Int.add_zero, Nat.add_zero, ite_true, ite_false, Option.some.injEq, Nat.le_refl, or_true, true_or, or_false, false_or, if_pos, reduceIte, Nat.reduceGT]
    exact rt12 (b2i_01 _) ⟨rfl, by rw [ht], by rw [ht]; exact h3, h4⟩
  · have ht : tk D 99 p v = tkC D v := by unfold tk; rw [if_neg (by decide), if_neg (by decide), if_neg (by decide), if_pos rfl]
    refine wpx_ok hS bk12 (sp := sp12) 60 0 _ _ _ _ ?_
    simp only [LCM, B2, Bool.not_eq_false, Bool.not_eq_true, decide_eq_true_eq, decide_eq_false_iff_not, Int.not_lt, Int.not_le, CST, TN, WX, WA, WB, GS, LOC, BT12, SP12, CLS, FLD, ARR, CD, true_and, and_true, and_self, forall_const, true_implies, false_implies, implies_true, not_true_eq_false, not_false_eq_true, if_true, if_false, rgI, rgL, scr, swl, lkl, cats, cat, is2, List.drop_succ_cons, List.drop_zero, List.drop_nil, List.cons_append, List.nil_append, Option.toList_some, Option.toList_none, List.length_cons, List.length_nil, ne_eq, Classical.not_not, reduceCtorEq, Nat.reduceAdd, Nat.reduceSub, Nat.reduceMul, Nat.reduceLT, Nat.reduceLeDiff, Nat.reduceEqDiff, Nat.reduceBEq, Int.reduceToNat, Int.reduceLE, Int.reduceLT, Int.reduceEq, Int.reduceNeg, Int.reduceAdd, Int.reduceSub, Int.reduceMul, Int.toNat_natCast, Nat.zero_add, Int.add_zero, Nat.add_zero, ite_true, ite_false, Option.some.injEq, Nat.le_refl, or_true, true_or, or_false, false_or, if_pos, reduceIte, Nat.reduceGT]
    refine ⟨rcv_ok rfl own18 rfl, kQ (x_takeCook18 v M D hd hR hP hv) (Nat.le_of_ble_eq_true rfl) rfl rfl (Nat.le_of_ble_eq_true rfl) (Nat.le_of_ble_eq_true rfl) rfl ?_⟩
    rintro r N ⟨rfl, h3, h4⟩
    show S 86 _ [Sum.inl _] _ N
    refine wpx_ok hS bk12 (sp := sp12) 60 86 _ _ _ _ ?_
    simp only [LCM, B2, Bool.not_eq_false, Bool.not_eq_true, decide_eq_true_eq, decide_eq_false_iff_not, Int.not_lt, Int.not_le, CST, TN, WX, WA, WB, GS, LOC, BT12, SP12, CLS, FLD, ARR, CD, true_and, and_true, and_self, forall_const, true_implies, false_implies, implies_true, not_true_eq_false, not_false_eq_true, if_true, if_false, rgI, rgL, scr, swl, lkl, cats, cat, is2, List.drop_succ_cons, List.drop_zero, List.drop_nil, List.cons_append, List.nil_append, Option.toList_some, Option.toList_none, List.length_cons, List.length_nil, ne_eq, Classical.not_not, reduceCtorEq, Nat.reduceAdd, Nat.reduceSub, Nat.reduceMul, Nat.reduceLT, Nat.reduceLeDiff, Nat.reduceEqDiff, Nat.reduceBEq, Int.reduceToNat, Int.reduceLE, Int.reduceLT, Int.reduceEq, Int.reduceNeg, Int.reduceAdd, Int.reduceSub, Int.reduceMul, Int.toNat_natCast, Nat.zero_add, Int.add_zero, Nat.add_zero, ite_true, ite_false, Option.some.injEq, Nat.le_refl, or_true, true_or, or_false, false_or, if_pos, reduceIte, Nat.reduceGT]
    exact rt12 (b2i_01 _) ⟨rfl, by rw [ht], by rw [ht]; exact h3, h4⟩
  · have ht : tk D 110 p v = tkN D v := by unfold tk; rw [if_neg (by decide), if_neg (by decide), if_neg (by decide), if_neg (by decide), if_pos rfl]
    refine wpx_ok hS bk12 (sp := sp12) 60 0 _ _ _ _ ?_
    simp only [LCM, B2, Bool.not_eq_false, Bool.not_eq_true, decide_eq_true_eq, decide_eq_false_iff_not, Int.not_lt, Int.not_le, CST, TN, WX, WA, WB, GS, LOC, BT12, SP12, CLS, FLD, ARR, CD, true_and, and_true, and_self, forall_const, true_implies, false_implies, implies_true, not_true_eq_false, not_false_eq_true, if_true, if_false, rgI, rgL, scr, swl, lkl, cats, cat, is2, List.drop_succ_cons, List.drop_zero, List.drop_nil, List.cons_append, List.nil_append, Option.toList_some, Option.toList_none, List.length_cons, List.length_nil, ne_eq, Classical.not_not, reduceCtorEq, Nat.reduceAdd, Nat.reduceSub, Nat.reduceMul, Nat.reduceLT, Nat.reduceLeDiff, Nat.reduceEqDiff, Nat.reduceBEq, Int.reduceToNat, Int.reduceLE, Int.reduceLT, Int.reduceEq, Int.reduceNeg, Int.reduceAdd, Int.reduceSub, Int.reduceMul, Int.toNat_natCast, Nat.zero_add, Int.add_zero, Nat.add_zero, ite_true, ite_false, Option.some.injEq, Nat.le_refl, or_true, true_or, or_false, false_or, if_pos, reduceIte, Nat.reduceGT]
    refine ⟨rcv_ok rfl own16 rfl, kQ (x_takeNew18 v M D hd hR hP hv) (Nat.le_of_ble_eq_true rfl) rfl rfl (Nat.le_of_ble_eq_true rfl) (Nat.le_of_ble_eq_true rfl) rfl ?_⟩
    rintro r N ⟨rfl, h3, h4⟩
    show S 74 _ [Sum.inl _] _ N
    refine wpx_ok hS bk12 (sp := sp12) 60 74 _ _ _ _ ?_
    simp only [LCM, B2, Bool.not_eq_false, Bool.not_eq_true, decide_eq_true_eq, decide_eq_false_iff_not, Int.not_lt, Int.not_le, CST, TN, WX, WA, WB, GS, LOC, BT12, SP12, CLS, FLD, ARR, CD, true_and, and_true, and_self, forall_const, true_implies, false_implies, implies_true, not_true_eq_false, not_false_eq_true, if_true, if_false, rgI, rgL, scr, swl, lkl, cats, cat, is2, List.drop_succ_cons, List.drop_zero, List.drop_nil, List.cons_append, List.nil_append, Option.toList_some, Option.toList_none, List.length_cons, List.length_nil, ne_eq, Classical.not_not, reduceCtorEq, Nat.reduceAdd, Nat.reduceSub, Nat.reduceMul, Nat.reduceLT, Nat.reduceLeDiff, Nat.reduceEqDiff, Nat.reduceBEq, Int.reduceToNat, Int.reduceLE, Int.reduceLT, Int.reduceEq, Int.reduceNeg, Int.reduceAdd, Int.reduceSub, Int.reduceMul, Int.toNat_natCast, Nat.zero_add, Int.add_zero, Nat.add_zero, ite_true, ite_false, Option.some.injEq, Nat.le_refl, or_true, true_or, or_false, false_or, if_pos, reduceIte, Nat.reduceGT]
    exact rt12 (b2i_01 _) ⟨rfl, by rw [ht], by rw [ht]; exact h3, h4⟩
theorem x_wrong18 (M D : MM) (hd : WFd D) (hR : RD18 M D) (hP : RP M D) : oI 1 19 [vR 2, vR 18, vR 26] M (endF D) := by
  have hH := hd.H
  have hww := hd.1
  refine go19 (fun S hS => ?_)
  have head : ∀ (m i : Nat), i + m = hN D → (∀ x, x < i → wrg D x = false) → S 2 [some (vR 2), some (vR 18), some (vR 26), some (vI i)] [] (sh0, 0, 0) M := by
    intro m
    induction m with
    | zero =>
      intro i hi hlo
      refine wpx_ok hS bk19 (sp := sp19) 60 2 _ _ _ _ ?_
      simp only [LCM, B2, Bool.not_eq_false, Bool.not_eq_true, decide_eq_true_eq, decide_eq_false_iff_not, Int.not_lt, Int.not_le, CST, TN, WX, WA, WB, GS, LOC, BT19, SP19, CLS, FLD, ARR, CD, true_and, and_true, and_self, forall_const, true_implies, false_implies, implies_true, not_true_eq_false, not_false_eq_true, if_true, if_false, rgI, rgL, scr, swl, lkl, cats, cat, is2, List.drop_succ_cons, List.drop_zero, List.drop_nil, List.cons_append, List.nil_append, Option.toList_some, Option.toList_none, List.length_cons, List.length_nil, ne_eq, Classical.not_not, reduceCtorEq, Nat.reduceAdd, Nat.reduceSub, Nat.reduceMul, Nat.reduceLT, Nat.reduceLeDiff, Nat.reduceEqDiff, Nat.reduceBEq, Int.reduceToNat, Int.reduceLE, Int.reduceLT, Int.reduceEq, Int.reduceNeg, Int.reduceAdd, Int.reduceSub, Int.reduceMul, Int.toNat_natCast, Nat.zero_add, Int.add_zero, Nat.add_zero, ite_true, ite_false, Option.some.injEq, Nat.le_refl, or_true, true_or, or_false, false_or, if_pos, reduceIte, Nat.reduceGT]
      rw [hR.1.2.2.1, ← hH.1]
      refine ⟨by omega, fun _ => rt19 ⟨rfl, ?_, rfl⟩, fun h => by omega⟩
      unfold endF
      rw [fstF_none.mpr (fun x _ hx2 => hlo x (by omega))]
    | succ m ih =>
      intro i hi hlo
      have hh := hd.2.1 i (by omega)
      have he := hR.2.2.2.2.1 i (by omega)
      have wk : ∀ w : Int, w = 0 ∨ w = 1 → M 19 w.toNat = D 57 w.toNat ∧ 2 ≤ D 57 w.toNat ∧ D 57 w.toNat ≤ 12 := by
        intro w hw
        rcases hw with rfl | rfl
        · exact ⟨hR.1.1, hww.1⟩
        · exact ⟨hR.1.2.1, hww.2.1⟩
      have hw2 := wk _ hh.1
      refine wpx_ok hS bk19 (sp := sp19) 60 2 _ _ _ _ ?_
      simp only [LCM, B2, Bool.not_eq_false, Bool.not_eq_true, decide_eq_true_eq, decide_eq_false_iff_not, Int.not_lt, Int.not_le, CST, TN, WX, WA, WB, GS, LOC, BT19, SP19, CLS, FLD, ARR, CD, true_and, and_true, and_self, forall_const, true_implies, false_implies, implies_true, not_true_eq_false, not_false_eq_true, if_true, if_false, rgI, rgL, scr, swl, lkl, cats, cat, is2, List.drop_succ_cons, List.drop_zero, List.drop_nil, List.cons_append, List.nil_append, Option.toList_some, Option.toList_none, List.length_cons, List.length_nil, ne_eq, Classical.not_not, reduceCtorEq, Nat.reduceAdd, Nat.reduceSub, Nat.reduceMul, Nat.reduceLT, Nat.reduceLeDiff, Nat.reduceEqDiff, Nat.reduceBEq, Int.reduceToNat, Int.reduceLE, Int.reduceLT, Int.reduceEq, Int.reduceNeg, Int.reduceAdd, Int.reduceSub, Int.reduceMul, Int.toNat_natCast, Nat.zero_add, Int.add_zero, Nat.add_zero, ite_true, ite_false, Option.some.injEq, Nat.le_refl, or_true, true_or, or_false, false_or, if_pos, reduceIte, Nat.reduceGT]
      rw [hR.1.2.2.1, ← hH.1, he.1, he.2, hw2.1, hP i (by omega)]
      refine ⟨by omega, fun h => by omega, fun h => ⟨by omega, by omega, by omega, by omega, fun h1 => ?_, fun h1 => ⟨by omega, ?_⟩⟩⟩
      · refine ih (i + 1) (by omega) (fun x hx2 => ?_)
        by_cases hxi : x = i
        · rw [hxi]; unfold wrg; exact decide_eq_false (by omega)
        · exact hlo x (by omega)
      · refine rt19 ⟨rfl, ?_, rfl⟩
        unfold endF
        rw [fstF_some.mpr ⟨Nat.zero_le i, by omega, by unfold wrg; exact decide_eq_true h1, fun x _ hx2 => hlo x hx2⟩]
  have := head (hN D) 0 (by omega) (fun x hx2 => by omega)
  refine wpx_ok hS bk19 (sp := sp19) 60 0 _ _ _ _ ?_
  simp only [LCM, B2, Bool.not_eq_false, Bool.not_eq_true, decide_eq_true_eq, decide_eq_false_iff_not, Int.not_lt, Int.not_le, CST, TN, WX, WA, WB, GS, LOC, BT19, SP19, CLS, FLD, ARR, CD, true_and, and_true, and_self, forall_const, true_implies, false_implies, implies_true, not_true_eq_false, not_false_eq_true, if_true, if_false, rgI, rgL, scr, swl, lkl, cats, cat, is2, List.drop_succ_cons, List.drop_zero, List.drop_nil, List.cons_append, List.nil_append, Option.toList_some, Option.toList_none, List.length_cons, List.length_nil, ne_eq, Classical.not_not, reduceCtorEq, Nat.reduceAdd, Nat.reduceSub, Nat.reduceMul, Nat.reduceLT, Nat.reduceLeDiff, Nat.reduceEqDiff, Nat.reduceBEq, Int.reduceToNat, Int.reduceLE, Int.reduceLT, Int.reduceEq, Int.reduceNeg, Int.reduceAdd, Int.reduceSub, Int.reduceMul, Int.toNat_natCast, Nat.zero_add, Int.add_zero, Nat.add_zero, ite_true, ite_false, Option.some.injEq, Nat.le_refl, or_true, true_or, or_false, false_or, if_pos, reduceIte, Nat.reduceGT]
  exact this
def rdP18 (M : MM) (Q : MM × Option Nat) : Option AV → MM → Prop := fun r M' => r = some (Sum.inl (resF Q)) ∧ (Q.2 = none → RD18 M' Q.1) ∧ (∀ k j, ¬ pfr18 k j → M' k j = M k j) ∧ M' 26 3 = 0
theorem x_read18 (tx : Nat → Int) (n : Nat) (M : MM) (hn4 : n ≤ 400) (hb : ∀ k, -128 ≤ tx k ∧ tx k ≤ 127) (hx : ∀ k, k < n → M 1 k = tx k) : oQ 4 8 [vR 2, vR 1, vI n, vR 18, vR 26] M (rdP18 M (prs tx n n D0 0)) := by
  generalize hQ : prs tx n n D0 0 = Q
  refine go8 (fun S hS => ?_)
  have tail : ∀ (D : MM) (N : MM) (p it : Nat) (o : Option AV), Q = (D, none) → WFd D → RD18 N D → RP N D → (∀ k j, ¬ pfr18 k j → N k j = M k j) → N 26 3 = 0 → n ≤ p → p ≤ 1000 → it ≤ p → S 15 [some (vR 2), some (vR 1), some (vI n), some (vR 18), some (vR 26), some (vI p), some (vI it), o] [] (sh0, 0, 0) N := by
    intro D N p it o hQD hd hR hP hF h3 hpn hp1 hit
    have at80 : S 80 [some (vR 2), some (vR 1), some (vI n), some (vR 18), some (vR 26), some (vI p), some (vI it), o] [Sum.inl (endF D)] (sh0, 0, 0) N := by
      refine wpx_ok hS bk8 (sp := sp8) 60 80 _ _ _ _ ?_
      simp only [LCM, B2, Bool.not_eq_false, Bool.not_eq_true, decide_eq_true_eq, decide_eq_false_iff_not, Int.not_lt, Int.not_le, CST, TN, WX, WA, WB, GS, LOC, BT8, SP8, CLS, FLD, ARR, CD, true_and, and_true, and_self, forall_const, true_implies, false_implies, implies_true, not_true_eq_false, not_false_eq_true, if_true, if_false, rgI, rgL, scr, swl, lkl, cats, cat, is2, List.drop_succ_cons, List.drop_zero, List.drop_nil, List.cons_append, List.nil_append, Option.toList_some, Option.toList_none, List.length_cons, List.length_nil, ne_eq, Classical.not_not, reduceCtorEq, Nat.reduceAdd, Nat.reduceSub, Nat.reduceMul, Nat.reduceLT, Nat.reduceLeDiff, Nat.reduceEqDiff, Nat.reduceBEq, Int.reduceToNat, Int.reduceLE, Int.reduceLT, Int.reduceEq, Int.reduceNeg, Int.reduceAdd, Int.reduceSub, Int.reduceMul, Int.toNat_natCast, Nat.zero_add, Int.add_zero, Nat.add_zero, ite_true, ite_false, Option.some.injEq, Nat.le_refl, or_true, true_or, or_false, false_or, if_pos, reduceIte, Nat.reduceGT]
      refine rt8 ⟨rfl, ?_, fun _ => by rw [hQD]; exact hR, hF, h3⟩
      rw [hQD]; rfl
    refine wpx_ok hS bk8 (sp := sp8) 60 15 _ _ _ _ ?_
    simp only [LCM, B2, Bool.not_eq_false, Bool.not_eq_true, decide_eq_true_eq, decide_eq_false_iff_not, Int.not_lt, Int.not_le, CST, TN, WX, WA, WB, GS, LOC, BT8, SP8, CLS, FLD, ARR, CD, true_and, and_true, and_self, forall_const, true_implies, false_implies, implies_true, not_true_eq_false, not_false_eq_true, if_true, if_false, rgI, rgL, scr, swl, lkl, cats, cat, is2, List.drop_succ_cons, List.drop_zero, List.drop_nil, List.cons_append, List.nil_append, Option.toList_some, Option.toList_none, List.length_cons, List.length_nil, ne_eq, Classical.not_not, reduceCtorEq, Nat.reduceAdd, Nat.reduceSub, Nat.reduceMul, Nat.reduceLT, Nat.reduceLeDiff, Nat.reduceEqDiff, Nat.reduceBEq, Int.reduceToNat, Int.reduceLE, Int.reduceLT, Int.reduceEq, Int.reduceNeg, Int.reduceAdd, Int.reduceSub, Int.reduceMul, Int.toNat_natCast, Nat.zero_add, Int.add_zero, Nat.add_zero, ite_true, ite_false, Option.some.injEq, Nat.le_refl, or_true, true_or, or_false, false_or, if_pos, reduceIte, Nat.reduceGT]
    refine ⟨by omega, fun _ => ?_, fun _ => ⟨by omega, fun _ => ?_, fun h => by omega⟩⟩
    · refine ⟨rcv_ok rfl own19 rfl, kI (x_wrong18 N D hd hR hP) (Nat.le_of_ble_eq_true rfl) rfl rfl (Nat.le_of_ble_eq_true rfl) (Nat.le_of_ble_eq_true rfl) rfl ?_⟩
      exact at80
    · refine ⟨rcv_ok rfl own19 rfl, kI (x_wrong18 N D hd hR hP) (Nat.le_of_ble_eq_true rfl) rfl rfl (Nat.le_of_ble_eq_true rfl) (Nat.le_of_ble_eq_true rfl) rfl ?_⟩
      exact at80
  have head : ∀ (f : Nat) (D : MM) (p it : Nat) (N : MM) (o : Option AV), n ≤ p + f → p ≤ n → it ≤ p → WFd D → RD18 N D → RP N D → (∀ k j, ¬ pfr18 k j → N k j = M k j) → N 26 3 = 0 → prs tx n f D p = Q → S 15 [some (vR 2), some (vR 1), some (vI n), some (vR 18), some (vR 26), some (vI p), some (vI it), o] [] (sh0, 0, 0) N := by
    intro f
    induction f with
    | zero =>
      intro D p it N o hpf hpn hit hd hR hP hF h3 hpr
      exact tail D N p it o hpr.symm hd hR hP hF h3 (by omega) (by omega) hit
    | succ f ih =>
      intro D p it N o hpf hpn hit hd hR hP hF h3 hpr
      by_cases hp : p < n
      · rw [prs, if_pos hp] at hpr
        have hxN : ∀ k, k < n → N 1 k = tx k := fun k hk => by rw [hF 1 k (by unfold pfr18; omega)]; exact hx k hk
        have hbp := hb p
        refine wpx_ok hS bk8 (sp := sp8) 60 15 _ _ _ _ ?_
        simp only [LCM, B2, Bool.not_eq_false, Bool.not_eq_true, decide_eq_true_eq, decide_eq_false_iff_not, Int.not_lt, Int.not_le, CST, TN, WX, WA, WB, GS, LOC, BT8, SP8, CLS, FLD, ARR, CD, true_and, and_true, and_self, forall_const, true_implies, false_implies, implies_true, not_true_eq_false, not_false_eq_true, if_true, if_false, rgI, rgL, scr, swl, lkl, cats, cat, is2, List.drop_succ_cons, List.drop_zero, List.drop_nil, List.cons_append, List.nil_append, Option.toList_some, Option.toList_none, List.length_cons, List.length_nil, ne_eq, Classical.not_not, reduceCtorEq, Nat.reduceAdd, Nat.reduceSub, Nat.reduceMul, Nat.reduceLT, Nat.reduceLeDiff, Nat.reduceEqDiff, Nat.reduceBEq, Int.reduceToNat, Int.reduceLE, Int.reduceLT, Int.reduceEq, Int.reduceNeg, Int.reduceAdd, Int.reduceSub, Int.reduceMul, Int.toNat_natCast, Nat.zero_add, Int.add_zero, Nat.add_zero, ite_true, ite_false, Option.some.injEq, Nat.le_refl, or_true, true_or, or_false, false_or, if_pos, reduceIte, Nat.reduceGT]
        refine ⟨by omega, fun h => by omega, fun _ => ⟨by omega, fun h => by omega, fun _ => ?_⟩⟩
        refine ⟨rcv_ok rfl own9 rfl, kQ (x_readNumbers tx n p N hn4 hb hxN hp) (Nat.le_of_ble_eq_true rfl) rfl rfl (Nat.le_of_ble_eq_true rfl) (Nat.le_of_ble_eq_true rfl) rfl ?_⟩
        rintro r N1 ⟨rfl, hV, hF1⟩
        have hF2 : ∀ k j, ¬ pfr18 k j → N1 k j = M k j := fun k j hk => by rw [hF1 k j (fun z => hk (by unfold pfr18; omega))]; exact hF k j hk
        have hR1 : RD18 N1 D := hR.keep (fun k j hk => hF1 k j (by omega))
        have hP1 : RP N1 D := fun i hi => by rw [hF1 4 i (by decide)]; exact hP i hi
        have h31 : N1 26 3 = 0 := by rw [hF1 26 3 (by decide)]; exact h3
        have fail : itm tx n D p = none → ∀ N2 : MM, (∀ k j, ¬ pfr18 k j → N2 k j = M k j) → N2 26 3 = 0 → Rtn 8 0 0 (fun r sh M' => sh = sh0 ∧ rdP18 M Q r M') (some (Sum.inl (p : Int))) (sh0, 0, 0) N2 := by
          intro hi N2 hFN h32
          rw [hi] at hpr
          refine rt8 ⟨rfl, ?_, fun z => ?_, hFN, h32⟩
          · rw [← hpr]; rfl
          · rw [← hpr] at z; cases z
        show S 35 _ [Sum.inl _] _ N1
        cases hlx : lxB tx n p with
        | false =>
          have hi : itm tx n D p = none := by
            unfold itm
            unfold lxB at hlx
            rw [if_neg (fun z => ?_)]
            rw [decide_eq_true z.1, z.2] at hlx
            cases hlx
          simp only [Bool.false_eq_true, if_false]
          refine wpx_ok hS bk8 (sp := sp8) 60 35 _ _ _ _ ?_
          simp only [LCM, B2, Bool.not_eq_false, Bool.not_eq_true, decide_eq_true_eq, decide_eq_false_iff_not, Int.not_lt, Int.not_le, CST, TN, WX, WA, WB, GS, LOC, BT8, SP8, CLS, FLD, ARR, CD, true_and, and_true, and_self, forall_const, true_implies, false_implies, implies_true, not_true_eq_false, not_false_eq_true, if_true, if_false, rgI, rgL, scr, swl, lkl, cats, cat, is2, List.drop_succ_cons, List.drop_zero, List.drop_nil, List.cons_append, List.nil_append, Option.toList_some, Option.toList_none, List.length_cons, List.length_nil, ne_eq, Classical.not_not, reduceCtorEq, Nat.reduceAdd, Nat.reduceSub, Nat.reduceMul, Nat.reduceLT, Nat.reduceLeDiff, Nat.reduceEqDiff, Nat.reduceBEq, Int.reduceToNat, Int.reduceLE, Int.reduceLT, Int.reduceEq, Int.reduceNeg, Int.reduceAdd, Int.reduceSub, Int.reduceMul, Int.toNat_natCast, Nat.zero_add, Int.add_zero, Nat.add_zero, ite_true, ite_false, Option.some.injEq, Nat.le_refl, or_true, true_or, or_false, false_or, if_pos, reduceIte, Nat.reduceGT]
          exact fail hi N1 hF2 h31
        | true =>
          have hlx2 : prt (tx p) ≠ 0 ∧ lexB tx n (p + 1) (prt (tx p)) = true := by
            unfold lxB at hlx
            rw [Bool.and_eq_true, decide_eq_true_iff] at hlx
            exact hlx
          have hit2 : itm tx n D p = (tk D (tx p) p (fun k => nvl tx n (pls tx n (p + 1) k))).map (fun D' => (D', pls tx n (p + 1) (prt (tx p)))) := by
            unfold itm
            rw [if_pos hlx2]
          have hpl := pls_le (tx := tx) (n := n) (p := p + 1) (w := prt (tx p)) (by omega) (lexB_iff.mp hlx2.2)
          have e1 : N1 1 p = tx p := by rw [hF1 1 p (by decide)]; exact hxN p hp
          generalize hbe : pls tx n (p + 1) (prt (tx p)) = be at hit2 hpl ⊢
          simp only [if_true]
          refine wpx_ok hS bk8 (sp := sp8) 60 35 _ _ _ _ ?_
          simp only [LCM, B2, Bool.not_eq_false, Bool.not_eq_true, decide_eq_true_eq, decide_eq_false_iff_not, Int.not_lt, Int.not_le, CST, TN, WX, WA, WB, GS, LOC, BT8, SP8, CLS, FLD, ARR, CD, true_and, and_true, and_self, forall_const, true_implies, false_implies, implies_true, not_true_eq_false, not_false_eq_true, if_true, if_false, rgI, rgL, scr, swl, lkl, cats, cat, is2, List.drop_succ_cons, List.drop_zero, List.drop_nil, List.cons_append, List.nil_append, Option.toList_some, Option.toList_none, List.length_cons, List.length_nil, ne_eq, Classical.not_not, reduceCtorEq, Nat.reduceAdd, Nat.reduceSub, Nat.reduceMul, Nat.reduceLT, Nat.reduceLeDiff, Nat.reduceEqDiff, Nat.reduceBEq, Int.reduceToNat, Int.reduceLE, Int.reduceLT, Int.reduceEq, Int.reduceNeg, Int.reduceAdd, Int.reduceSub, Int.reduceMul, Int.toNat_natCast, Nat.zero_add, Int.add_zero, Nat.add_zero, ite_true, ite_false, Option.some.injEq, Nat.le_refl, or_true, true_or, or_false, false_or, if_pos, reduceIte, Nat.reduceGT]
          rw [e1]
          refine ⟨by omega, by omega, ?_⟩
          refine ⟨rcv_ok rfl own12 rfl, kQ (x_take18 (tx p) p (fun k => nvl tx n (pls tx n (p + 1) k)) N1 D hd hR1 hP1 hlx2.1 (fun k hk => ⟨hV hlx k hk, nvl_rg (okN_iff.mp (lexB_iff.mp hlx2.2 k hk)).1⟩)) (Nat.le_of_ble_eq_true rfl) rfl rfl (Nat.le_of_ble_eq_true rfl) (Nat.le_of_ble_eq_true rfl) rfl ?_⟩
          rintro r N2 ⟨rfl, hD2, hF3, h32⟩
          have hF4 : ∀ k j, ¬ pfr18 k j → N2 k j = M k j := fun k j hk => by rw [hF3 k j hk]; exact hF2 k j hk
          have h33 : N2 26 3 = 0 := h32.trans h31
          show S 57 _ [Sum.inl _] _ N2
          cases htk : tk D (tx p) p (fun k => nvl tx n (pls tx n (p + 1) k)) with
          | none =>
            rw [htk] at hit2
            simp only [Option.isSome_none]
            refine wpx_ok hS bk8 (sp := sp8) 60 57 _ _ _ _ ?_
            simp only [LCM, B2, Bool.not_eq_false, Bool.not_eq_true, decide_eq_true_eq, decide_eq_false_iff_not, Int.not_lt, Int.not_le, CST, TN, WX, WA, WB, GS, LOC, BT8, SP8, CLS, FLD, ARR, CD, true_and, and_true, and_self, forall_const, true_implies, false_implies, implies_true, not_true_eq_false, not_false_eq_true, if_true, if_false, rgI, rgL, scr, swl, lkl, cats, cat, is2, List.drop_succ_cons, List.drop_zero, List.drop_nil, List.cons_append, List.nil_append, Option.toList_some, Option.toList_none, List.length_cons, List.length_nil, ne_eq, Classical.not_not, reduceCtorEq, Nat.reduceAdd, Nat.reduceSub, Nat.reduceMul, Nat.reduceLT, Nat.reduceLeDiff, Nat.reduceEqDiff, Nat.reduceBEq, Int.reduceToNat, Int.reduceLE, Int.reduceLT, Int.reduceEq, Int.reduceNeg, Int.reduceAdd, Int.reduceSub, Int.reduceMul, Int.toNat_natCast, Nat.zero_add, Int.add_zero, Nat.add_zero, ite_true, ite_false, Option.some.injEq, Nat.le_refl, or_true, true_or, or_false, false_or, if_pos, reduceIte, Nat.reduceGT]
            exact fail hit2 N2 hF4 h33
          | some E =>
            rw [htk] at hit2
            have hi : itm tx n D p = some (E, be) := hit2
            have ho := itm_ok hd hn4 hp hi
            rw [hi] at hpr
            simp only [Option.isSome_some]
            have := ih E be (it + 1) N2 (some (vI be)) (by omega) ho.2.2 (by omega) ho.1 (hD2 E htk).1 (hD2 E htk).2 hF4 h33 hpr
            refine wpx_ok hS bk8 (sp := sp8) 60 57 _ _ _ _ ?_
            simp only [LCM, B2, Bool.not_eq_false, Bool.not_eq_true, decide_eq_true_eq, decide_eq_false_iff_not, Int.not_lt, Int.not_le, CST, TN, WX, WA, WB, GS, LOC, BT8, SP8, CLS, FLD, ARR, CD, true_and, and_true, and_self, forall_const, true_implies, false_implies, implies_true, not_true_eq_false, not_false_eq_true, if_true, if_false, rgI, rgL, scr, swl, lkl, cats, cat, is2, List.drop_succ_cons, List.drop_zero, List.drop_nil, List.cons_append, List.nil_append, Option.toList_some, Option.toList_none, List.length_cons, List.length_nil, ne_eq, Classical.not_not, reduceCtorEq, Nat.reduceAdd, Nat.reduceSub, Nat.reduceMul, Nat.reduceLT, Nat.reduceLeDiff, Nat.reduceEqDiff, Nat.reduceBEq, Int.reduceToNat, Int.reduceLE, Int.reduceLT, Int.reduceEq, Int.reduceNeg, Int.reduceAdd, Int.reduceSub, Int.reduceMul, Int.toNat_natCast, Nat.zero_add, Int.add_zero, Nat.add_zero, ite_true, ite_false, Option.some.injEq, Nat.le_refl, or_true, true_or, or_false, false_or, if_pos, reduceIte, Nat.reduceGT]
            exact this
      · rw [prs, if_neg hp] at hpr
        exact tail D N p it o hpr.symm hd hR hP hF h3 (by omega) (by omega) hit
  refine wpx_ok hS bk8 (sp := sp8) 60 0 _ _ _ _ ?_
  simp only [LCM, B2, Bool.not_eq_false, Bool.not_eq_true, decide_eq_true_eq, decide_eq_false_iff_not, Int.not_lt, Int.not_le, CST, TN, WX, WA, WB, GS, LOC, BT8, SP8, CLS, FLD, ARR, CD, true_and, and_true, and_self, forall_const, true_implies, false_implies, implies_true, not_true_eq_false, not_false_eq_true, if_true, if_false, rgI, rgL, scr, swl, lkl, cats, cat, is2, List.drop_succ_cons, List.drop_zero, List.drop_nil, List.cons_append, List.nil_append, Option.toList_some, Option.toList_none, List.length_cons, List.length_nil, ne_eq, Classical.not_not, reduceCtorEq, Nat.reduceAdd, Nat.reduceSub, Nat.reduceMul, Nat.reduceLT, Nat.reduceLeDiff, Nat.reduceEqDiff, Nat.reduceBEq, Int.reduceToNat, Int.reduceLE, Int.reduceLT, Int.reduceEq, Int.reduceNeg, Int.reduceAdd, Int.reduceSub, Int.reduceMul, Int.toNat_natCast, Nat.zero_add, Int.add_zero, Nat.add_zero, ite_true, ite_false, Option.some.injEq, Nat.le_refl, or_true, true_or, or_false, false_or, if_pos, reduceIte, Nat.reduceGT]
  refine ⟨rcv_ok rfl own28 rfl, kQ (x_tbegin18 M) (Nat.le_of_ble_eq_true rfl) rfl rfl (Nat.le_of_ble_eq_true rfl) (Nat.le_of_ble_eq_true rfl) rfl ?_⟩
  rintro r N ⟨rfl, h1, h2, h3⟩
  show S 4 _ [] _ N
  refine wpx_ok hS bk8 (sp := sp8) 60 4 _ _ _ _ ?_
  simp only [LCM, B2, Bool.not_eq_false, Bool.not_eq_true, decide_eq_true_eq, decide_eq_false_iff_not, Int.not_lt, Int.not_le, CST, TN, WX, WA, WB, GS, LOC, BT8, SP8, CLS, FLD, ARR, CD, true_and, and_true, and_self, forall_const, true_implies, false_implies, implies_true, not_true_eq_false, not_false_eq_true, if_true, if_false, rgI, rgL, scr, swl, lkl, cats, cat, is2, List.drop_succ_cons, List.drop_zero, List.drop_nil, List.cons_append, List.nil_append, Option.toList_some, Option.toList_none, List.length_cons, List.length_nil, ne_eq, Classical.not_not, reduceCtorEq, Nat.reduceAdd, Nat.reduceSub, Nat.reduceMul, Nat.reduceLT, Nat.reduceLeDiff, Nat.reduceEqDiff, Nat.reduceBEq, Int.reduceToNat, Int.reduceLE, Int.reduceLT, Int.reduceEq, Int.reduceNeg, Int.reduceAdd, Int.reduceSub, Int.reduceMul, Int.toNat_natCast, Nat.zero_add, Int.add_zero, Nat.add_zero, ite_true, ite_false, Option.some.injEq, Nat.le_refl, or_true, true_or, or_false, false_or, if_pos, reduceIte, Nat.reduceGT]
  refine ⟨rcv_ok rfl own1 rfl, kV (x_bbegin18 N) (Nat.le_of_ble_eq_true rfl) rfl rfl (Nat.le_of_ble_eq_true rfl) (Nat.le_of_ble_eq_true rfl) rfl ?_⟩
  have h0 := head n D0 0 0 (mset (mset N 26 2 0) 26 3 0) none (by omega) (by omega) (by omega) WFd_0 (RD18.begin ⟨h1, h2⟩ rfl) (fun i hi => absurd hi (by unfold hN D0; simp)) (fun k j hk => ?_) ms_eq hQ
  · refine wpx_ok hS bk8 (sp := sp8) 60 9 _ _ _ _ ?_
    simp only [LCM, B2, Bool.not_eq_false, Bool.not_eq_true, decide_eq_true_eq, decide_eq_false_iff_not, Int.not_lt, Int.not_le, CST, TN, WX, WA, WB, GS, LOC, BT8, SP8, CLS, FLD, ARR, CD, true_and, and_true, and_self, forall_const, true_implies, false_implies, implies_true, not_true_eq_false, not_false_eq_true, if_true, if_false, rgI, rgL, scr, swl, lkl, cats, cat, is2, List.drop_succ_cons, List.drop_zero, List.drop_nil, List.cons_append, List.nil_append, Option.toList_some, Option.toList_none, List.length_cons, List.length_nil, ne_eq, Classical.not_not, reduceCtorEq, Nat.reduceAdd, Nat.reduceSub, Nat.reduceMul, Nat.reduceLT, Nat.reduceLeDiff, Nat.reduceEqDiff, Nat.reduceBEq, Int.reduceToNat, Int.reduceLE, Int.reduceLT, Int.reduceEq, Int.reduceNeg, Int.reduceAdd, Int.reduceSub, Int.reduceMul, Int.toNat_natCast, Nat.zero_add, Int.add_zero, Nat.add_zero, ite_true, ite_false, Option.some.injEq, Nat.le_refl, or_true, true_or, or_false, false_or, if_pos, reduceIte, Nat.reduceGT]
    exact h0
  · unfold pfr18 at hk
    rw [← h3 k j (by omega)]
    unfold mset
    rw [if_neg (by omega), if_neg (by omega)]
theorem x_fault (tx : Nat → Int) (n : Nat) (M : MM) (hn4 : n ≤ 400) (hb : ∀ k, -128 ≤ tx k ∧ tx k ≤ 127) (hn : M 0 1 = n) (hx : ∀ k, k < n → M 1 k = tx k) : oQ 5 46 [vR 0] M (fun r M' => r = some (Sum.inl (resF (prs tx n n D0 0))) ∧ kC M M') := by
  refine go46 (fun S hS => ?_)
  refine wpx_ok hS bk46 (sp := sp46) 60 0 _ _ _ _ ?_
  simp only [LCM, B2, Bool.not_eq_false, Bool.not_eq_true, decide_eq_true_eq, decide_eq_false_iff_not, Int.not_lt, Int.not_le, CST, TN, WX, WA, WB, GS, LOC, BT46, SP46, CLS, FLD, ARR, CD, true_and, and_true, and_self, forall_const, true_implies, false_implies, implies_true, not_true_eq_false, not_false_eq_true, if_true, if_false, rgI, rgL, scr, swl, lkl, cats, cat, is2, List.drop_succ_cons, List.drop_zero, List.drop_nil, List.cons_append, List.nil_append, Option.toList_some, Option.toList_none, List.length_cons, List.length_nil, ne_eq, Classical.not_not, reduceCtorEq, Nat.reduceAdd, Nat.reduceSub, Nat.reduceMul, Nat.reduceLT, Nat.reduceLeDiff, Nat.reduceEqDiff, Nat.reduceBEq, Int.reduceToNat, Int.reduceLE, Int.reduceLT, Int.reduceEq, Int.reduceNeg, Int.reduceAdd, Int.reduceSub, Int.reduceMul, Int.toNat_natCast, Nat.zero_add, Int.add_zero, Nat.add_zero, ite_true, ite_false, Option.some.injEq, Nat.le_refl, or_true, true_or, or_false, false_or, if_pos, reduceIte, Nat.reduceGT]
  rw [hn]
  refine ⟨rcv_ok rfl own8 rfl, kQ (x_read5 tx n M hn4 hb hx) (Nat.le_of_ble_eq_true rfl) rfl rfl (Nat.le_of_ble_eq_true rfl) (Nat.le_of_ble_eq_true rfl) rfl ?_⟩
  rintro r N ⟨rfl, h1, h2, h3⟩
  show S 23 _ [Sum.inl _] _ N
  refine wpx_ok hS bk46 (sp := sp46) 60 23 _ _ _ _ ?_
  simp only [LCM, B2, Bool.not_eq_false, Bool.not_eq_true, decide_eq_true_eq, decide_eq_false_iff_not, Int.not_lt, Int.not_le, CST, TN, WX, WA, WB, GS, LOC, BT46, SP46, CLS, FLD, ARR, CD, true_and, and_true, and_self, forall_const, true_implies, false_implies, implies_true, not_true_eq_false, not_false_eq_true, if_true, if_false, rgI, rgL, scr, swl, lkl, cats, cat, is2, List.drop_succ_cons, List.drop_zero, List.drop_nil, List.cons_append, List.nil_append, Option.toList_some, Option.toList_none, List.length_cons, List.length_nil, ne_eq, Classical.not_not, reduceCtorEq, Nat.reduceAdd, Nat.reduceSub, Nat.reduceMul, Nat.reduceLT, Nat.reduceLeDiff, Nat.reduceEqDiff, Nat.reduceBEq, Int.reduceToNat, Int.reduceLE, Int.reduceLT, Int.reduceEq, Int.reduceNeg, Int.reduceAdd, Int.reduceSub, Int.reduceMul, Int.toNat_natCast, Nat.zero_add, Int.add_zero, Nat.add_zero, ite_true, ite_false, Option.some.injEq, Nat.le_refl, or_true, true_or, or_false, false_or, if_pos, reduceIte, Nat.reduceGT]
  exact rt46 ⟨rfl, rfl, fun k j hk => h2 k j (fun z => hk (by unfold pfr5 at z; omega))⟩
theorem x_lay (tx : Nat → Int) (n : Nat) (M : MM) (hn4 : n ≤ 400) (hb : ∀ k, -128 ≤ tx k ∧ tx k ≤ 127) (hn : M 0 1 = n) (hx : ∀ k, k < n → M 1 k = tx k) :
    oQ 5 47 [vR 0] M (fun r M' => r = some (Sum.inl (f_lay (prs tx n n D0 0))) ∧ (layB (prs tx n n D0 0) = false → kC M M') ∧ (layB (prs tx n n D0 0) = true → RD18 M' (prs tx n n D0 0).1 ∧ M' 26 3 = 0 ∧ M' 0 8 = 0 ∧ ∀ k j, ¬ ((2 ≤ k ∧ k ≤ 17) ∨ pfr18 k j ∨ (k = 0 ∧ j = 8)) → M' k j = M k j)) := by
  have hrg := resF_rg (tx := tx) hn4
  have hwd := prs_WF (tx := tx) hn4 n D0 0 WFd_0
  have hr5 := x_read5 tx n M hn4 hb hx
  have hr18 := fun (N : MM) (h : ∀ k, k < n → N 1 k = tx k) => x_read18 tx n N hn4 hb h
  generalize prs tx n n D0 0 = Q at hrg hwd hr5 hr18 ⊢
  have hw1 := hwd.1
  refine go47 (fun S hS => ?_)
  refine wpx_ok hS bk47 (sp := sp47) 60 0 _ _ _ _ ?_
  simp only [LCM, B2, Bool.not_eq_false, Bool.not_eq_true, decide_eq_true_eq, decide_eq_false_iff_not, Int.not_lt, Int.not_le, CST, TN, WX, WA, WB, GS, LOC, BT47, SP47, CLS, FLD, ARR, CD, true_and, and_true, and_self, forall_const, true_implies, false_implies, implies_true, not_true_eq_false, not_false_eq_true, if_true, if_false, rgI, rgL, scr, swl, lkl, cats, cat, is2, List.drop_succ_cons, List.drop_zero, List.drop_nil, List.cons_append, List.nil_append, Option.toList_some, Option.toList_none, List.length_cons, List.length_nil, ne_eq, Classical.not_not, reduceCtorEq, Nat.reduceAdd, Nat.reduceSub, Nat.reduceMul, Nat.reduceLT, Nat.reduceLeDiff, Nat.reduceEqDiff, Nat.reduceBEq, Int.reduceToNat, Int.reduceLE, Int.reduceLT, Int.reduceEq, Int.reduceNeg, Int.reduceAdd, Int.reduceSub, Int.reduceMul, Int.toNat_natCast, Nat.zero_add, Int.add_zero, Nat.add_zero, ite_true, ite_false, Option.some.injEq, Nat.le_refl, or_true, true_or, or_false, false_or, if_pos, reduceIte, Nat.reduceGT]
  rw [hn]
  refine ⟨rcv_ok rfl own8 rfl, kQ (hr5) (Nat.le_of_ble_eq_true rfl) rfl rfl (Nat.le_of_ble_eq_true rfl) (Nat.le_of_ble_eq_true rfl) rfl ?_⟩
  rintro r N ⟨rfl, h1, h2, h3⟩
  have hk : kC M N := fun k j hk => h2 k j (fun z => hk (by unfold pfr5 at z; omega))
  have no : layB Q = false → Rtn 47 0 0 (fun r sh M' => sh = sh0 ∧ r = some (Sum.inl (f_lay Q)) ∧ (layB Q = false → kC M M') ∧ (layB Q = true → RD18 M' Q.1 ∧ M' 26 3 = 0 ∧ M' 0 8 = 0 ∧ ∀ k j, ¬ ((2 ≤ k ∧ k ≤ 17) ∨ pfr18 k j ∨ (k = 0 ∧ j = 8)) → M' k j = M k j)) (some (Sum.inl (-2))) (sh0, 0, 0) N := fun hl =>
    rt47 ⟨rfl, by unfold f_lay; rw [hl]; rfl, fun _ => hk, fun z => (by rw [hl] at z; cases z)⟩
  show S 23 _ [Sum.inl _] _ N
  by_cases h4 : resF Q = -4
  · have hR := h1 (resF_no h4).1
    refine wpx_ok hS bk47 (sp := sp47) 60 23 _ _ _ _ ?_
    simp only [LCM, B2, Bool.not_eq_false, Bool.not_eq_true, decide_eq_true_eq, decide_eq_false_iff_not, Int.not_lt, Int.not_le, CST, TN, WX, WA, WB, GS, LOC, BT47, SP47, CLS, FLD, ARR, CD, true_and, and_true, and_self, forall_const, true_implies, false_implies, implies_true, not_true_eq_false, not_false_eq_true, if_true, if_false, rgI, rgL, scr, swl, lkl, cats, cat, is2, List.drop_succ_cons, List.drop_zero, List.drop_nil, List.cons_append, List.nil_append, Option.toList_some, Option.toList_none, List.length_cons, List.length_nil, ne_eq, Classical.not_not, reduceCtorEq, Nat.reduceAdd, Nat.reduceSub, Nat.reduceMul, Nat.reduceLT, Nat.reduceLeDiff, Nat.reduceEqDiff, Nat.reduceBEq, Int.reduceToNat, Int.reduceLE, Int.reduceLT, Int.reduceEq, Int.reduceNeg, Int.reduceAdd, Int.reduceSub, Int.reduceMul, Int.toNat_natCast, Nat.zero_add, Int.add_zero, Nat.add_zero, ite_true, ite_false, Option.some.injEq, Nat.le_refl, or_true, true_or, or_false, false_or, if_pos, reduceIte, Nat.reduceGT]
    rw [hR.1.2.2.1, hk 0 1 (by omega), hn]
    refine ⟨by omega, fun h => absurd h4 h, fun _ => ⟨by omega, fun h5 => ?_, fun h5 => no (by unfold layB; exact decide_eq_false (fun z => z.2 h5))⟩⟩
    have hl : layB Q = true := by unfold layB; exact decide_eq_true ⟨h4, h5⟩
    refine ⟨rcv_ok rfl own8 rfl, kQ (hr18 N (fun k hk2 => by rw [hk 1 k (by omega)]; exact hx k hk2)) (Nat.le_of_ble_eq_true rfl) rfl rfl (Nat.le_of_ble_eq_true rfl) (Nat.le_of_ble_eq_true rfl) rfl ?_⟩
    rintro r N1 ⟨rfl, g1, g2, g3⟩
    have hR2 := g1 (resF_no h4).1
    show S 64 _ [Sum.inl _] _ N1
    refine wpx_ok hS bk47 (sp := sp47) 60 64 _ _ _ _ ?_
    simp only [LCM, B2, Bool.not_eq_false, Bool.not_eq_true, decide_eq_true_eq, decide_eq_false_iff_not, Int.not_lt, Int.not_le, CST, TN, WX, WA, WB, GS, LOC, BT47, SP47, CLS, FLD, ARR, CD, true_and, and_true, and_self, forall_const, true_implies, false_implies, implies_true, not_true_eq_false, not_false_eq_true, if_true, if_false, rgI, rgL, scr, swl, lkl, cats, cat, is2, List.drop_succ_cons, List.drop_zero, List.drop_nil, List.cons_append, List.nil_append, Option.toList_some, Option.toList_none, List.length_cons, List.length_nil, ne_eq, Classical.not_not, reduceCtorEq, Nat.reduceAdd, Nat.reduceSub, Nat.reduceMul, Nat.reduceLT, Nat.reduceLeDiff, Nat.reduceEqDiff, Nat.reduceBEq, Int.reduceToNat, Int.reduceLE, Int.reduceLT, Int.reduceEq, Int.reduceNeg, Int.reduceAdd, Int.reduceSub, Int.reduceMul, Int.toNat_natCast, Nat.zero_add, Int.add_zero, Nat.add_zero, ite_true, ite_false, Option.some.injEq, Nat.le_refl, or_true, true_or, or_false, false_or, if_pos, reduceIte, Nat.reduceGT, ms_ne, ms_eq, ms_nj]
    rw [hR2.1.2.2.1]
    refine rt47 ⟨rfl, by unfold f_lay; rw [hl, if_pos rfl], fun z => (by rw [hl] at z; cases z), fun _ => ⟨hR2.keep (fun k j hk2 => ms_ne (by omega) j), by rw [ms_ne (by decide)]; exact g3, ms_eq, fun k j hk2 => ?_⟩⟩
    rw [← h2 k j (fun z => hk2 (Or.inl (by unfold pfr5 at z; omega))), ← g2 k j (fun z => hk2 (Or.inr (Or.inl z)))]
    unfold mset
    rw [if_neg (fun z => hk2 (Or.inr (Or.inr z)))]
  · refine wpx_ok hS bk47 (sp := sp47) 60 23 _ _ _ _ ?_
    simp only [LCM, B2, Bool.not_eq_false, Bool.not_eq_true, decide_eq_true_eq, decide_eq_false_iff_not, Int.not_lt, Int.not_le, CST, TN, WX, WA, WB, GS, LOC, BT47, SP47, CLS, FLD, ARR, CD, true_and, and_true, and_self, forall_const, true_implies, false_implies, implies_true, not_true_eq_false, not_false_eq_true, if_true, if_false, rgI, rgL, scr, swl, lkl, cats, cat, is2, List.drop_succ_cons, List.drop_zero, List.drop_nil, List.cons_append, List.nil_append, Option.toList_some, Option.toList_none, List.length_cons, List.length_nil, ne_eq, Classical.not_not, reduceCtorEq, Nat.reduceAdd, Nat.reduceSub, Nat.reduceMul, Nat.reduceLT, Nat.reduceLeDiff, Nat.reduceEqDiff, Nat.reduceBEq, Int.reduceToNat, Int.reduceLE, Int.reduceLT, Int.reduceEq, Int.reduceNeg, Int.reduceAdd, Int.reduceSub, Int.reduceMul, Int.toNat_natCast, Nat.zero_add, Int.add_zero, Nat.add_zero, ite_true, ite_false, Option.some.injEq, Nat.le_refl, or_true, true_or, or_false, false_or, if_pos, reduceIte, Nat.reduceGT]
    refine ⟨by omega, fun _ => no (by unfold layB; exact decide_eq_false (fun z => h4 z.1)), fun h => absurd h h4⟩

theorem m_isAll (M : MM) (hW : WFt M) : oI 6 138 [vR 55] M (b2i (alS M)) := by
  have hP := hW.P
  refine go138 (fun S hS => ?_)
  have fin0 : alS M = false → ∀ d : Nat, d ≤ PN M → S 4 [some (vR 55), some (vI 0), some (vI d)] [] (sh0, 0, 0) M := by
    intro he d hd
    refine wpx_ok hS bk138 (sp := sp138) 60 4 _ _ _ _ ?_
    simp only [LCM, B2, Bool.not_eq_false, Bool.not_eq_true, decide_eq_true_eq, decide_eq_false_iff_not, Int.not_lt, Int.not_le, CST, TN, WX, WA, WB, GS, LOC, BT138, SP138, CLS, FLD, ARR, CD, true_and, and_true, and_self, forall_const, true_implies, false_implies, implies_true, not_true_eq_false, not_false_eq_true, if_true, if_false, rgI, rgL, scr, swl, lkl, cats, cat, is2, List.drop_succ_cons, List.drop_zero, List.drop_nil, List.cons_append, List.nil_append, Option.toList_some, Option.toList_none, List.length_cons, List.length_nil, ne_eq, Classical.not_not, reduceCtorEq, Nat.reduceAdd, Nat.reduceSub, Nat.reduceMul, Nat.reduceLT, Nat.reduceLeDiff, Nat.reduceEqDiff, Nat.reduceBEq, Int.reduceToNat, Int.reduceLE, Int.reduceLT, Int.reduceEq, Int.reduceNeg, Int.reduceAdd, Int.reduceSub, Int.reduceMul, Int.toNat_natCast, Nat.zero_add, Int.add_zero, Nat.add_zero, ite_true, ite_false, Option.some.injEq, Nat.le_refl, or_true, true_or, or_false, false_or, if_pos, reduceIte, Nat.reduceGT]
    refine ⟨rcv_ok rfl own119 rfl, kI (m_period M hW) (Nat.le_of_ble_eq_true rfl) rfl rfl (Nat.le_of_ble_eq_true rfl) (Nat.le_of_ble_eq_true rfl) rfl ?_⟩
    refine wpx_ok hS bk138 (sp := sp138) 60 9 _ _ _ _ ?_
    simp only [LCM, B2, Bool.not_eq_false, Bool.not_eq_true, decide_eq_true_eq, decide_eq_false_iff_not, Int.not_lt, Int.not_le, CST, TN, WX, WA, WB, GS, LOC, BT138, SP138, CLS, FLD, ARR, CD, true_and, and_true, and_self, forall_const, true_implies, false_implies, implies_true, not_true_eq_false, not_false_eq_true, if_true, if_false, rgI, rgL, scr, swl, lkl, cats, cat, is2, List.drop_succ_cons, List.drop_zero, List.drop_nil, List.cons_append, List.nil_append, Option.toList_some, Option.toList_none, List.length_cons, List.length_nil, ne_eq, Classical.not_not, reduceCtorEq, Nat.reduceAdd, Nat.reduceSub, Nat.reduceMul, Nat.reduceLT, Nat.reduceLeDiff, Nat.reduceEqDiff, Nat.reduceBEq, Int.reduceToNat, Int.reduceLE, Int.reduceLT, Int.reduceEq, Int.reduceNeg, Int.reduceAdd, Int.reduceSub, Int.reduceMul, Int.toNat_natCast, Nat.zero_add, Int.add_zero, Nat.add_zero, ite_true, ite_false, Option.some.injEq, Nat.le_refl, or_true, true_or, or_false, false_or, if_pos, reduceIte, Nat.reduceGT]
    rw [he]
    exact ⟨by omega, fun h => rt138 (by decide) ⟨rfl, rfl, rfl⟩, fun h => rt138 (by decide) ⟨rfl, rfl, rfl⟩⟩
  have head : ∀ (n d : Nat), d + n = PN M → fstF (fun d => anyS M d) d n = fstF (fun d => anyS M d) 0 (PN M) → S 4 [some (vR 55), some (vI 1), some (vI d)] [] (sh0, 0, 0) M := by
    intro n
    induction n with
    | zero =>
      intro d hd hf
      refine wpx_ok hS bk138 (sp := sp138) 60 4 _ _ _ _ ?_
      simp only [LCM, B2, Bool.not_eq_false, Bool.not_eq_true, decide_eq_true_eq, decide_eq_false_iff_not, Int.not_lt, Int.not_le, CST, TN, WX, WA, WB, GS, LOC, BT138, SP138, CLS, FLD, ARR, CD, true_and, and_true, and_self, forall_const, true_implies, false_implies, implies_true, not_true_eq_false, not_false_eq_true, if_true, if_false, rgI, rgL, scr, swl, lkl, cats, cat, is2, List.drop_succ_cons, List.drop_zero, List.drop_nil, List.cons_append, List.nil_append, Option.toList_some, Option.toList_none, List.length_cons, List.length_nil, ne_eq, Classical.not_not, reduceCtorEq, Nat.reduceAdd, Nat.reduceSub, Nat.reduceMul, Nat.reduceLT, Nat.reduceLeDiff, Nat.reduceEqDiff, Nat.reduceBEq, Int.reduceToNat, Int.reduceLE, Int.reduceLT, Int.reduceEq, Int.reduceNeg, Int.reduceAdd, Int.reduceSub, Int.reduceMul, Int.toNat_natCast, Nat.zero_add, Int.add_zero, Nat.add_zero, ite_true, ite_false, Option.some.injEq, Nat.le_refl, or_true, true_or, or_false, false_or, if_pos, reduceIte, Nat.reduceGT]
      refine ⟨rcv_ok rfl own119 rfl, kI (m_period M hW) (Nat.le_of_ble_eq_true rfl) rfl rfl (Nat.le_of_ble_eq_true rfl) (Nat.le_of_ble_eq_true rfl) rfl ?_⟩
      refine wpx_ok hS bk138 (sp := sp138) 60 9 _ _ _ _ ?_
      simp only [LCM, B2, Bool.not_eq_false, Bool.not_eq_true, decide_eq_true_eq, decide_eq_false_iff_not, Int.not_lt, Int.not_le, CST, TN, WX, WA, WB, GS, LOC, BT138, SP138, CLS, FLD, ARR, CD, true_and, and_true, and_self, forall_const, true_implies, false_implies, implies_true, not_true_eq_false, not_false_eq_true, if_true, if_false, rgI, rgL, scr, swl, lkl, cats, cat, is2, List.drop_succ_cons, List.drop_zero, List.drop_nil, List.cons_append, List.nil_append, Option.toList_some, Option.toList_none, List.length_cons, List.length_nil, ne_eq, Classical.not_not, reduceCtorEq, Nat.reduceAdd, Nat.reduceSub, Nat.reduceMul, Nat.reduceLT, Nat.reduceLeDiff, Nat.reduceEqDiff, Nat.reduceBEq, Int.reduceToNat, Int.reduceLE, Int.reduceLT, Int.reduceEq, Int.reduceNeg, Int.reduceAdd, Int.reduceSub, Int.reduceMul, Int.toNat_natCast, Nat.zero_add, Int.add_zero, Nat.add_zero, ite_true, ite_false, Option.some.injEq, Nat.le_refl, or_true, true_or, or_false, false_or, if_pos, reduceIte, Nat.reduceGT]
      refine ⟨by omega, fun h => rt138 (by decide) ⟨rfl, ?_, rfl⟩, fun h => by omega⟩
      unfold alS
      rw [← hf]
      rfl
    | succ n ih =>
      intro d hd hf
      rw [fstF] at hf
      have hr := shO_rg (d := (d : Int)) hW
      refine wpx_ok hS bk138 (sp := sp138) 60 4 _ _ _ _ ?_
      simp only [LCM, B2, Bool.not_eq_false, Bool.not_eq_true, decide_eq_true_eq, decide_eq_false_iff_not, Int.not_lt, Int.not_le, CST, TN, WX, WA, WB, GS, LOC, BT138, SP138, CLS, FLD, ARR, CD, true_and, and_true, and_self, forall_const, true_implies, false_implies, implies_true, not_true_eq_false, not_false_eq_true, if_true, if_false, rgI, rgL, scr, swl, lkl, cats, cat, is2, List.drop_succ_cons, List.drop_zero, List.drop_nil, List.cons_append, List.nil_append, Option.toList_some, Option.toList_none, List.length_cons, List.length_nil, ne_eq, Classical.not_not, reduceCtorEq, Nat.reduceAdd, Nat.reduceSub, Nat.reduceMul, Nat.reduceLT, Nat.reduceLeDiff, Nat.reduceEqDiff, Nat.reduceBEq, Int.reduceToNat, Int.reduceLE, Int.reduceLT, Int.reduceEq, Int.reduceNeg, Int.reduceAdd, Int.reduceSub, Int.reduceMul, Int.toNat_natCast, Nat.zero_add, Int.add_zero, Nat.add_zero, ite_true, ite_false, Option.some.injEq, Nat.le_refl, or_true, true_or, or_false, false_or, if_pos, reduceIte, Nat.reduceGT]
      refine ⟨rcv_ok rfl own119 rfl, kI (m_period M hW) (Nat.le_of_ble_eq_true rfl) rfl rfl (Nat.le_of_ble_eq_true rfl) (Nat.le_of_ble_eq_true rfl) rfl ?_⟩
      refine wpx_ok hS bk138 (sp := sp138) 60 9 _ _ _ _ ?_
      simp only [LCM, B2, Bool.not_eq_false, Bool.not_eq_true, decide_eq_true_eq, decide_eq_false_iff_not, Int.not_lt, Int.not_le, CST, TN, WX, WA, WB, GS, LOC, BT138, SP138, CLS, FLD, ARR, CD, true_and, and_true, and_self, forall_const, true_implies, false_implies, implies_true, not_true_eq_false, not_false_eq_true, if_true, if_false, rgI, rgL, scr, swl, lkl, cats, cat, is2, List.drop_succ_cons, List.drop_zero, List.drop_nil, List.cons_append, List.nil_append, Option.toList_some, Option.toList_none, List.length_cons, List.length_nil, ne_eq, Classical.not_not, reduceCtorEq, Nat.reduceAdd, Nat.reduceSub, Nat.reduceMul, Nat.reduceLT, Nat.reduceLeDiff, Nat.reduceEqDiff, Nat.reduceBEq, Int.reduceToNat, Int.reduceLE, Int.reduceLT, Int.reduceEq, Int.reduceNeg, Int.reduceAdd, Int.reduceSub, Int.reduceMul, Int.toNat_natCast, Nat.zero_add, Int.add_zero, Nat.add_zero, ite_true, ite_false, Option.some.injEq, Nat.le_refl, or_true, true_or, or_false, false_or, if_pos, reduceIte, Nat.reduceGT]
      refine ⟨by omega, fun h => by omega, fun h => ⟨by omega, ?_⟩⟩
      refine ⟨rcv_ok rfl own126 rfl, kI (m_shortOn d M hW (by omega)) (Nat.le_of_ble_eq_true rfl) rfl rfl (Nat.le_of_ble_eq_true rfl) (Nat.le_of_ble_eq_true rfl) rfl ?_⟩
      refine wpx_ok hS bk138 (sp := sp138) 60 22 _ _ _ _ ?_
      simp only [LCM, B2, Bool.not_eq_false, Bool.not_eq_true, decide_eq_true_eq, decide_eq_false_iff_not, Int.not_lt, Int.not_le, CST, TN, WX, WA, WB, GS, LOC, BT138, SP138, CLS, FLD, ARR, CD, true_and, and_true, and_self, forall_const, true_implies, false_implies, implies_true, not_true_eq_false, not_false_eq_true, if_true, if_false, rgI, rgL, scr, swl, lkl, cats, cat, is2, List.drop_succ_cons, List.drop_zero, List.drop_nil, List.cons_append, List.nil_append, Option.toList_some, Option.toList_none, List.length_cons, List.length_nil, ne_eq, Classical.not_not, reduceCtorEq, Nat.reduceAdd, Nat.reduceSub, Nat.reduceMul, Nat.reduceLT, Nat.reduceLeDiff, Nat.reduceEqDiff, Nat.reduceBEq, Int.reduceToNat, Int.reduceLE, Int.reduceLT, Int.reduceEq, Int.reduceNeg, Int.reduceAdd, Int.reduceSub, Int.reduceMul, Int.toNat_natCast, Nat.zero_add, Int.add_zero, Nat.add_zero, ite_true, ite_false, Option.some.injEq, Nat.le_refl, or_true, true_or, or_false, false_or, if_pos, reduceIte, Nat.reduceGT]
      refine ⟨by omega, fun h1 => ?_, fun h1 => ?_⟩
      · rw [hr.2.2.mpr h1, if_pos rfl] at hf
        refine fin0 ?_ (d + 1) (by omega)
        unfold alS
        rw [← hf]
        rfl
      · have h2 : anyS M d = false := by
          cases hq : anyS M d with
          | false => rfl
          | true => have := hr.2.2.mp hq; omega
        rw [h2] at hf
        exact ih (d + 1) (by omega) hf
  refine wpx_ok hS bk138 (sp := sp138) 60 0 _ _ _ _ ?_
  simp only [LCM, B2, Bool.not_eq_false, Bool.not_eq_true, decide_eq_true_eq, decide_eq_false_iff_not, Int.not_lt, Int.not_le, CST, TN, WX, WA, WB, GS, LOC, BT138, SP138, CLS, FLD, ARR, CD, true_and, and_true, and_self, forall_const, true_implies, false_implies, implies_true, not_true_eq_false, not_false_eq_true, if_true, if_false, rgI, rgL, scr, swl, lkl, cats, cat, is2, List.drop_succ_cons, List.drop_zero, List.drop_nil, List.cons_append, List.nil_append, Option.toList_some, Option.toList_none, List.length_cons, List.length_nil, ne_eq, Classical.not_not, reduceCtorEq, Nat.reduceAdd, Nat.reduceSub, Nat.reduceMul, Nat.reduceLT, Nat.reduceLeDiff, Nat.reduceEqDiff, Nat.reduceBEq, Int.reduceToNat, Int.reduceLE, Int.reduceLT, Int.reduceEq, Int.reduceNeg, Int.reduceAdd, Int.reduceSub, Int.reduceMul, Int.toNat_natCast, Nat.zero_add, Int.add_zero, Nat.add_zero, ite_true, ite_false, Option.some.injEq, Nat.le_refl, or_true, true_or, or_false, false_or, if_pos, reduceIte, Nat.reduceGT]
  exact head (PN M) 0 (by omega) rfl
theorem m_fitsSeen (M : MM) (hW : WFt M) (hs : WFs M) : oI 5 139 [vR 55] M (b2i (fsB M (M 55 11).toNat)) := by
  have hW2 := hW.W
  have h20 := hs.1
  refine go139 (fun S hS => ?_)
  have fin0 : fsB M (M 55 11).toNat = false → ∀ d : Nat, d ≤ (M 55 11).toNat → S 4 [some (vR 55), some (vI 0), some (vI d)] [] (sh0, 0, 0) M := by
    intro he d hd
    refine wpx_ok hS bk139 (sp := sp139) 60 4 _ _ _ _ ?_
    simp only [LCM, B2, Bool.not_eq_false, Bool.not_eq_true, decide_eq_true_eq, decide_eq_false_iff_not, Int.not_lt, Int.not_le, CST, TN, WX, WA, WB, GS, LOC, BT139, SP139, CLS, FLD, ARR, CD, true_and, and_true, and_self, forall_const, true_implies, false_implies, implies_true, not_true_eq_false, not_false_eq_true, if_true, if_false, rgI, rgL, scr, swl, lkl, cats, cat, is2, List.drop_succ_cons, List.drop_zero, List.drop_nil, List.cons_append, List.nil_append, Option.toList_some, Option.toList_none, List.length_cons, List.length_nil, ne_eq, Classical.not_not, reduceCtorEq, Nat.reduceAdd, Nat.reduceSub, Nat.reduceMul, Nat.reduceLT, Nat.reduceLeDiff, Nat.reduceEqDiff, Nat.reduceBEq, Int.reduceToNat, Int.reduceLE, Int.reduceLT, Int.reduceEq, Int.reduceNeg, Int.reduceAdd, Int.reduceSub, Int.reduceMul, Int.toNat_natCast, Nat.zero_add, Int.add_zero, Nat.add_zero, ite_true, ite_false, Option.some.injEq, Nat.le_refl, or_true, true_or, or_false, false_or, if_pos, reduceIte, Nat.reduceGT]
    rw [he]
    exact ⟨by omega, fun h => rt139 (by decide) ⟨rfl, rfl, rfl⟩, fun h => rt139 (by decide) ⟨rfl, rfl, rfl⟩⟩
  have head : ∀ (n d : Nat), d + n = (M 55 11).toNat → fstF (bdS M) d n = fstF (bdS M) 0 (M 55 11).toNat → S 4 [some (vR 55), some (vI 1), some (vI d)] [] (sh0, 0, 0) M := by
    intro n
    induction n with
    | zero =>
      intro d hd hf
      refine wpx_ok hS bk139 (sp := sp139) 60 4 _ _ _ _ ?_
      simp only [LCM, B2, Bool.not_eq_false, Bool.not_eq_true, decide_eq_true_eq, decide_eq_false_iff_not, Int.not_lt, Int.not_le, CST, TN, WX, WA, WB, GS, LOC, BT139, SP139, CLS, FLD, ARR, CD, true_and, and_true, and_self, forall_const, true_implies, false_implies, implies_true, not_true_eq_false, not_false_eq_true, if_true, if_false, rgI, rgL, scr, swl, lkl, cats, cat, is2, List.drop_succ_cons, List.drop_zero, List.drop_nil, List.cons_append, List.nil_append, Option.toList_some, Option.toList_none, List.length_cons, List.length_nil, ne_eq, Classical.not_not, reduceCtorEq, Nat.reduceAdd, Nat.reduceSub, Nat.reduceMul, Nat.reduceLT, Nat.reduceLeDiff, Nat.reduceEqDiff, Nat.reduceBEq, Int.reduceToNat, Int.reduceLE, Int.reduceLT, Int.reduceEq, Int.reduceNeg, Int.reduceAdd, Int.reduceSub, Int.reduceMul, Int.toNat_natCast, Nat.zero_add, Int.add_zero, Nat.add_zero, ite_true, ite_false, Option.some.injEq, Nat.le_refl, or_true, true_or, or_false, false_or, if_pos, reduceIte, Nat.reduceGT]
      refine ⟨by omega, fun h => rt139 (by decide) ⟨rfl, ?_, rfl⟩, fun h => by omega⟩
      unfold fsB
      rw [← hf]
      rfl
    | succ n ih =>
      intro d hd hf
      rw [fstF] at hf
      have hk := hs.2 d (by omega)
      obtain ⟨w, hw⟩ : ∃ w : Nat, M 66 d = (w : Int) := ⟨(M 66 d).toNat, by omega⟩
      refine wpx_ok hS bk139 (sp := sp139) 60 4 _ _ _ _ ?_
      simp only [LCM, B2, Bool.not_eq_false, Bool.not_eq_true, decide_eq_true_eq, decide_eq_false_iff_not, Int.not_lt, Int.not_le, CST, TN, WX, WA, WB, GS, LOC, BT139, SP139, CLS, FLD, ARR, CD, true_and, and_true, and_self, forall_const, true_implies, false_implies, implies_true, not_true_eq_false, not_false_eq_true, if_true, if_false, rgI, rgL, scr, swl, lkl, cats, cat, is2, List.drop_succ_cons, List.drop_zero, List.drop_nil, List.cons_append, List.nil_append, Option.toList_some, Option.toList_none, List.length_cons, List.length_nil, ne_eq, Classical.not_not, reduceCtorEq, Nat.reduceAdd, Nat.reduceSub, Nat.reduceMul, Nat.reduceLT, Nat.reduceLeDiff, Nat.reduceEqDiff, Nat.reduceBEq, Int.reduceToNat, Int.reduceLE, Int.reduceLT, Int.reduceEq, Int.reduceNeg, Int.reduceAdd, Int.reduceSub, Int.reduceMul, Int.toNat_natCast, Nat.zero_add, Int.add_zero, Nat.add_zero, ite_true, ite_false, Option.some.injEq, Nat.le_refl, or_true, true_or, or_false, false_or, if_pos, reduceIte, Nat.reduceGT]
      rw [hw]
      refine ⟨by omega, fun h => by omega, fun h => ⟨by omega, by omega, ?_⟩⟩
      refine ⟨rcv_ok rfl own125 rfl, kI (m_isShort w (M 65 d) M hW (by omega) (by omega)) (Nat.le_of_ble_eq_true rfl) rfl rfl (Nat.le_of_ble_eq_true rfl) (Nat.le_of_ble_eq_true rfl) rfl ?_⟩
      have hbd : bdS M d = (shrt M w (M 65 d) == decide (M 67 d = 1)) := by unfold bdS; rw [hw]; rfl
      have hlast : ∀ x : Bool, bdS M d = !x → S 4 [some (vR 55), some (vI (b2i x)), some (vI ((d + 1 : Nat) : Int))] [] (sh0, 0, 0) M := by
        intro x hx
        rw [hx] at hf
        cases x with
        | true => exact ih (d + 1) (by omega) hf
        | false =>
          refine fin0 ?_ (d + 1) (by omega)
          unfold fsB
          rw [← hf]
          rfl
      refine wpx_ok hS bk139 (sp := sp139) 60 32 _ _ _ _ ?_
      simp only [LCM, B2, Bool.not_eq_false, Bool.not_eq_true, decide_eq_true_eq, decide_eq_false_iff_not, Int.not_lt, Int.not_le, CST, TN, WX, WA, WB, GS, LOC, BT139, SP139, CLS, FLD, ARR, CD, true_and, and_true, and_self, forall_const, true_implies, false_implies, implies_true, not_true_eq_false, not_false_eq_true, if_true, if_false, rgI, rgL, scr, swl, lkl, cats, cat, is2, List.drop_succ_cons, List.drop_zero, List.drop_nil, List.cons_append, List.nil_append, Option.toList_some, Option.toList_none, List.length_cons, List.length_nil, ne_eq, Classical.not_not, reduceCtorEq, Nat.reduceAdd, Nat.reduceSub, Nat.reduceMul, Nat.reduceLT, Nat.reduceLeDiff, Nat.reduceEqDiff, Nat.reduceBEq, Int.reduceToNat, Int.reduceLE, Int.reduceLT, Int.reduceEq, Int.reduceNeg, Int.reduceAdd, Int.reduceSub, Int.reduceMul, Int.toNat_natCast, Nat.zero_add, Int.add_zero, Nat.add_zero, ite_true, ite_false, Option.some.injEq, Nat.le_refl, or_true, true_or, or_false, false_or, if_pos, reduceIte, Nat.reduceGT]
      refine ⟨by omega, by omega, fun h1 => ?_, fun h1 => ?_⟩
      · refine hlast false ?_
        rw [hbd]
        rcases hk.2.2 with h6 | h6 <;> rw [h6] at h1 ⊢ <;> cases hsh : shrt M w (M 65 d) <;> rw [hsh] at h1 <;> first | rfl | (exact absurd h1 (by decide))
      · refine hlast true ?_
        rw [hbd]
        rcases hk.2.2 with h6 | h6 <;> rw [h6] at h1 ⊢ <;> cases hsh : shrt M w (M 65 d) <;> rw [hsh] at h1 <;> first | rfl | (exact absurd rfl h1)
  refine wpx_ok hS bk139 (sp := sp139) 60 0 _ _ _ _ ?_
  simp only [LCM, B2, Bool.not_eq_false, Bool.not_eq_true, decide_eq_true_eq, decide_eq_false_iff_not, Int.not_lt, Int.not_le, CST, TN, WX, WA, WB, GS, LOC, BT139, SP139, CLS, FLD, ARR, CD, true_and, and_true, and_self, forall_const, true_implies, false_implies, implies_true, not_true_eq_false, not_false_eq_true, if_true, if_false, rgI, rgL, scr, swl, lkl, cats, cat, is2, List.drop_succ_cons, List.drop_zero, List.drop_nil, List.cons_append, List.nil_append, Option.toList_some, Option.toList_none, List.length_cons, List.length_nil, ne_eq, Classical.not_not, reduceCtorEq, Nat.reduceAdd, Nat.reduceSub, Nat.reduceMul, Nat.reduceLT, Nat.reduceLeDiff, Nat.reduceEqDiff, Nat.reduceBEq, Int.reduceToNat, Int.reduceLE, Int.reduceLT, Int.reduceEq, Int.reduceNeg, Int.reduceAdd, Int.reduceSub, Int.reduceMul, Int.toNat_natCast, Nat.zero_add, Int.add_zero, Nat.add_zero, ite_true, ite_false, Option.some.injEq, Nat.le_refl, or_true, true_or, or_false, false_or, if_pos, reduceIte, Nat.reduceGT]
  exact head (M 55 11).toNat 0 (by omega) rfl
def stm (k j : Nat) : Prop := (74 ≤ k ∧ k ≤ 76) ∨ (k = 55 ∧ (j = 25 ∨ j = 26 ∨ j = 29))
def stc (k j : Nat) : Prop := (75 ≤ k ∧ k ≤ 76) ∨ (k = 55 ∧ (j = 25 ∨ j = 26 ∨ j = 29))
def mostC (M : MM) (b : Bool) : Int := if b then 0 else msV M (PN M)
def isF (M : MM) (b : Bool) : Bool := decide (M 55 25 = 0) || decide (mostC M b < M 55 26)
theorem m_counts (b : Bool) (M : MM) (hW : WFt M) (h25 : 0 ≤ M 55 25 ∧ M 55 25 ≤ 2000) (h26 : 0 ≤ M 55 26 ∧ M 55 26 ≤ 100) : oQ 5 141 [vR 55, vI (b2i b)] M (fun r M' => r = none ∧ M' 55 25 = M 55 25 + 1 ∧ M' 55 26 = (if isF M b then mostC M b else M 55 26) ∧
    (∀ i, i < hN M → M' 75 i = (if isF M b then M 61 (4 * i + 1) else M 75 i) ∧ M' 76 i = bOr (M 76 i) (bShl 1 (M 61 (4 * i + 1)))) ∧ ∀ k j, ¬ stc k j → M' k j = M k j) := by
  have hP := hW.P
  have hH := hW.H
  have hmr := msV_rg hW (PN M)
  have hmr2 := hmr.2.2 (by omega)
  refine go141 (fun S hS => ?_)
  have head : ∀ (most : Int) (N0 : MM), N0 55 25 = M 55 25 + 1 → N0 55 26 = (if isF M b then mostC M b else M 55 26) → (∀ k j, ¬ (k = 55 ∧ (j = 25 ∨ j = 26 ∨ j = 29)) → N0 k j = M k j) →
      ∀ (n i : Nat) (N : MM), i + n = hN M → (∀ x, x < i → N 75 x = (if isF M b then M 61 (4 * x + 1) else M 75 x) ∧ N 76 x = bOr (M 76 x) (bShl 1 (M 61 (4 * x + 1)))) → (∀ x, i ≤ x → N 75 x = M 75 x ∧ N 76 x = M 76 x) → (∀ k j, k ≠ 75 → k ≠ 76 → N k j = N0 k j) →
      S 63 [some (vR 55), some (vI (b2i b)), some (vI most), some (vI (b2i (isF M b))), some (vI i)] [] (sh0, 0, 0) N := by
    intro most N0 e25 e26 eF n
    induction n with
    | zero =>
      intro i N hi hlo hhi hF
      have e58 : N 58 0 = M 58 0 := by rw [hF 58 0 (by decide) (by decide)]; exact eF 58 0 (by omega)
      refine wpx_ok hS bk141 (sp := sp141) 60 63 _ _ _ _ ?_
      simp only [LCM, B2, Bool.not_eq_false, Bool.not_eq_true, decide_eq_true_eq, decide_eq_false_iff_not, Int.not_lt, Int.not_le, CST, TN, WX, WA, WB, GS, LOC, BT141, SP141, CLS, FLD, ARR, CD, true_and, and_true, and_self, forall_const, true_implies, false_implies, implies_true, not_true_eq_false, not_false_eq_true, if_true, if_false, rgI, rgL, scr, swl, lkl, cats, cat, is2, List.drop_succ_cons, List.drop_zero, List.drop_nil, List.cons_append, List.nil_append, Option.toList_some, Option.toList_none, List.length_cons, List.length_nil, ne_eq, Classical.not_not, reduceCtorEq, Nat.reduceAdd, Nat.reduceSub, Nat.reduceMul, Nat.reduceLT, Nat.reduceLeDiff, Nat.reduceEqDiff, Nat.reduceBEq, Int.reduceToNat, Int.reduceLE, Int.reduceLT, Int.reduceEq, Int.reduceNeg, Int.reduceAdd, Int.reduceSub, Int.reduceMul, Int.toNat_natCast, Nat.zero_add, Int.add_zero, Nat.add_zero, ite_true, ite_false, Option.some.injEq, Nat.le_refl, or_true, true_or, or_false, false_or, if_pos, reduceIte, Nat.reduceGT]
      rw [e58]
      refine ⟨by omega, fun h => rt141 (Nat.le_refl _) (Nat.le_refl _) ⟨rfl, rfl, ?_, ?_, fun x hx => hlo x (by omega), fun k j hk => ?_⟩, fun h => by omega⟩
      · rw [hF 55 25 (by decide) (by decide)]; exact e25
      · rw [hF 55 26 (by decide) (by decide)]; exact e26
      · unfold stc at hk
        rw [hF k j (by omega) (by omega)]
        exact eF k j (by omega)
    | succ n ih =>
      intro i N hi hlo hhi hF
      have e58 : N 58 0 = M 58 0 := by rw [hF 58 0 (by decide) (by decide)]; exact eF 58 0 (by omega)
      have e61 : ∀ j, N 61 j = M 61 j := fun j => by rw [hF 61 j (by decide) (by decide)]; exact eF 61 j (by omega)
      have hh := hhi i (by omega)
      have nxt : ∀ v : Int, v = (if isF M b then M 61 (4 * i + 1) else M 75 i) → S 63 [some (vR 55), some (vI (b2i b)), some (vI most), some (vI (b2i (isF M b))), some (vI ((i + 1 : Nat) : Int))] [] (sh0, 0, 0) (mset (mset N 75 i v) 76 i (bOr (N 76 i) (bShl 1 (N 61 (4 * i + 1))))) := by
        intro v hv
        refine ih (i + 1) _ (by omega) (fun x hx => ?_) (fun x hx => ?_) (fun k j h1 h2 => ?_)
        · by_cases hxi : x = i
          · subst hxi
            rw [ms_ne (by decide), ms_eq, ms_eq, hv, hh.2, e61]
            exact ⟨rfl, rfl⟩
          · rw [ms_ne (by decide), ms_nj hxi, ms_nj hxi, ms_ne (by decide)]
            exact hlo x (by omega)
        · rw [ms_ne (by decide), ms_nj (by omega), ms_nj (by omega), ms_ne (by decide)]
          exact hhi x (by omega)
        · rw [ms_ne h2, ms_ne h1]
          exact hF k j h1 h2
      refine wpx_ok hS bk141 (sp := sp141) 60 63 _ _ _ _ ?_
      simp only [LCM, B2, Bool.not_eq_false, Bool.not_eq_true, decide_eq_true_eq, decide_eq_false_iff_not, Int.not_lt, Int.not_le, CST, TN, WX, WA, WB, GS, LOC, BT141, SP141, CLS, FLD, ARR, CD, true_and, and_true, and_self, forall_const, true_implies, false_implies, implies_true, not_true_eq_false, not_false_eq_true, if_true, if_false, rgI, rgL, scr, swl, lkl, cats, cat, is2, List.drop_succ_cons, List.drop_zero, List.drop_nil, List.cons_append, List.nil_append, Option.toList_some, Option.toList_none, List.length_cons, List.length_nil, ne_eq, Classical.not_not, reduceCtorEq, Nat.reduceAdd, Nat.reduceSub, Nat.reduceMul, Nat.reduceLT, Nat.reduceLeDiff, Nat.reduceEqDiff, Nat.reduceBEq, Int.reduceToNat, Int.reduceLE, Int.reduceLT, Int.reduceEq, Int.reduceNeg, Int.reduceAdd, Int.reduceSub, Int.reduceMul, Int.toNat_natCast, Nat.zero_add, Int.add_zero, Nat.add_zero, ite_true, ite_false, Option.some.injEq, Nat.le_refl, or_true, true_or, or_false, false_or, if_pos, reduceIte, Nat.reduceGT, ms_ne, ms_eq, ms_nj]
      rw [e58]
      refine ⟨by omega, fun h => by omega, fun h => ⟨fun h1 => ?_, fun h1 => ?_⟩⟩
      · have := nxt (N 75 i) (by rw [h1, hh.1]; rfl)
        exact ⟨by omega, by omega, by omega, by omega, by omega, this⟩
      · have := nxt (N 61 (4 * i + 1)) (by rw [h1, e61]; rfl)
        exact ⟨by omega, by omega, by omega, by omega, by omega, this⟩
  have mid : ∀ N : MM, (∀ k j, ¬ (k = 55 ∧ j = 29) → N k j = M k j) → S 12 [some (vR 55), some (vI (b2i b)), none, none, none] [vI (mostC M b)] (sh0, 0, 0) N := by
    intro N hN0
    have e25 : N 55 25 = M 55 25 := hN0 55 25 (by omega)
    have e26 : N 55 26 = M 55 26 := hN0 55 26 (by omega)
    have hmb : 0 ≤ mostC M b ∧ mostC M b ≤ 10 := by unfold mostC; split <;> omega
    have fin : ∀ (v : Bool) (f : Int), v = isF M b → f = (if isF M b then mostC M b else M 55 26) → S 63 [some (vR 55), some (vI (b2i b)), some (vI (mostC M b)), some (vI (b2i v)), some (vI 0)] [] (sh0, 0, 0) (mset (mset N 55 25 (M 55 25 + 1)) 55 26 f) := by
      intro v f hv hf
      rw [hv]
      refine head (mostC M b) _ ?_ ?_ (fun k j hk => ?_) (hN M) 0 _ (by omega) (fun x hx => by omega) (fun x _ => ?_) (fun _ _ _ _ => rfl)
      · rfl
      · exact hf
      · unfold mset
        rw [if_neg (by omega), if_neg (by omega)]
        exact hN0 k j (by omega)
      · rw [ms_ne (by decide), ms_ne (by decide), ms_ne (by decide), ms_ne (by decide)]
        exact ⟨hN0 75 x (by omega), hN0 76 x (by omega)⟩
    refine wpx_ok hS bk141 (sp := sp141) 60 12 _ _ _ _ ?_
    simp only [LCM, B2, Bool.not_eq_false, Bool.not_eq_true, decide_eq_true_eq, decide_eq_false_iff_not, Int.not_lt, Int.not_le, CST, TN, WX, WA, WB, GS, LOC, BT141, SP141, CLS, FLD, ARR, CD, true_and, and_true, and_self, forall_const, true_implies, false_implies, implies_true, not_true_eq_false, not_false_eq_true, if_true, if_false, rgI, rgL, scr, swl, lkl, cats, cat, is2, List.drop_succ_cons, List.drop_zero, List.drop_nil, List.cons_append, List.nil_append, Option.toList_some, Option.toList_none, List.length_cons, List.length_nil, ne_eq, Classical.not_not, reduceCtorEq, Nat.reduceAdd, Nat.reduceSub, Nat.reduceMul, Nat.reduceLT, Nat.reduceLeDiff, Nat.reduceEqDiff, Nat.reduceBEq, Int.reduceToNat, Int.reduceLE, Int.reduceLT, Int.reduceEq, Int.reduceNeg, Int.reduceAdd, Int.reduceSub, Int.reduceMul, Int.toNat_natCast, Nat.zero_add, Int.add_zero, Nat.add_zero, ite_true, ite_false, Option.some.injEq, Nat.le_refl, or_true, true_or, or_false, false_or, if_pos, reduceIte, Nat.reduceGT, ms_ne, ms_eq, ms_nj]
    rw [e25, e26]
    refine ⟨by omega, fun h => ?_, fun h => ⟨by omega, fun h1 => ?_, fun h1 => ?_⟩⟩
    · have hv : isF M b = true := by unfold isF; rw [decide_eq_true h]; rfl
      exact fin true (mostC M b) hv.symm (by rw [hv]; rfl)
    · have hv : isF M b = false := by unfold isF; rw [decide_eq_false h, decide_eq_false (by omega)]; rfl
      have := fin false (M 55 26) hv.symm (by rw [hv]; rfl)
      exact this
    · have hv : isF M b = true := by unfold isF; rw [decide_eq_true h1]; simp
      exact fin true (mostC M b) hv.symm (by rw [hv]; rfl)
  refine wpx_ok hS bk141 (sp := sp141) 60 0 _ _ _ _ ?_
  simp only [LCM, B2, Bool.not_eq_false, Bool.not_eq_true, decide_eq_true_eq, decide_eq_false_iff_not, Int.not_lt, Int.not_le, CST, TN, WX, WA, WB, GS, LOC, BT141, SP141, CLS, FLD, ARR, CD, true_and, and_true, and_self, forall_const, true_implies, false_implies, implies_true, not_true_eq_false, not_false_eq_true, if_true, if_false, rgI, rgL, scr, swl, lkl, cats, cat, is2, List.drop_succ_cons, List.drop_zero, List.drop_nil, List.cons_append, List.nil_append, Option.toList_some, Option.toList_none, List.length_cons, List.length_nil, ne_eq, Classical.not_not, reduceCtorEq, Nat.reduceAdd, Nat.reduceSub, Nat.reduceMul, Nat.reduceLT, Nat.reduceLeDiff, Nat.reduceEqDiff, Nat.reduceBEq, Int.reduceToNat, Int.reduceLE, Int.reduceLT, Int.reduceEq, Int.reduceNeg, Int.reduceAdd, Int.reduceSub, Int.reduceMul, Int.toNat_natCast, Nat.zero_add, Int.add_zero, Nat.add_zero, ite_true, ite_false, Option.some.injEq, Nat.le_refl, or_true, true_or, or_false, false_or, if_pos, reduceIte, Nat.reduceGT]
  refine ⟨fun h => ?_, fun h => ?_⟩
  · refine ⟨rcv_ok rfl own135 rfl, kQ (m_mostRest M hW) (Nat.le_of_ble_eq_true rfl) rfl rfl (Nat.le_of_ble_eq_true rfl) (Nat.le_of_ble_eq_true rfl) rfl ?_⟩
    rintro r M' ⟨rfl, rfl⟩
    have := mid (mset M 55 29 (msD M (M 55 29) (PN M))) (fun k j hk => by unfold mset; rw [if_neg hk])
    unfold mostC at this
    rw [h] at this
    rw [h]
    exact this
  · have := mid M (fun _ _ _ => rfl)
    unfold mostC at this
    rw [h] at this
    rw [h]
    exact this

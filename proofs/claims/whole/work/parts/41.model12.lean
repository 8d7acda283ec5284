theorem cd_new {T : MM} {c i : Nat} (hi : i < hN T) (hn : newB T i = true) : cd T c 61 (4 * i + 1) = dig T c i := by
  rw [(cd_at c hi).2, hn, if_pos rfl]
theorem newB_iff {T : MM} {i : Nat} : newB T i = true ↔ T 64 i = 1 := by unfold newB; simp
theorem m_settled (i : Int) (M : MM) (hW : WFt M) (hs : WFs M) (hi : rgI i) : oQ 8 142 [vR 55, vI i] M (fun r M' => r = some (Sum.inl (f_settled M i)) ∧ ∀ k j, ¬ stm k j → M' k j = M k j) := by
  have hH := hW.H
  have hcs : 1 ≤ codes M ∧ codes M ≤ 1728 := pw_sm hW (n := hN M) (Nat.le_refl _)
  have hcr := cnt_rg (okC M false) (codes M)
  refine go142 (fun S hS => ?_)
  have fin : (i = -1 ∨ i = -2 ∨ isNewB M i = true) → S 35 [some (vR 55), some (vI i)] [] (sh0, 0, 0) M := by
    intro hok
    refine wpx_ok hS bk142 (sp := sp142) 60 35 _ _ _ _ ?_
    simp only [LCM, B2, Bool.not_eq_false, Bool.not_eq_true, decide_eq_true_eq, decide_eq_false_iff_not, Int.not_lt, Int.not_le, CST, TN, WX, WA, WB, GS, LOC, BT142, SP142, CLS, FLD, ARR, CD, true_and, and_true, and_self, forall_const, true_implies, false_implies, implies_true, not_true_eq_false, not_false_eq_true, if_true, if_false, rgI, rgL, scr, swl, lkl, cats, cat, is2, List.drop_succ_cons, List.drop_zero, List.drop_nil, List.cons_append, List.nil_append, Option.toList_some, Option.toList_none, List.length_cons, List.length_nil, ne_eq, Classical.not_not, reduceCtorEq, Nat.reduceAdd, Nat.reduceSub, Nat.reduceMul, Nat.reduceLT, Nat.reduceLeDiff, Nat.reduceEqDiff, Nat.reduceBEq, Int.reduceToNat, Int.reduceLE, Int.reduceLT, Int.reduceEq, Int.reduceNeg, Int.reduceAdd, Int.reduceSub, Int.reduceMul, Int.toNat_natCast, Nat.zero_add, Int.add_zero, Nat.add_zero, ite_true, ite_false, Option.some.injEq, Nat.le_refl, or_true, true_or, or_false, false_or, if_pos, reduceIte, Nat.reduceGT]
    refine ⟨rcv_ok rfl own140 rfl, kQ (m_settles false M hW hs) (Nat.le_of_ble_eq_true rfl) rfl rfl (Nat.le_of_ble_eq_true rfl) (Nat.le_of_ble_eq_true rfl) rfl ?_⟩
    rintro r N ⟨rfl, hF, h25, h26, h76⟩
    refine wpx_ok hS bk142 (sp := sp142) 60 40 _ _ _ _ ?_
    simp only [LCM, B2, Bool.not_eq_false, Bool.not_eq_true, decide_eq_true_eq, decide_eq_false_iff_not, Int.not_lt, Int.not_le, CST, TN, WX, WA, WB, GS, LOC, BT142, SP142, CLS, FLD, ARR, CD, true_and, and_true, and_self, forall_const, true_implies, false_implies, implies_true, not_true_eq_false, not_false_eq_true, if_true, if_false, rgI, rgL, scr, swl, lkl, cats, cat, is2, List.drop_succ_cons, List.drop_zero, List.drop_nil, List.cons_append, List.nil_append, Option.toList_some, Option.toList_none, List.length_cons, List.length_nil, ne_eq, Classical.not_not, reduceCtorEq, Nat.reduceAdd, Nat.reduceSub, Nat.reduceMul, Nat.reduceLT, Nat.reduceLeDiff, Nat.reduceEqDiff, Nat.reduceBEq, Int.reduceToNat, Int.reduceLE, Int.reduceLT, Int.reduceEq, Int.reduceNeg, Int.reduceAdd, Int.reduceSub, Int.reduceMul, Int.toNat_natCast, Nat.zero_add, Int.add_zero, Nat.add_zero, ite_true, ite_false, Option.some.injEq, Nat.le_refl, or_true, true_or, or_false, false_or, if_pos, reduceIte, Nat.reduceGT]
    rw [h25]
    refine ⟨hi, fun h => ⟨by omega, fun h1 => ⟨hi, fun h2 => ?_, fun h2 => ?_⟩, fun h1 => ?_⟩, fun h => ?_⟩
    · have hnw : isNewB M i = true := (hok.resolve_left h).resolve_left h2
      unfold isNewB at hnw
      simp only [Bool.and_eq_true, decide_eq_true_eq] at hnw
      obtain ⟨n, rfl⟩ : ∃ n : Nat, i = (n : Int) := ⟨i.toNat, by omega⟩
      rw [Int.toNat_natCast] at hnw
      have h3 := (h26 (by omega)).2 n (by omega)
      rw [Int.toNat_natCast]
      refine ⟨by omega, rt142 ⟨rfl, ?_, hF⟩⟩
      unfold f_settled
      rw [if_pos hok, if_neg h, if_neg h1, if_neg h2, h3, cd_new (by omega) hnw.2, Int.toNat_natCast]
    · refine rt142 ⟨rfl, ?_, hF⟩
      unfold f_settled
      rw [if_pos hok, if_neg h, if_neg h1, if_pos h2, (h26 (by omega)).1]
    · refine rt142 ⟨rfl, ?_, hF⟩
      unfold f_settled
      rw [if_pos hok, if_neg h, if_pos h1]
    · refine rt142 ⟨rfl, ?_, hF⟩
      unfold f_settled
      rw [if_pos hok, if_pos h]
  refine wpx_ok hS bk142 (sp := sp142) 60 0 _ _ _ _ ?_
  simp only [LCM, B2, Bool.not_eq_false, Bool.not_eq_true, decide_eq_true_eq, decide_eq_false_iff_not, Int.not_lt, Int.not_le, CST, TN, WX, WA, WB, GS, LOC, BT142, SP142, CLS, FLD, ARR, CD, true_and, and_true, and_self, forall_const, true_implies, false_implies, implies_true, not_true_eq_false, not_false_eq_true, if_true, if_false, rgI, rgL, scr, swl, lkl, cats, cat, is2, List.drop_succ_cons, List.drop_zero, List.drop_nil, List.cons_append, List.nil_append, Option.toList_some, Option.toList_none, List.length_cons, List.length_nil, ne_eq, Classical.not_not, reduceCtorEq, Nat.reduceAdd, Nat.reduceSub, Nat.reduceMul, Nat.reduceLT, Nat.reduceLeDiff, Nat.reduceEqDiff, Nat.reduceBEq, Int.reduceToNat, Int.reduceLE, Int.reduceLT, Int.reduceEq, Int.reduceNeg, Int.reduceAdd, Int.reduceSub, Int.reduceMul, Int.toNat_natCast, Nat.zero_add, Int.add_zero, Nat.add_zero, ite_true, ite_false, Option.some.injEq, Nat.le_refl, or_true, true_or, or_false, false_or, if_pos, reduceIte, Nat.reduceGT]
  refine ⟨hi, by omega, ?_⟩
  refine kI (c_in i (-2) (M 58 0 - 1) M (by unfold rgL rgI at *; omega) (by unfold rgL; omega) (by unfold rgL; omega)) (Nat.le_of_ble_eq_true rfl) rfl rfl (Nat.le_of_ble_eq_true rfl) (Nat.le_of_ble_eq_true rfl) rfl ?_
  refine wpx_ok hS bk142 (sp := (fun t => sp142 t || t == 35)) 60 17 _ _ _ _ ?_
  simp only [LCM, B2, Bool.not_eq_false, Bool.not_eq_true, decide_eq_true_eq, decide_eq_false_iff_not, Int.not_lt, Int.not_le, CST, TN, WX, WA, WB, GS, LOC, BT142, SP142, CLS, FLD, ARR, CD, true_and, and_true, and_self, forall_const, true_implies, false_implies, implies_true, not_true_eq_false, not_false_eq_true, if_true, if_false, rgI, rgL, scr, swl, lkl, cats, cat, is2, List.drop_succ_cons, List.drop_zero, List.drop_nil, List.cons_append, List.nil_append, Option.toList_some, Option.toList_none, List.length_cons, List.length_nil, ne_eq, Classical.not_not, reduceCtorEq, Nat.reduceAdd, Nat.reduceSub, Nat.reduceMul, Nat.reduceLT, Nat.reduceLeDiff, Nat.reduceEqDiff, Nat.reduceBEq, Int.reduceToNat, Int.reduceLE, Int.reduceLT, Int.reduceEq, Int.reduceNeg, Int.reduceAdd, Int.reduceSub, Int.reduceMul, Int.toNat_natCast, Nat.zero_add, Int.add_zero, Nat.add_zero, ite_true, ite_false, Option.some.injEq, Nat.le_refl, or_true, true_or, or_false, false_or, if_pos, reduceIte, Nat.reduceGT, Bool.or_false, Bool.false_or, Bool.or_true, Bool.true_or, beq_self_eq_true, Nat.reduceBEq]
  have bad : ¬ (i = -1 ∨ i = -2 ∨ isNewB M i = true) → f_settled M i = -1 := fun h => by unfold f_settled; rw [if_neg h]
  refine ⟨fun h => ?_, fun h => ⟨hi, fun h1 => ?_, fun h1 => ?_⟩⟩
  · refine rt142 ⟨rfl, ?_, fun _ _ _ => rfl⟩
    rw [bad]
    unfold isNewB
    simp only [Bool.and_eq_true, decide_eq_true_eq]
    omega
  · exact fin (by omega)
  · obtain ⟨n, rfl⟩ : ∃ n : Nat, i = (n : Int) := ⟨i.toNat, by omega⟩
    have h01 := (hW.2.2.2.2.2.2.2.1 n (by omega)).1
    rw [Int.toNat_natCast]
    refine ⟨by omega, by omega, fun h2 => ?_, fun h2 => ?_⟩
    · refine fin (Or.inr (Or.inr ?_))
      unfold isNewB
      simp only [Bool.and_eq_true, decide_eq_true_eq]
      refine ⟨by omega, ?_⟩
      rw [newB_iff, Int.toNat_natCast]
      omega
    · refine rt142 ⟨rfl, ?_, fun _ _ _ => rfl⟩
      rw [bad]
      unfold isNewB
      simp only [Bool.and_eq_true, decide_eq_true_eq]
      rw [newB_iff, Int.toNat_natCast]
      omega
theorem m_fits (i : Int) (a : Bool) (M : MM) (hW : WFt M) (hs : WFs M) (hi : rgI i) : oQ 8 151 [vR 55, vI i, vI (b2i a)] M (fun r M' => r = some (Sum.inl (f_fits M i a)) ∧ ∀ k j, ¬ stm k j → M' k j = M k j) := by
  have hH := hW.H
  have hcs : 1 ≤ codes M ∧ codes M ≤ 1728 := pw_sm hW (n := hN M) (Nat.le_refl _)
  have hcr := cnt_rg (okC M true) (codes M)
  refine go151 (fun S hS => ?_)
  have fin : (i = -1 ∨ isNewB M i = true) → S 35 [some (vR 55), some (vI i), some (vI (b2i a))] [] (sh0, 0, 0) M := by
    intro hok
    refine wpx_ok hS bk151 (sp := sp151) 60 35 _ _ _ _ ?_
    simp only [LCM, B2, Bool.not_eq_false, Bool.not_eq_true, decide_eq_true_eq, decide_eq_false_iff_not, Int.not_lt, Int.not_le, CST, TN, WX, WA, WB, GS, LOC, BT151, SP151, CLS, FLD, ARR, CD, true_and, and_true, and_self, forall_const, true_implies, false_implies, implies_true, not_true_eq_false, not_false_eq_true, if_true, if_false, rgI, rgL, scr, swl, lkl, cats, cat, is2, List.drop_succ_cons, List.drop_zero, List.drop_nil, List.cons_append, List.nil_append, Option.toList_some, Option.toList_none, List.length_cons, List.length_nil, ne_eq, Classical.not_not, reduceCtorEq, Nat.reduceAdd, Nat.reduceSub, Nat.reduceMul, Nat.reduceLT, Nat.reduceLeDiff, Nat.reduceEqDiff, Nat.reduceBEq, Int.reduceToNat, Int.reduceLE, Int.reduceLT, Int.reduceEq, Int.reduceNeg, Int.reduceAdd, Int.reduceSub, Int.reduceMul, Int.toNat_natCast, Nat.zero_add, Int.add_zero, Nat.add_zero, ite_true, ite_false, Option.some.injEq, Nat.le_refl, or_true, true_or, or_false, false_or, if_pos, reduceIte, Nat.reduceGT]
    refine ⟨rcv_ok rfl own140 rfl, kQ (m_settles true M hW hs) (Nat.le_of_ble_eq_true rfl) rfl rfl (Nat.le_of_ble_eq_true rfl) (Nat.le_of_ble_eq_true rfl) rfl ?_⟩
    rintro r N ⟨rfl, hF, h25, h26, h76⟩
    refine wpx_ok hS bk151 (sp := sp151) 60 40 _ _ _ _ ?_
    simp only [LCM, B2, Bool.not_eq_false, Bool.not_eq_true, decide_eq_true_eq, decide_eq_false_iff_not, Int.not_lt, Int.not_le, CST, TN, WX, WA, WB, GS, LOC, BT151, SP151, CLS, FLD, ARR, CD, true_and, and_true, and_self, forall_const, true_implies, false_implies, implies_true, not_true_eq_false, not_false_eq_true, if_true, if_false, rgI, rgL, scr, swl, lkl, cats, cat, is2, List.drop_succ_cons, List.drop_zero, List.drop_nil, List.cons_append, List.nil_append, Option.toList_some, Option.toList_none, List.length_cons, List.length_nil, ne_eq, Classical.not_not, reduceCtorEq, Nat.reduceAdd, Nat.reduceSub, Nat.reduceMul, Nat.reduceLT, Nat.reduceLeDiff, Nat.reduceEqDiff, Nat.reduceBEq, Int.reduceToNat, Int.reduceLE, Int.reduceLT, Int.reduceEq, Int.reduceNeg, Int.reduceAdd, Int.reduceSub, Int.reduceMul, Int.toNat_natCast, Nat.zero_add, Int.add_zero, Nat.add_zero, ite_true, ite_false, Option.some.injEq, Nat.le_refl, or_true, true_or, or_false, false_or, if_pos, reduceIte, Nat.reduceGT]
    rw [h25]
    refine ⟨hi, fun h => ⟨by omega, fun h1 => ?_, fun h1 => ?_⟩, fun h => ?_⟩
    · have hnw : isNewB M i = true := hok.resolve_left (by omega)
      unfold isNewB at hnw
      simp only [Bool.and_eq_true, decide_eq_true_eq] at hnw
      obtain ⟨n, rfl⟩ : ∃ n : Nat, i = (n : Int) := ⟨i.toNat, by omega⟩
      rw [Int.toNat_natCast] at hnw
      have h3 := (h26 (by omega)).2 n (by omega)
      have h4 := h76 n (by omega)
      rw [Int.toNat_natCast]
      refine ⟨fun h2 => ⟨by omega, rt151 ⟨rfl, ?_, hF⟩⟩, fun h2 => ⟨by omega, rt151 ⟨rfl, ?_, hF⟩⟩⟩
      · unfold f_fits
        rw [if_pos hok, if_neg (by omega), if_neg h1, h2, if_neg (by decide), h3, cd_new (by omega) hnw.2, Int.toNat_natCast]
      · unfold f_fits
        rw [if_pos hok, if_neg (by omega), if_neg h1, h2, if_pos rfl, h4, Int.toNat_natCast]
    · refine rt151 ⟨rfl, ?_, hF⟩
      unfold f_fits
      rw [if_pos hok, if_neg (by omega), if_pos h1]
    · have hi1 : i = -1 := by
        rcases hok with h1 | h1
        · exact h1
        · unfold isNewB at h1
          simp only [Bool.and_eq_true, decide_eq_true_eq] at h1
          omega
      refine rt151 ⟨rfl, ?_, hF⟩
      unfold f_fits
      rw [if_pos hok, if_pos hi1]
  refine wpx_ok hS bk151 (sp := sp151) 60 0 _ _ _ _ ?_
  simp only [LCM, B2, Bool.not_eq_false, Bool.not_eq_true, decide_eq_true_eq, decide_eq_false_iff_not, Int.not_lt, Int.not_le, CST, TN, WX, WA, WB, GS, LOC, BT151, SP151, CLS, FLD, ARR, CD, true_and, and_true, and_self, forall_const, true_implies, false_implies, implies_true, not_true_eq_false, not_false_eq_true, if_true, if_false, rgI, rgL, scr, swl, lkl, cats, cat, is2, List.drop_succ_cons, List.drop_zero, List.drop_nil, List.cons_append, List.nil_append, Option.toList_some, Option.toList_none, List.length_cons, List.length_nil, ne_eq, Classical.not_not, reduceCtorEq, Nat.reduceAdd, Nat.reduceSub, Nat.reduceMul, Nat.reduceLT, Nat.reduceLeDiff, Nat.reduceEqDiff, Nat.reduceBEq, Int.reduceToNat, Int.reduceLE, Int.reduceLT, Int.reduceEq, Int.reduceNeg, Int.reduceAdd, Int.reduceSub, Int.reduceMul, Int.toNat_natCast, Nat.zero_add, Int.add_zero, Nat.add_zero, ite_true, ite_false, Option.some.injEq, Nat.le_refl, or_true, true_or, or_false, false_or, if_pos, reduceIte, Nat.reduceGT]
  refine ⟨hi, by omega, ?_⟩
  refine kI (c_in i (-1) (M 58 0 - 1) M (by unfold rgL rgI at *; omega) (by unfold rgL; omega) (by unfold rgL; omega)) (Nat.le_of_ble_eq_true rfl) rfl rfl (Nat.le_of_ble_eq_true rfl) (Nat.le_of_ble_eq_true rfl) rfl ?_
  refine wpx_ok hS bk151 (sp := (fun t => sp151 t || t == 35)) 60 17 _ _ _ _ ?_
  simp only [LCM, B2, Bool.not_eq_false, Bool.not_eq_true, decide_eq_true_eq, decide_eq_false_iff_not, Int.not_lt, Int.not_le, CST, TN, WX, WA, WB, GS, LOC, BT151, SP151, CLS, FLD, ARR, CD, true_and, and_true, and_self, forall_const, true_implies, false_implies, implies_true, not_true_eq_false, not_false_eq_true, if_true, if_false, rgI, rgL, scr, swl, lkl, cats, cat, is2, List.drop_succ_cons, List.drop_zero, List.drop_nil, List.cons_append, List.nil_append, Option.toList_some, Option.toList_none, List.length_cons, List.length_nil, ne_eq, Classical.not_not, reduceCtorEq, Nat.reduceAdd, Nat.reduceSub, Nat.reduceMul, Nat.reduceLT, Nat.reduceLeDiff, Nat.reduceEqDiff, Nat.reduceBEq, Int.reduceToNat, Int.reduceLE, Int.reduceLT, Int.reduceEq, Int.reduceNeg, Int.reduceAdd, Int.reduceSub, Int.reduceMul, Int.toNat_natCast, Nat.zero_add, Int.add_zero, Nat.add_zero, ite_true, ite_false, Option.some.injEq, Nat.le_refl, or_true, true_or, or_false, false_or, if_pos, reduceIte, Nat.reduceGT, Bool.or_false, Bool.false_or, Bool.or_true, Bool.true_or, beq_self_eq_true, Nat.reduceBEq]
  have bad : ¬ (i = -1 ∨ isNewB M i = true) → f_fits M i a = -1 := fun h => by unfold f_fits; rw [if_neg h]
  refine ⟨fun h => ?_, fun h => ⟨hi, fun h1 => ?_, fun h1 => ?_⟩⟩
  · refine rt151 ⟨rfl, ?_, fun _ _ _ => rfl⟩
    rw [bad]
    unfold isNewB
    simp only [Bool.and_eq_true, decide_eq_true_eq]
    omega
  · exact fin (by omega)
  · obtain ⟨n, rfl⟩ : ∃ n : Nat, i = (n : Int) := ⟨i.toNat, by omega⟩
    have h01 := (hW.2.2.2.2.2.2.2.1 n (by omega)).1
    rw [Int.toNat_natCast]
    refine ⟨by omega, by omega, fun h2 => ?_, fun h2 => ?_⟩
    · refine fin (Or.inr ?_)
      unfold isNewB
      simp only [Bool.and_eq_true, decide_eq_true_eq]
      refine ⟨by omega, ?_⟩
      rw [newB_iff, Int.toNat_natCast]
      omega
    · refine rt151 ⟨rfl, ?_, fun _ _ _ => rfl⟩
      rw [bad]
      unfold isNewB
      simp only [Bool.and_eq_true, decide_eq_true_eq]
      rw [newB_iff, Int.toNat_natCast]
      omega
theorem m_settle (M : MM) (hW : WFt M) (hs : WFs M) : oQ 8 157 [vR 55] M (fun r M' => r = some (Sum.inl (f_settle M)) ∧ ∀ k j, ¬ stm k j → M' k j = g_settle M k j) := by
  have hH := hW.H
  have hcs : 1 ≤ codes M ∧ codes M ≤ 1728 := pw_sm hW (n := hN M) (Nat.le_refl _)
  have hcr := cnt_rg (okC M false) (codes M)
  have hnr := cnt_rg (newB M) (hN M)
  refine go157 (fun S hS => ?_)
  refine wpx_ok hS bk157 (sp := sp157) 60 0 _ _ _ _ ?_
  simp only [LCM, B2, Bool.not_eq_false, Bool.not_eq_true, decide_eq_true_eq, decide_eq_false_iff_not, Int.not_lt, Int.not_le, CST, TN, WX, WA, WB, GS, LOC, BT157, SP157, CLS, FLD, ARR, CD, true_and, and_true, and_self, forall_const, true_implies, false_implies, implies_true, not_true_eq_false, not_false_eq_true, if_true, if_false, rgI, rgL, scr, swl, lkl, cats, cat, is2, List.drop_succ_cons, List.drop_zero, List.drop_nil, List.cons_append, List.nil_append, Option.toList_some, Option.toList_none, List.length_cons, List.length_nil, ne_eq, Classical.not_not, reduceCtorEq, Nat.reduceAdd, Nat.reduceSub, Nat.reduceMul, Nat.reduceLT, Nat.reduceLeDiff, Nat.reduceEqDiff, Nat.reduceBEq, Int.reduceToNat, Int.reduceLE, Int.reduceLT, Int.reduceEq, Int.reduceNeg, Int.reduceAdd, Int.reduceSub, Int.reduceMul, Int.toNat_natCast, Nat.zero_add, Int.add_zero, Nat.add_zero, ite_true, ite_false, Option.some.injEq, Nat.le_refl, or_true, true_or, or_false, false_or, if_pos, reduceIte, Nat.reduceGT]
  refine ⟨rcv_ok rfl own156 rfl, kI (m_newMany M hW) (Nat.le_of_ble_eq_true rfl) rfl rfl (Nat.le_of_ble_eq_true rfl) (Nat.le_of_ble_eq_true rfl) rfl ?_⟩
  refine wpx_ok hS bk157 (sp := sp157) 60 4 _ _ _ _ ?_
  simp only [LCM, B2, Bool.not_eq_false, Bool.not_eq_true, decide_eq_true_eq, decide_eq_false_iff_not, Int.not_lt, Int.not_le, CST, TN, WX, WA, WB, GS, LOC, BT157, SP157, CLS, FLD, ARR, CD, true_and, and_true, and_self, forall_const, true_implies, false_implies, implies_true, not_true_eq_false, not_false_eq_true, if_true, if_false, rgI, rgL, scr, swl, lkl, cats, cat, is2, List.drop_succ_cons, List.drop_zero, List.drop_nil, List.cons_append, List.nil_append, Option.toList_some, Option.toList_none, List.length_cons, List.length_nil, ne_eq, Classical.not_not, reduceCtorEq, Nat.reduceAdd, Nat.reduceSub, Nat.reduceMul, Nat.reduceLT, Nat.reduceLeDiff, Nat.reduceEqDiff, Nat.reduceBEq, Int.reduceToNat, Int.reduceLE, Int.reduceLT, Int.reduceEq, Int.reduceNeg, Int.reduceAdd, Int.reduceSub, Int.reduceMul, Int.toNat_natCast, Nat.zero_add, Int.add_zero, Nat.add_zero, ite_true, ite_false, Option.some.injEq, Nat.le_refl, or_true, true_or, or_false, false_or, if_pos, reduceIte, Nat.reduceGT]
  refine ⟨rcv_ok rfl own140 rfl, kQ (m_settles false M hW hs) (Nat.le_of_ble_eq_true rfl) rfl rfl (Nat.le_of_ble_eq_true rfl) (Nat.le_of_ble_eq_true rfl) rfl ?_⟩
  rintro r N ⟨rfl, hF, h25, h26, h76⟩
  refine wpx_ok hS bk157 (sp := sp157) 60 10 _ _ _ _ ?_
  simp only [LCM, B2, Bool.not_eq_false, Bool.not_eq_true, decide_eq_true_eq, decide_eq_false_iff_not, Int.not_lt, Int.not_le, CST, TN, WX, WA, WB, GS, LOC, BT157, SP157, CLS, FLD, ARR, CD, true_and, and_true, and_self, forall_const, true_implies, false_implies, implies_true, not_true_eq_false, not_false_eq_true, if_true, if_false, rgI, rgL, scr, swl, lkl, cats, cat, is2, List.drop_succ_cons, List.drop_zero, List.drop_nil, List.cons_append, List.nil_append, Option.toList_some, Option.toList_none, List.length_cons, List.length_nil, ne_eq, Classical.not_not, reduceCtorEq, Nat.reduceAdd, Nat.reduceSub, Nat.reduceMul, Nat.reduceLT, Nat.reduceLeDiff, Nat.reduceEqDiff, Nat.reduceBEq, Int.reduceToNat, Int.reduceLE, Int.reduceLT, Int.reduceEq, Int.reduceNeg, Int.reduceAdd, Int.reduceSub, Int.reduceMul, Int.toNat_natCast, Nat.zero_add, Int.add_zero, Nat.add_zero, ite_true, ite_false, Option.some.injEq, Nat.le_refl, or_true, true_or, or_false, false_or, if_pos, reduceIte, Nat.reduceGT]
  rw [h25]
  have hbad : okSt M = false → Rtn 157 0 0 (fun r sh M' => sh = sh0 ∧ r = some (Sum.inl (f_settle M)) ∧ ∀ k j, ¬ stm k j → M' k j = g_settle M k j) (some (Sum.inl (-2))) (sh0, 0, 0) N := by
    intro h
    refine rt157 ⟨rfl, ?_, fun k j hk => ?_⟩
    · unfold f_settle; rw [h]; rfl
    · unfold g_settle; rw [h]; exact hF k j hk
  refine ⟨by omega, fun h => ?_, fun h => ⟨by omega, fun h1 => ?_, fun h1 => ?_⟩⟩
  · exact hbad (by unfold okSt; rw [decide_eq_false (by omega)]; rfl)
  · have hok : okSt M = true := by unfold okSt; rw [decide_eq_true h, decide_eq_true h1]; rfl
    have h75 := (h26 (by omega)).2
    have head : ∀ (n i : Nat) (N1 : MM), i + n = hN M → (∀ k j, ¬ stm k j → k ≠ 61 → k ≠ 64 → N1 k j = M k j) → (∀ x, x < hN M → N1 75 x = cd M (bsC M false (codes M)) 61 (4 * x + 1)) →
        (∀ x, x < i → N1 61 (4 * x + 1) = cd M (bsC M false (codes M)) 61 (4 * x + 1)) → (∀ j, (∀ x, x < i → j ≠ 4 * x + 1) → N1 61 j = M 61 j) → (∀ j, N1 64 j = if j < i then 0 else M 64 j) → S 26 [some (vR 55), some (vI (cnt (newB M) (hN M))), some (vI i)] [] (sh0, 0, 0) N1 := by
      intro n
      induction n with
      | zero =>
        intro i N1 hi hG g75 g1 g2 g3
        have hii : i = hN M := by omega
        subst hii
        refine wpx_ok hS bk157 (sp := sp157) 60 26 _ _ _ _ ?_
        simp only [LCM, B2, Bool.not_eq_false, Bool.not_eq_true, decide_eq_true_eq, decide_eq_false_iff_not, Int.not_lt, Int.not_le, CST, TN, WX, WA, WB, GS, LOC, BT157, SP157, CLS, FLD, ARR, CD, true_and, and_true, and_self, forall_const, true_implies, false_implies, implies_true, not_true_eq_false, not_false_eq_true, if_true, if_false, rgI, rgL, scr, swl, lkl, cats, cat, is2, List.drop_succ_cons, List.drop_zero, List.drop_nil, List.cons_append, List.nil_append, Option.toList_some, Option.toList_none, List.length_cons, List.length_nil, ne_eq, Classical.not_not, reduceCtorEq, Nat.reduceAdd, Nat.reduceSub, Nat.reduceMul, Nat.reduceLT, Nat.reduceLeDiff, Nat.reduceEqDiff, Nat.reduceBEq, Int.reduceToNat, Int.reduceLE, Int.reduceLT, Int.reduceEq, Int.reduceNeg, Int.reduceAdd, Int.reduceSub, Int.reduceMul, Int.toNat_natCast, Nat.zero_add, Int.add_zero, Nat.add_zero, ite_true, ite_false, Option.some.injEq, Nat.le_refl, or_true, true_or, or_false, false_or, if_pos, reduceIte, Nat.reduceGT]
        rw [hG 58 0 (by unfold stm; omega) (by decide) (by decide)]
        refine ⟨by omega, fun h => rt157 ⟨rfl, ?_, fun k j hk => ?_⟩, fun h => by omega⟩
        · unfold f_settle; rw [hok]; rfl
        · unfold g_settle
          rw [hok, if_pos rfl]
          by_cases h6 : k = 64
          · subst h6
            rw [g3]
            by_cases hj : j < hN M
            · rw [if_pos hj, if_pos ⟨rfl, by omega⟩]
            · rw [if_neg hj]
              by_cases hj2 : j < 10
              · rw [if_pos ⟨rfl, hj2⟩]
                exact (hW.2.2.2.2.2.2.2.1 j hj2).2 (by omega)
              · rw [if_neg (fun z => hj2 z.2), (cd_SW M _).1 64 j (by decide)]
          · rw [if_neg (fun z => h6 z.1)]
            by_cases h5 : k = 61
            · subst h5
              by_cases hj : ∃ x, x < hN M ∧ j = 4 * x + 1
              · obtain ⟨x, hx, rfl⟩ := hj
                exact g1 x hx
              · rw [g2 j (fun x hx hxj => hj ⟨x, hx, hxj⟩)]
                unfold cd rT
                rw [if_neg (fun z => hj ⟨j / 4, z.2.2.1, by omega⟩)]
            · rw [hG k j hk h5 h6, (cd_SW M _).1 k j h5]
      | succ n ih =>
        intro i N1 hi hG g75 g1 g2 g3
        have h01 := (hW.2.2.2.2.2.2.2.1 i (by omega)).1
        have e64 : N1 64 i = M 64 i := by rw [g3, if_neg (by omega)]
        have e61 : N1 61 (4 * i + 1) = M 61 (4 * i + 1) := g2 _ (fun x hx => by omega)
        have nxt : ∀ v : Int, v = cd M (bsC M false (codes M)) 61 (4 * i + 1) → S 26 [some (vR 55), some (vI (cnt (newB M) (hN M))), some (vI ((i + 1 : Nat) : Int))] [] (sh0, 0, 0) (mset (mset N1 61 (4 * i + 1) v) 64 i 0) := by
          intro v hv
          refine ih (i + 1) _ (by omega) (fun k j h1 h2 h3 => ?_) (fun x hx => ?_) (fun x hx => ?_) (fun j hj => ?_) (fun j => ?_)
          · rw [ms_ne h3, ms_ne h2]; exact hG k j h1 h2 h3
          · rw [ms_ne (by decide), ms_ne (by decide)]; exact g75 x hx
          · rw [ms_ne (by decide)]
            by_cases hxi : x = i
            · subst hxi; rw [ms_eq]; exact hv
            · rw [ms_nj (by omega)]; exact g1 x (by omega)
          · rw [ms_ne (by decide), ms_nj (hj i (by omega))]
            exact g2 j (fun x hx => hj x (by omega))
          · by_cases hji : j = i
            · subst hji; rw [ms_eq, if_pos (by omega)]
            · rw [ms_nj hji, ms_ne (by decide), g3]
              by_cases hlt : j < i
              · rw [if_pos hlt, if_pos (by omega)]
              · rw [if_neg hlt, if_neg (by omega)]
        refine wpx_ok hS bk157 (sp := sp157) 60 26 _ _ _ _ ?_
        simp only [LCM, B2, Bool.not_eq_false, Bool.not_eq_true, decide_eq_true_eq, decide_eq_false_iff_not, Int.not_lt, Int.not_le, CST, TN, WX, WA, WB, GS, LOC, BT157, SP157, CLS, FLD, ARR, CD, true_and, and_true, and_self, forall_const, true_implies, false_implies, implies_true, not_true_eq_false, not_false_eq_true, if_true, if_false, rgI, rgL, scr, swl, lkl, cats, cat, is2, List.drop_succ_cons, List.drop_zero, List.drop_nil, List.cons_append, List.nil_append, Option.toList_some, Option.toList_none, List.length_cons, List.length_nil, ne_eq, Classical.not_not, reduceCtorEq, Nat.reduceAdd, Nat.reduceSub, Nat.reduceMul, Nat.reduceLT, Nat.reduceLeDiff, Nat.reduceEqDiff, Nat.reduceBEq, Int.reduceToNat, Int.reduceLE, Int.reduceLT, Int.reduceEq, Int.reduceNeg, Int.reduceAdd, Int.reduceSub, Int.reduceMul, Int.toNat_natCast, Nat.zero_add, Int.add_zero, Nat.add_zero, ite_true, ite_false, Option.some.injEq, Nat.le_refl, or_true, true_or, or_false, false_or, if_pos, reduceIte, Nat.reduceGT]
        rw [hG 58 0 (by unfold stm; omega) (by decide) (by decide), e64]
        refine ⟨by omega, fun h => by omega, fun h => ⟨by omega, by omega, fun h2 => ?_, fun h2 => ?_⟩⟩
        · have hnb : newB M i = false := by unfold newB; exact decide_eq_false (by omega)
          have := nxt (N1 61 (4 * i + 1)) (by rw [e61, (cd_at _ (show i < hN M by omega)).2, hnb]; rfl)
          exact ⟨by omega, by omega, by omega, this⟩
        · have := nxt (N1 75 i) (g75 i (by omega))
          exact ⟨by omega, by omega, by omega, this⟩
    exact head (hN M) 0 N (by omega) (fun k j h1 _ _ => hF k j h1) h75 (fun x hx => by omega) (fun j _ => hF 61 j (by unfold stm; omega)) (fun j => by rw [if_neg (by omega)]; exact hF 64 j (by unfold stm; omega))
  · exact hbad (by unfold okSt; rw [decide_eq_false (show ¬ (cnt (okC M false) (codes M) ≠ 0) by omega), Bool.and_false])

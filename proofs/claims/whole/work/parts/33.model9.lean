theorem wedN_SW (T : MM) (i j : Nat) : SW T (g_wedN T i j) := ⟨fun k x hk => by unfold g_wedN; rw [ms_ne hk, ms_ne hk], fun x => ⟨by unfold g_wedN; rw [ms_nj (by omega), ms_nj (by omega)], by unfold g_wedN; rw [ms_nj (by omega), ms_nj (by omega)]⟩⟩
theorem wedN_at (T : MM) (i j x : Nat) : g_wedN T i j 61 (4 * x) = T 61 (4 * (if x = j then i else x)) ∧ g_wedN T i j 61 (4 * x + 1) = T 61 (4 * (if x = j then i else x) + 1) := by
  unfold g_wedN
  by_cases h : x = j
  · subst h
    rw [if_pos rfl, ms_nj (by omega), ms_eq, ms_eq]
    exact ⟨rfl, rfl⟩
  · rw [if_neg h, ms_nj (by omega), ms_nj (by omega), ms_nj (by omega), ms_nj (by omega)]
    exact ⟨rfl, rfl⟩
theorem wedN_len (T : MM) (i j x : Nat) : len (g_wedN T i j) x = len T (if x = j then i else x) := by
  unfold len
  rw [(wedN_at T i j x).1]
  rfl
theorem wedN_WF {T : MM} (h : WFt T) {i j : Nat} (hi : i < hN T) : WFt (g_wedN T i j) := by
  refine h.chg (wedN_SW T i j) (fun x hx => ?_)
  rw [wedN_len, (wedN_at T i j x).1, (wedN_at T i j x).2]
  have hx2 : (if x = j then i else x) < hN T := by split <;> omega
  have := h.hs hx2
  exact ⟨this.1, this.2.1⟩
/-- days of a period on which some work is short -/
def daysN (T : MM) : Int := cnt (fun d => anyS T d) (PN T)
theorem m_days (a b : Nat) (M : MM) (hW : WFt M) (ha : a < hN M) (hb : b < hN M) (hab : a ≠ b) : oI 6 147 [vR 55, vI a, vI b] M (daysN (g_wedN M a b)) := by
  have hH := hW.H
  have hP := hW.P
  have hW2 : WFt (g_wedN M a b) := wedN_WF hW ha
  have hcr := fun n => cnt_rg (fun d => anyS (g_wedN M a b) d) n
  refine go147 (fun S hS => ?_)
  have head : ∀ (n d : Nat), d + n = PN M → S 69 [some (vR 55), some (vI a), some (vI b), some (vI (M 61 (4 * b))), some (vI (M 61 (4 * b + 1))), some (vI (cnt (fun d => anyS (g_wedN M a b) d) d)), some (vI d)] [] (sh0, 0, 0) (g_wedN M a b) := by
    intro n
    induction n with
    | zero =>
      intro d hd
      refine wpx_ok hS bk147 (sp := sp147) 60 69 _ _ _ _ ?_
      simp only [LCM, B2, Bool.not_eq_false, Bool.not_eq_true, decide_eq_true_eq, decide_eq_false_iff_not, Int.not_lt, Int.not_le, CST, TN, WX, WA, WB, GS, LOC, BT147, SP147, CLS, FLD, ARR, CD, true_and, and_true, and_self, forall_const, true_implies, false_implies, implies_true, not_true_eq_false, not_false_eq_true, if_true, if_false, rgI, rgL, scr, swl, lkl, cats, cat, is2, List.drop_succ_cons, List.drop_zero, List.drop_nil, List.cons_append, List.nil_append, Option.toList_some, Option.toList_none, List.length_cons, List.length_nil, ne_eq, Classical.not_not, reduceCtorEq, Nat.reduceAdd, Nat.reduceSub, Nat.reduceMul, Nat.reduceLT, Nat.reduceLeDiff, Nat.reduceEqDiff, Nat.reduceBEq, Int.reduceToNat, Int.reduceLE, Int.reduceLT, Int.reduceEq, Int.reduceNeg, Int.reduceAdd, Int.reduceSub, Int.reduceMul, Int.toNat_natCast, Nat.zero_add, Int.add_zero, Nat.add_zero, ite_true, ite_false, Option.some.injEq, Nat.le_refl, or_true, true_or, or_false, false_or, if_pos, reduceIte, Nat.reduceGT]
      refine ⟨rcv_ok rfl own119 rfl, kI (m_period (g_wedN M a b) hW2) (Nat.le_of_ble_eq_true rfl) rfl rfl (Nat.le_of_ble_eq_true rfl) (Nat.le_of_ble_eq_true rfl) rfl ?_⟩
      rw [show PN (g_wedN M a b) = PN M from rfl]
      refine wpx_ok hS bk147 (sp := sp147) 60 75 _ _ _ _ ?_
      simp only [LCM, B2, Bool.not_eq_false, Bool.not_eq_true, decide_eq_true_eq, decide_eq_false_iff_not, Int.not_lt, Int.not_le, CST, TN, WX, WA, WB, GS, LOC, BT147, SP147, CLS, FLD, ARR, CD, true_and, and_true, and_self, forall_const, true_implies, false_implies, implies_true, not_true_eq_false, not_false_eq_true, if_true, if_false, rgI, rgL, scr, swl, lkl, cats, cat, is2, List.drop_succ_cons, List.drop_zero, List.drop_nil, List.cons_append, List.nil_append, Option.toList_some, Option.toList_none, List.length_cons, List.length_nil, ne_eq, Classical.not_not, reduceCtorEq, Nat.reduceAdd, Nat.reduceSub, Nat.reduceMul, Nat.reduceLT, Nat.reduceLeDiff, Nat.reduceEqDiff, Nat.reduceBEq, Int.reduceToNat, Int.reduceLE, Int.reduceLT, Int.reduceEq, Int.reduceNeg, Int.reduceAdd, Int.reduceSub, Int.reduceMul, Int.toNat_natCast, Nat.zero_add, Int.add_zero, Nat.add_zero, ite_true, ite_false, Option.some.injEq, Nat.le_refl, or_true, true_or, or_false, false_or, if_pos, reduceIte, Nat.reduceGT]
      refine ⟨by omega, fun h => ⟨by omega, by omega, rt147 ⟨rfl, ?_, ?_⟩⟩, fun h => by omega⟩
      · unfold daysN
        rw [show PN (g_wedN M a b) = PN M from rfl, show d = PN M by omega]
      · funext k x
        unfold g_wedN mset
        by_cases h1 : k = 61 ∧ x = 4 * b + 1
        · rw [if_pos h1, h1.1, h1.2]
        · rw [if_neg h1]
          by_cases h2 : k = 61 ∧ x = 4 * b
          · rw [if_pos h2, h2.1, h2.2]
          · rw [if_neg h2, if_neg h1, if_neg h2]
    | succ n ih =>
      intro d hd
      have ih2 := ih (d + 1) (by omega)
      rw [show cnt (fun d => anyS (g_wedN M a b) d) (d + 1) = cnt (fun d => anyS (g_wedN M a b) d) d + b2i (anyS (g_wedN M a b) d) from rfl] at ih2
      refine wpx_ok hS bk147 (sp := sp147) 60 69 _ _ _ _ ?_
      simp only [LCM, B2, Bool.not_eq_false, Bool.not_eq_true, decide_eq_true_eq, decide_eq_false_iff_not, Int.not_lt, Int.not_le, CST, TN, WX, WA, WB, GS, LOC, BT147, SP147, CLS, FLD, ARR, CD, true_and, and_true, and_self, forall_const, true_implies, false_implies, implies_true, not_true_eq_false, not_false_eq_true, if_true, if_false, rgI, rgL, scr, swl, lkl, cats, cat, is2, List.drop_succ_cons, List.drop_zero, List.drop_nil, List.cons_append, List.nil_append, Option.toList_some, Option.toList_none, List.length_cons, List.length_nil, ne_eq, Classical.not_not, reduceCtorEq, Nat.reduceAdd, Nat.reduceSub, Nat.reduceMul, Nat.reduceLT, Nat.reduceLeDiff, Nat.reduceEqDiff, Nat.reduceBEq, Int.reduceToNat, Int.reduceLE, Int.reduceLT, Int.reduceEq, Int.reduceNeg, Int.reduceAdd, Int.reduceSub, Int.reduceMul, Int.toNat_natCast, Nat.zero_add, Int.add_zero, Nat.add_zero, ite_true, ite_false, Option.some.injEq, Nat.le_refl, or_true, true_or, or_false, false_or, if_pos, reduceIte, Nat.reduceGT]
      refine ⟨rcv_ok rfl own119 rfl, kI (m_period (g_wedN M a b) hW2) (Nat.le_of_ble_eq_true rfl) rfl rfl (Nat.le_of_ble_eq_true rfl) (Nat.le_of_ble_eq_true rfl) rfl ?_⟩
      rw [show PN (g_wedN M a b) = PN M from rfl]
      refine wpx_ok hS bk147 (sp := sp147) 60 75 _ _ _ _ ?_
      simp only [LCM, B2, Bool.not_eq_false, Bool.not_eq_true, decide_eq_true_eq, decide_eq_false_iff_not, Int.not_lt, Int.not_le, CST, TN, WX, WA, WB, GS, LOC, BT147, SP147, CLS, FLD, ARR, CD, true_and, and_true, and_self, forall_const, true_implies, false_implies, implies_true, not_true_eq_false, not_false_eq_true, if_true, if_false, rgI, rgL, scr, swl, lkl, cats, cat, is2, List.drop_succ_cons, List.drop_zero, List.drop_nil, List.cons_append, List.nil_append, Option.toList_some, Option.toList_none, List.length_cons, List.length_nil, ne_eq, Classical.not_not, reduceCtorEq, Nat.reduceAdd, Nat.reduceSub, Nat.reduceMul, Nat.reduceLT, Nat.reduceLeDiff, Nat.reduceEqDiff, Nat.reduceBEq, Int.reduceToNat, Int.reduceLE, Int.reduceLT, Int.reduceEq, Int.reduceNeg, Int.reduceAdd, Int.reduceSub, Int.reduceMul, Int.toNat_natCast, Nat.zero_add, Int.add_zero, Nat.add_zero, ite_true, ite_false, Option.some.injEq, Nat.le_refl, or_true, true_or, or_false, false_or, if_pos, reduceIte, Nat.reduceGT]
      refine ⟨by omega, fun h => by omega, fun h => ⟨by omega, ?_⟩⟩
      have hr := shO_rg (d := (d : Int)) hW2
      refine ⟨rcv_ok rfl own126 rfl, kI (m_shortOn d (g_wedN M a b) hW2 (by omega)) (Nat.le_of_ble_eq_true rfl) rfl rfl (Nat.le_of_ble_eq_true rfl) (Nat.le_of_ble_eq_true rfl) rfl ?_⟩
      refine wpx_ok hS bk147 (sp := sp147) 60 87 _ _ _ _ ?_
      simp only [LCM, B2, Bool.not_eq_false, Bool.not_eq_true, decide_eq_true_eq, decide_eq_false_iff_not, Int.not_lt, Int.not_le, CST, TN, WX, WA, WB, GS, LOC, BT147, SP147, CLS, FLD, ARR, CD, true_and, and_true, and_self, forall_const, true_implies, false_implies, implies_true, not_true_eq_false, not_false_eq_true, if_true, if_false, rgI, rgL, scr, swl, lkl, cats, cat, is2, List.drop_succ_cons, List.drop_zero, List.drop_nil, List.cons_append, List.nil_append, Option.toList_some, Option.toList_none, List.length_cons, List.length_nil, ne_eq, Classical.not_not, reduceCtorEq, Nat.reduceAdd, Nat.reduceSub, Nat.reduceMul, Nat.reduceLT, Nat.reduceLeDiff, Nat.reduceEqDiff, Nat.reduceBEq, Int.reduceToNat, Int.reduceLE, Int.reduceLT, Int.reduceEq, Int.reduceNeg, Int.reduceAdd, Int.reduceSub, Int.reduceMul, Int.toNat_natCast, Nat.zero_add, Int.add_zero, Nat.add_zero, ite_true, ite_false, Option.some.injEq, Nat.le_refl, or_true, true_or, or_false, false_or, if_pos, reduceIte, Nat.reduceGT]
      refine ⟨by omega, fun h1 => ?_, fun h1 => ?_⟩
      · have h2 : anyS (g_wedN M a b) d = false := by
          cases hq : anyS (g_wedN M a b) d with
          | false => rfl
          | true => have := hr.2.2.mp hq; omega
        rw [h2, show b2i false = 0 from rfl, Int.add_zero] at ih2
        exact ih2
      · rw [hr.2.2.mpr h1] at ih2
        exact ih2
  refine wpx_ok hS bk147 (sp := sp147) 60 0 _ _ _ _ ?_
  simp only [LCM, B2, Bool.not_eq_false, Bool.not_eq_true, decide_eq_true_eq, decide_eq_false_iff_not, Int.not_lt, Int.not_le, CST, TN, WX, WA, WB, GS, LOC, BT147, SP147, CLS, FLD, ARR, CD, true_and, and_true, and_self, forall_const, true_implies, false_implies, implies_true, not_true_eq_false, not_false_eq_true, if_true, if_false, rgI, rgL, scr, swl, lkl, cats, cat, is2, List.drop_succ_cons, List.drop_zero, List.drop_nil, List.cons_append, List.nil_append, Option.toList_some, Option.toList_none, List.length_cons, List.length_nil, ne_eq, Classical.not_not, reduceCtorEq, Nat.reduceAdd, Nat.reduceSub, Nat.reduceMul, Nat.reduceLT, Nat.reduceLeDiff, Nat.reduceEqDiff, Nat.reduceBEq, Int.reduceToNat, Int.reduceLE, Int.reduceLT, Int.reduceEq, Int.reduceNeg, Int.reduceAdd, Int.reduceSub, Int.reduceMul, Int.toNat_natCast, Nat.zero_add, Int.add_zero, Nat.add_zero, ite_true, ite_false, Option.some.injEq, Nat.le_refl, or_true, true_or, or_false, false_or, if_pos, reduceIte, Nat.reduceGT]
  refine ⟨by omega, by omega, by omega, by omega, by omega, by omega, ?_⟩
  have h5 := head (PN M) 0 (by omega)
  rw [ms_nj (show 4 * a + 1 ≠ 4 * b by omega)]
  exact h5
def f_wedding (T : MM) (i j what : Int) : Int := if okWed T i j = true ∧ 0 ≤ what ∧ what ≤ 1 then (if what = 0 then min (daysN (g_wedN T i.toNat j.toNat)) (daysN (g_wedN T j.toNat i.toNat)) else if daysN (g_wedN T j.toNat i.toNat) < daysN (g_wedN T i.toNat j.toNat) then 1 else 0) else -1
theorem daysN_rg {T : MM} (h : WFt T) : 0 ≤ daysN T ∧ daysN T ≤ 132 := by
  have := cnt_rg (fun d => anyS T d) (PN T)
  have := h.P
  unfold daysN
  omega
theorem m_wedding (i j what : Int) (M : MM) (hW : WFt M) (hi : rgI i) (hj : rgI j) (hw : rgI what) : oI 7 148 [vR 55, vI i, vI j, vI what] M (f_wedding M i j what) := by
  have hH := hW.H
  refine go148 (fun S hS => ?_)
  refine wpx_ok hS bk148 (sp := sp148) 60 0 _ _ _ _ ?_
  simp only [LCM, B2, Bool.not_eq_false, Bool.not_eq_true, decide_eq_true_eq, decide_eq_false_iff_not, Int.not_lt, Int.not_le, CST, TN, WX, WA, WB, GS, LOC, BT148, SP148, CLS, FLD, ARR, CD, true_and, and_true, and_self, forall_const, true_implies, false_implies, implies_true, not_true_eq_false, not_false_eq_true, if_true, if_false, rgI, rgL, scr, swl, lkl, cats, cat, is2, List.drop_succ_cons, List.drop_zero, List.drop_nil, List.cons_append, List.nil_append, Option.toList_some, Option.toList_none, List.length_cons, List.length_nil, ne_eq, Classical.not_not, reduceCtorEq, Nat.reduceAdd, Nat.reduceSub, Nat.reduceMul, Nat.reduceLT, Nat.reduceLeDiff, Nat.reduceEqDiff, Nat.reduceBEq, Int.reduceToNat, Int.reduceLE, Int.reduceLT, Int.reduceEq, Int.reduceNeg, Int.reduceAdd, Int.reduceSub, Int.reduceMul, Int.toNat_natCast, Nat.zero_add, Int.add_zero, Nat.add_zero, ite_true, ite_false, Option.some.injEq, Nat.le_refl, or_true, true_or, or_false, false_or, if_pos, reduceIte, Nat.reduceGT]
  refine ⟨rcv_ok rfl own113 rfl, kI (m_isHouse i M hi hW) (Nat.le_of_ble_eq_true rfl) rfl rfl (Nat.le_of_ble_eq_true rfl) (Nat.le_of_ble_eq_true rfl) rfl ?_⟩
  refine wpx_ok hS bk148 (sp := sp148) 60 5 _ _ _ _ ?_
  simp only [LCM, B2, Bool.not_eq_false, Bool.not_eq_true, decide_eq_true_eq, decide_eq_false_iff_not, Int.not_lt, Int.not_le, CST, TN, WX, WA, WB, GS, LOC, BT148, SP148, CLS, FLD, ARR, CD, true_and, and_true, and_self, forall_const, true_implies, false_implies, implies_true, not_true_eq_false, not_false_eq_true, if_true, if_false, rgI, rgL, scr, swl, lkl, cats, cat, is2, List.drop_succ_cons, List.drop_zero, List.drop_nil, List.cons_append, List.nil_append, Option.toList_some, Option.toList_none, List.length_cons, List.length_nil, ne_eq, Classical.not_not, reduceCtorEq, Nat.reduceAdd, Nat.reduceSub, Nat.reduceMul, Nat.reduceLT, Nat.reduceLeDiff, Nat.reduceEqDiff, Nat.reduceBEq, Int.reduceToNat, Int.reduceLE, Int.reduceLT, Int.reduceEq, Int.reduceNeg, Int.reduceAdd, Int.reduceSub, Int.reduceMul, Int.toNat_natCast, Nat.zero_add, Int.add_zero, Nat.add_zero, ite_true, ite_false, Option.some.injEq, Nat.le_refl, or_true, true_or, or_false, false_or, if_pos, reduceIte, Nat.reduceGT]
  refine ⟨fun h => ?_, fun h => ?_⟩
  · have hk : okWed M i j = false := by unfold okWed; exact decide_eq_false (fun z => h z.1)
    exact rt148 ⟨rfl, by unfold f_wedding; rw [hk]; rfl, rfl⟩
  refine ⟨rcv_ok rfl own113 rfl, kI (m_isHouse j M hj hW) (Nat.le_of_ble_eq_true rfl) rfl rfl (Nat.le_of_ble_eq_true rfl) (Nat.le_of_ble_eq_true rfl) rfl ?_⟩
  refine wpx_ok hS bk148 (sp := sp148) 60 13 _ _ _ _ ?_
  simp only [LCM, B2, Bool.not_eq_false, Bool.not_eq_true, decide_eq_true_eq, decide_eq_false_iff_not, Int.not_lt, Int.not_le, CST, TN, WX, WA, WB, GS, LOC, BT148, SP148, CLS, FLD, ARR, CD, true_and, and_true, and_self, forall_const, true_implies, false_implies, implies_true, not_true_eq_false, not_false_eq_true, if_true, if_false, rgI, rgL, scr, swl, lkl, cats, cat, is2, List.drop_succ_cons, List.drop_zero, List.drop_nil, List.cons_append, List.nil_append, Option.toList_some, Option.toList_none, List.length_cons, List.length_nil, ne_eq, Classical.not_not, reduceCtorEq, Nat.reduceAdd, Nat.reduceSub, Nat.reduceMul, Nat.reduceLT, Nat.reduceLeDiff, Nat.reduceEqDiff, Nat.reduceBEq, Int.reduceToNat, Int.reduceLE, Int.reduceLT, Int.reduceEq, Int.reduceNeg, Int.reduceAdd, Int.reduceSub, Int.reduceMul, Int.toNat_natCast, Nat.zero_add, Int.add_zero, Nat.add_zero, ite_true, ite_false, Option.some.injEq, Nat.le_refl, or_true, true_or, or_false, false_or, if_pos, reduceIte, Nat.reduceGT]
  refine ⟨fun h1 => ?_, fun h1 => ?_⟩
  · have hk : okWed M i j = false := by unfold okWed; exact decide_eq_false (fun z => h1 z.2.1)
    exact rt148 ⟨rfl, by unfold f_wedding; rw [hk]; rfl, rfl⟩
  refine ⟨⟨hi, hj⟩, fun h2 => ?_, fun h2 => ⟨hw, ?_⟩⟩
  · have hk : okWed M i j = false := by unfold okWed; exact decide_eq_false (fun z => z.2.2 h2)
    exact rt148 ⟨rfl, by unfold f_wedding; rw [hk]; rfl, rfl⟩
  have hk : okWed M i j = true := by unfold okWed; exact decide_eq_true ⟨h, h1, h2⟩
  refine kI (c_in what 0 1 M (by unfold rgL rgI at *; omega) (by unfold rgL; omega) (by unfold rgL; omega)) (Nat.le_of_ble_eq_true rfl) rfl rfl (Nat.le_of_ble_eq_true rfl) (Nat.le_of_ble_eq_true rfl) rfl ?_
  refine wpx_ok hS bk148 (sp := sp148) 60 28 _ _ _ _ ?_
  simp only [LCM, B2, Bool.not_eq_false, Bool.not_eq_true, decide_eq_true_eq, decide_eq_false_iff_not, Int.not_lt, Int.not_le, CST, TN, WX, WA, WB, GS, LOC, BT148, SP148, CLS, FLD, ARR, CD, true_and, and_true, and_self, forall_const, true_implies, false_implies, implies_true, not_true_eq_false, not_false_eq_true, if_true, if_false, rgI, rgL, scr, swl, lkl, cats, cat, is2, List.drop_succ_cons, List.drop_zero, List.drop_nil, List.cons_append, List.nil_append, Option.toList_some, Option.toList_none, List.length_cons, List.length_nil, ne_eq, Classical.not_not, reduceCtorEq, Nat.reduceAdd, Nat.reduceSub, Nat.reduceMul, Nat.reduceLT, Nat.reduceLeDiff, Nat.reduceEqDiff, Nat.reduceBEq, Int.reduceToNat, Int.reduceLE, Int.reduceLT, Int.reduceEq, Int.reduceNeg, Int.reduceAdd, Int.reduceSub, Int.reduceMul, Int.toNat_natCast, Nat.zero_add, Int.add_zero, Nat.add_zero, ite_true, ite_false, Option.some.injEq, Nat.le_refl, or_true, true_or, or_false, false_or, if_pos, reduceIte, Nat.reduceGT]
  refine ⟨fun h3 => ?_, fun h3 => rt148 ⟨rfl, by unfold f_wedding; rw [if_neg (fun z => h3 z.2)], rfl⟩⟩
  obtain ⟨n, rfl⟩ : ∃ n : Nat, i = (n : Int) := ⟨i.toNat, by omega⟩
  obtain ⟨k, rfl⟩ : ∃ k : Nat, j = (k : Int) := ⟨j.toNat, by omega⟩
  have hval : f_wedding M n k what = (if what = 0 then min (daysN (g_wedN M n k)) (daysN (g_wedN M k n)) else if daysN (g_wedN M k n) < daysN (g_wedN M n k) then 1 else 0) := by
    unfold f_wedding
    rw [if_pos ⟨hk, h3⟩]
    rfl
  have r1 := daysN_rg (wedN_WF (j := k) hW (show n < hN M by omega))
  have r2 := daysN_rg (wedN_WF (j := n) hW (show k < hN M by omega))
  refine ⟨rcv_ok rfl own147 rfl, kI (m_days n k M hW (by omega) (by omega) (by omega)) (Nat.le_of_ble_eq_true rfl) rfl rfl (Nat.le_of_ble_eq_true rfl) (Nat.le_of_ble_eq_true rfl) rfl ?_⟩
  refine wpx_ok hS bk148 (sp := sp148) 60 39 _ _ _ _ ?_
  simp only [LCM, B2, Bool.not_eq_false, Bool.not_eq_true, decide_eq_true_eq, decide_eq_false_iff_not, Int.not_lt, Int.not_le, CST, TN, WX, WA, WB, GS, LOC, BT148, SP148, CLS, FLD, ARR, CD, true_and, and_true, and_self, forall_const, true_implies, false_implies, implies_true, not_true_eq_false, not_false_eq_true, if_true, if_false, rgI, rgL, scr, swl, lkl, cats, cat, is2, List.drop_succ_cons, List.drop_zero, List.drop_nil, List.cons_append, List.nil_append, Option.toList_some, Option.toList_none, List.length_cons, List.length_nil, ne_eq, Classical.not_not, reduceCtorEq, Nat.reduceAdd, Nat.reduceSub, Nat.reduceMul, Nat.reduceLT, Nat.reduceLeDiff, Nat.reduceEqDiff, Nat.reduceBEq, Int.reduceToNat, Int.reduceLE, Int.reduceLT, Int.reduceEq, Int.reduceNeg, Int.reduceAdd, Int.reduceSub, Int.reduceMul, Int.toNat_natCast, Nat.zero_add, Int.add_zero, Nat.add_zero, ite_true, ite_false, Option.some.injEq, Nat.le_refl, or_true, true_or, or_false, false_or, if_pos, reduceIte, Nat.reduceGT]
  refine ⟨rcv_ok rfl own147 rfl, kI (m_days k n M hW (by omega) (by omega) (by omega)) (Nat.le_of_ble_eq_true rfl) rfl rfl (Nat.le_of_ble_eq_true rfl) (Nat.le_of_ble_eq_true rfl) rfl ?_⟩
  refine wpx_ok hS bk148 (sp := sp148) 60 47 _ _ _ _ ?_
  simp only [LCM, B2, Bool.not_eq_false, Bool.not_eq_true, decide_eq_true_eq, decide_eq_false_iff_not, Int.not_lt, Int.not_le, CST, TN, WX, WA, WB, GS, LOC, BT148, SP148, CLS, FLD, ARR, CD, true_and, and_true, and_self, forall_const, true_implies, false_implies, implies_true, not_true_eq_false, not_false_eq_true, if_true, if_false, rgI, rgL, scr, swl, lkl, cats, cat, is2, List.drop_succ_cons, List.drop_zero, List.drop_nil, List.cons_append, List.nil_append, Option.toList_some, Option.toList_none, List.length_cons, List.length_nil, ne_eq, Classical.not_not, reduceCtorEq, Nat.reduceAdd, Nat.reduceSub, Nat.reduceMul, Nat.reduceLT, Nat.reduceLeDiff, Nat.reduceEqDiff, Nat.reduceBEq, Int.reduceToNat, Int.reduceLE, Int.reduceLT, Int.reduceEq, Int.reduceNeg, Int.reduceAdd, Int.reduceSub, Int.reduceMul, Int.toNat_natCast, Nat.zero_add, Int.add_zero, Nat.add_zero, ite_true, ite_false, Option.some.injEq, Nat.le_refl, or_true, true_or, or_false, false_or, if_pos, reduceIte, Nat.reduceGT]
  refine ⟨hw, fun h4 => ⟨by omega, fun h5 => ?_, fun h5 => ?_⟩, fun h4 => ⟨by omega, fun h5 => ?_, fun h5 => ?_⟩⟩
  · exact rt148 ⟨rfl, by rw [hval, if_neg h4, if_neg (by omega)], rfl⟩
  · exact rt148 ⟨rfl, by rw [hval, if_neg h4, if_pos (by omega)], rfl⟩
  · exact rt148 ⟨rfl, by rw [hval, if_pos h4, Int.min_eq_right (by omega)], rfl⟩
  · exact rt148 ⟨rfl, by rw [hval, if_pos h4, Int.min_eq_left (by omega)], rfl⟩

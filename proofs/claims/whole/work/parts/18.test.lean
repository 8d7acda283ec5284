theorem c_in (v a b : Int) (M : MM) (hv : rgL v) (ha : rgL a) (hb : rgL b) : oI 1 102 [vL v, vL a, vL b] M (if a ≤ v ∧ v ≤ b then 1 else 0) := by
  refine go102 (fun S hS => ?_)
  refine wpx_ok hS bk102 (sp := sp102) 60 0 _ _ _ _ ?_
  simp only [WX, WA, WB, GS, LOC, BT102, SP102, CLS, FLD, ARR, cond_true, cond_false, true_and, and_true, and_self, forall_const, true_implies, false_implies, implies_true, not_true_eq_false, not_false_eq_true, if_true, if_false, rgI, rgL, scr, swl, lkl, cats, cat, is2, List.length_cons, List.length_nil, ne_eq, reduceCtorEq, Nat.reduceAdd, Nat.reduceSub, Nat.reduceMul, Nat.reduceLT, Nat.reduceLTLE, Nat.reduceLeDiff, Nat.reduceEqDiff, Nat.reduceBEq, Int.reduceToNat, Int.reduceLE, Int.reduceLT, Int.reduceEq, Int.reduceNeg, Int.reduceAdd, Int.reduceSub, Int.reduceMul, Int.toNat_natCast, Nat.cast_ofNat, Nat.zero_add, Nat.add_zero, OfNat.ofNat_ne_zero, ite_true, ite_false, Option.some.injEq, Nat.le_refl, or_true, true_or, or_false, false_or, if_pos, reduceIte, Nat.reduceGT]
  trace_state
  sorry
theorem c_weekOf (i : Nat) (M : MM) (hi : i < 10) : oI 1 117 [vR 55, vI i] M (M 57 (M 61 (4 * i)).toNat) := by
  refine go117 (fun S hS => ?_)
  refine wpx_ok hS bk117 (sp := sp117) 60 0 _ _ _ _ ?_
  simp only [WX, WA, WB, GS, LOC, BT117, SP117, CLS, FLD, ARR, cond_true, cond_false, true_and, and_true, and_self, forall_const, true_implies, false_implies, implies_true, not_true_eq_false, not_false_eq_true, if_true, if_false, rgI, rgL, scr, swl, lkl, cats, cat, is2, List.length_cons, List.length_nil, ne_eq, reduceCtorEq, Nat.reduceAdd, Nat.reduceSub, Nat.reduceMul, Nat.reduceLT, Nat.reduceLTLE, Nat.reduceLeDiff, Nat.reduceEqDiff, Nat.reduceBEq, Int.reduceToNat, Int.reduceLE, Int.reduceLT, Int.reduceEq, Int.reduceNeg, Int.reduceAdd, Int.reduceSub, Int.reduceMul, Int.toNat_natCast, Nat.cast_ofNat, Nat.zero_add, Nat.add_zero, OfNat.ofNat_ne_zero, ite_true, ite_false, Option.some.injEq, Nat.le_refl, or_true, true_or, or_false, false_or, if_pos, reduceIte, Nat.reduceGT]
  trace_state
  sorry
theorem c_isUp (i : Nat) (d : Int) (M : MM) (hi : i < 10) : oI 2 118 [vR 55, vI i, vL d] M (if d % (M 57 (M 61 (4 * i)).toNat) ≠ M 61 (4 * i + 1) then 1 else 0) := by
  refine go118 (fun S hS => ?_)
  refine wpx_ok hS bk118 (sp := sp118) 60 0 _ _ _ _ ?_
  simp only [WX, WA, WB, GS, LOC, BT118, SP118, CLS, FLD, ARR, cond_true, cond_false, true_and, and_true, and_self, forall_const, true_implies, false_implies, implies_true, not_true_eq_false, not_false_eq_true, if_true, if_false, rgI, rgL, scr, swl, lkl, cats, cat, is2, List.length_cons, List.length_nil, ne_eq, reduceCtorEq, Nat.reduceAdd, Nat.reduceSub, Nat.reduceMul, Nat.reduceLT, Nat.reduceLTLE, Nat.reduceLeDiff, Nat.reduceEqDiff, Nat.reduceBEq, Int.reduceToNat, Int.reduceLE, Int.reduceLT, Int.reduceEq, Int.reduceNeg, Int.reduceAdd, Int.reduceSub, Int.reduceMul, Int.toNat_natCast, Nat.cast_ofNat, Nat.zero_add, Nat.add_zero, OfNat.ofNat_ne_zero, ite_true, ite_false, Option.some.injEq, Nat.le_refl, or_true, true_or, or_false, false_or, if_pos, reduceIte, Nat.reduceGT]
  trace_state
  refine ⟨rcv_ok rfl own117 rfl, kI (c_weekOf i M hi) (by decide) rfl rfl (by decide) (by decide) rfl ?_⟩
  refine wpx_ok hS bk118 (sp := sp118) 60 6 _ _ _ _ ?_
  simp only [WX, WA, WB, GS, LOC, BT118, SP118, CLS, FLD, ARR, cond_true, cond_false, true_and, and_true, and_self, forall_const, true_implies, false_implies, implies_true, not_true_eq_false, not_false_eq_true, if_true, if_false, rgI, rgL, scr, swl, lkl, cats, cat, is2, List.length_cons, List.length_nil, ne_eq, reduceCtorEq, Nat.reduceAdd, Nat.reduceSub, Nat.reduceMul, Nat.reduceLT, Nat.reduceLTLE, Nat.reduceLeDiff, Nat.reduceEqDiff, Nat.reduceBEq, Int.reduceToNat, Int.reduceLE, Int.reduceLT, Int.reduceEq, Int.reduceNeg, Int.reduceAdd, Int.reduceSub, Int.reduceMul, Int.toNat_natCast, Nat.cast_ofNat, Nat.zero_add, Nat.add_zero, OfNat.ofNat_ne_zero, ite_true, ite_false, Option.some.injEq, Nat.le_refl, or_true, true_or, or_false, false_or, if_pos, reduceIte, Nat.reduceGT]
  trace_state
  sorry

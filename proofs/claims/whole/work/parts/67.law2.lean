/-! the law, cases 14 on, and the loop -/
def bt163c14 (pc : Nat) : BL := if pc = 776 then [(.aload 1, 0, 1), (.aload 0, 0, 1), (.iload 3, 0, 1), (.iconst 1, 0, 1), (.iadd, 0, 1), (.iaload, 0, 1), (.aload 0, 0, 1), (.iload 3, 0, 1), (.iconst 2, 0, 1), (.iadd, 0, 1), (.iaload, 0, 1), (.i2l, 0, 1), (.iconst 32, 0, 2), (.lshl, 0, 1), (.aload 0, 0, 1), (.iload 3, 0, 1), (.iconst 3, 0, 1), (.iadd, 0, 1), (.iaload, 0, 1), (.i2l, 0, 1), (.ldc2_w 0, 4294967295, 3), (.land, 0, 1), (.lor, 0, 1), (.aload 0, 0, 1), (.iload 3, 0, 1), (.iconst 4, 0, 1), (.iadd, 0, 1), (.iaload, 0, 1), (.i2l, 0, 1), (.iconst 32, 0, 2), (.lshl, 0, 1), (.aload 0, 0, 1), (.iload 3, 0, 1), (.iconst 5, 0, 1), (.iadd, 0, 1), (.iaload, 0, 1), (.i2l, 0, 1), (.ldc2_w 0, 4294967295, 3), (.land, 0, 1), (.lor, 0, 1), (.invokevirtual 58, 4, 3)] else if pc = 825 then [(.aload 2, 0, 1), (.aload 0, 0, 1), (.iload 3, 0, 1), (.iconst 1, 0, 1), (.iadd, 0, 1), (.iaload, 0, 1), (.aload 0, 0, 1), (.iload 3, 0, 1), (.iconst 2, 0, 1), (.iadd, 0, 1), (.iaload, 0, 1), (.i2l, 0, 1), (.iconst 32, 0, 2), (.lshl, 0, 1), (.aload 0, 0, 1), (.iload 3, 0, 1), (.iconst 3, 0, 1), (.iadd, 0, 1), (.iaload, 0, 1), (.i2l, 0, 1), (.ldc2_w 0, 4294967295, 3), (.land, 0, 1), (.lor, 0, 1), (.aload 0, 0, 1), (.iload 3, 0, 1), (.iconst 4, 0, 1), (.iadd, 0, 1), (.iaload, 0, 1), (.i2l, 0, 1), (.iconst 32, 0, 2), (.lshl, 0, 1), (.aload 0, 0, 1), (.iload 3, 0, 1), (.iconst 5, 0, 1), (.iadd, 0, 1), (.iaload, 0, 1), (.i2l, 0, 1), (.ldc2_w 0, 4294967295, 3), (.land, 0, 1), (.lor, 0, 1), (.invokevirtual 137, 4, 3)] else if pc = 874 then [(.lcmp, 0, 1), (.ifCond .eq 1341, 0, 3)] else if pc = 878 then [(.iconst 0, 0, 1), (.ireturn, 0, 1)] else []
def sp163c14 (pc : Nat) : Bool := [825, 874, 1341].contains pc
theorem BT163c14 : bt163c14 776 = [(.aload 1, 0, 1), (.aload 0, 0, 1), (.iload 3, 0, 1), (.iconst 1, 0, 1), (.iadd, 0, 1), (.iaload, 0, 1), (.aload 0, 0, 1), (.iload 3, 0, 1), (.iconst 2, 0, 1), (.iadd, 0, 1), (.iaload, 0, 1), (.i2l, 0, 1), (.iconst 32, 0, 2), (.lshl, 0, 1), (.aload 0, 0, 1), (.iload 3, 0, 1), (.iconst 3, 0, 1), (.iadd, 0, 1), (.iaload, 0, 1), (.i2l, 0, 1), (.ldc2_w 0, 4294967295, 3), (.land, 0, 1), (.lor, 0, 1), (.aload 0, 0, 1), (.iload 3, 0, 1), (.iconst 4, 0, 1), (.iadd, 0, 1), (.iaload, 0, 1), (.i2l, 0, 1), (.iconst 32, 0, 2), (.lshl, 0, 1), (.aload 0, 0, 1), (.iload 3, 0, 1), (.iconst 5, 0, 1), (.iadd, 0, 1), (.iaload, 0, 1), (.i2l, 0, 1), (.ldc2_w 0, 4294967295, 3), (.land, 0, 1), (.lor, 0, 1), (.invokevirtual 58, 4, 3)] ∧ bt163c14 825 = [(.aload 2, 0, 1), (.aload 0, 0, 1), (.iload 3, 0, 1), (.iconst 1, 0, 1), (.iadd, 0, 1), (.iaload, 0, 1), (.aload 0, 0, 1), (.iload 3, 0, 1), (.iconst 2, 0, 1), (.iadd, 0, 1), (.iaload, 0, 1), (.i2l, 0, 1), (.iconst 32, 0, 2), (.lshl, 0, 1), (.aload 0, 0, 1), (.iload 3, 0, 1), (.iconst 3, 0, 1), (.iadd, 0, 1), (.iaload, 0, 1), (.i2l, 0, 1), (.ldc2_w 0, 4294967295, 3), (.land, 0, 1), (.lor, 0, 1), (.aload 0, 0, 1), (.iload 3, 0, 1), (.iconst 4, 0, 1), (.iadd, 0, 1), (.iaload, 0, 1), (.i2l, 0, 1), (.iconst 32, 0, 2), (.lshl, 0, 1), (.aload 0, 0, 1), (.iload 3, 0, 1), (.iconst 5, 0, 1), (.iadd, 0, 1), (.iaload, 0, 1), (.i2l, 0, 1), (.ldc2_w 0, 4294967295, 3), (.land, 0, 1), (.lor, 0, 1), (.invokevirtual 137, 4, 3)] ∧ bt163c14 874 = [(.lcmp, 0, 1), (.ifCond .eq 1341, 0, 3)] ∧ bt163c14 878 = [(.iconst 0, 0, 1), (.ireturn, 0, 1)] ∧ True := ⟨rfl, rfl, rfl, rfl, trivial⟩
theorem SP163c14 : sp163c14 776 = false ∧ sp163c14 825 = true ∧ sp163c14 874 = true ∧ sp163c14 878 = false ∧ sp163c14 1341 = true ∧ True := ⟨rfl, rfl, rfl, rfl, rfl, trivial⟩
set_option maxRecDepth 100000 in
theorem bk163c14 : ∀ pc, blk 163 pc (bt163c14 pc) = true := fun pc => blk_if (by decide +kernel) (blk_if (by decide +kernel) (blk_if (by decide +kernel) (blk_if (by decide +kernel) (rfl))))
theorem lc_14 {S : Nat → KK} {L c s : Nat} {xs : Nat → Int} (hS : Clo (Run 9) 163 (some (L, xs)) 600000 7302250 RtL S) (hxs : ∀ j, rgI (xs j)) (hL : L ≤ 3072) (hc : c ≤ 600000) (hs : s ≤ 7302250) (i : Nat) (hi : i + 6 ≤ L) (M : MM) (hI : INV M) (nx : ∀ M', INV M' → S 1341 [some (vR scr), some (vR 0), some (vR 55), some (vI i)] [] (sh0, c, s) M') : S 776 [some (vR scr), some (vR 0), some (vR 55), some (vI i)] [] (sh0, c, s) M := by
  have hx1 : ∀ j, -2147483648 ≤ xs j := fun j => (hxs j).1
  have hx2 : ∀ j, xs j ≤ 2147483647 := fun j => (hxs j).2
  have hL1 : L ≤ 100000 := by omega
  have f1 : 0 ≤ (i : Int) + 1 := by omega
  have g1 : (i : Int) + 1 < L := by omega
  have t1 : ((i : Int) + 1).toNat = i + 1 := by omega
  have f2 : 0 ≤ (i : Int) + 2 := by omega
  have g2 : (i : Int) + 2 < L := by omega
  have t2 : ((i : Int) + 2).toNat = i + 2 := by omega
  have f3 : 0 ≤ (i : Int) + 3 := by omega
  have g3 : (i : Int) + 3 < L := by omega
  have t3 : ((i : Int) + 3).toNat = i + 3 := by omega
  have f4 : 0 ≤ (i : Int) + 4 := by omega
  have g4 : (i : Int) + 4 < L := by omega
  have t4 : ((i : Int) + 4).toNat = i + 4 := by omega
  have f5 : 0 ≤ (i : Int) + 5 := by omega
  have g5 : (i : Int) + 5 < L := by omega
  have t5 : ((i : Int) + 5).toNat = i + 5 := by omega
  refine wpx_ok hS bk163c14 (sp := sp163c14) 60 776 _ _ _ _ ?_
  simp only [LCM, B2, Bool.not_eq_false, Bool.not_eq_true, decide_eq_true_eq, decide_eq_false_iff_not, Int.not_lt, Int.not_le, CST, TN, WX, WA, WB, GS, LOC, BT163c14, SP163c14, CLS, FLD, ARR, CD, true_and, and_true, and_self, forall_const, true_implies, false_implies, implies_true, not_true_eq_false, not_false_eq_true, if_true, if_false, rgI, rgL, scr, swl, lkl, cats, cat, is2, List.drop_succ_cons, List.drop_zero, List.drop_nil, List.cons_append, List.nil_append, Option.toList_some, Option.toList_none, List.length_cons, List.length_nil, ne_eq, Classical.not_not, reduceCtorEq, Nat.reduceAdd, Nat.reduceSub, Nat.reduceMul, Nat.reduceLT, Nat.reduceLeDiff, Nat.reduceEqDiff, Nat.reduceBEq, Int.reduceToNat, Int.reduceLE, Int.reduceLT, Int.reduceEq, Int.reduceNeg, Int.reduceAdd, Int.reduceSub, Int.reduceMul, Int.toNat_natCast, Nat.zero_add, Int.add_zero, Nat.add_zero, ite_true, ite_false, Option.some.injEq, Nat.le_refl, or_true, true_or, or_false, false_or, if_pos, reduceIte, Nat.reduceGT, Int.lt_irrefl, hx1, hx2, hL1, f1, g1, t1, f2, g2, t2, f3, g3, t3, f4, g4, t4, f5, g5, t5]
  refine ⟨rcv_ok rfl own58 rfl, kW (p_harvest (xs (i + 1)) (lOr (lShl (xs (i + 2)) 32) (lAnd (xs (i + 3)) 4294967295)) (lOr (lShl (xs (i + 4)) 32) (lAnd (xs (i + 5)) 4294967295)) (hxs _) (lOr_rg _ _) (lOr_rg _ _) M hI) (Nat.le_of_ble_eq_true rfl) rfl rfl (Nat.le_of_ble_eq_true rfl) (Nat.le_of_ble_eq_true rfl) rfl hc hs ?_⟩
  rintro r M1 ⟨v, rfl, hv, hz⟩
  have hv1 := hv.1
  have hv2 := hv.2
  show S 825 _ [Sum.inr (Sum.inl v)] _ M1
  refine wpx_ok hS bk163c14 (sp := sp163c14) 60 825 _ _ _ _ ?_
  simp only [LCM, B2, Bool.not_eq_false, Bool.not_eq_true, decide_eq_true_eq, decide_eq_false_iff_not, Int.not_lt, Int.not_le, CST, TN, WX, WA, WB, GS, LOC, BT163c14, SP163c14, CLS, FLD, ARR, CD, true_and, and_true, and_self, forall_const, true_implies, false_implies, implies_true, not_true_eq_false, not_false_eq_true, if_true, if_false, rgI, rgL, scr, swl, lkl, cats, cat, is2, List.drop_succ_cons, List.drop_zero, List.drop_nil, List.cons_append, List.nil_append, Option.toList_some, Option.toList_none, List.length_cons, List.length_nil, ne_eq, Classical.not_not, reduceCtorEq, Nat.reduceAdd, Nat.reduceSub, Nat.reduceMul, Nat.reduceLT, Nat.reduceLeDiff, Nat.reduceEqDiff, Nat.reduceBEq, Int.reduceToNat, Int.reduceLE, Int.reduceLT, Int.reduceEq, Int.reduceNeg, Int.reduceAdd, Int.reduceSub, Int.reduceMul, Int.toNat_natCast, Nat.zero_add, Int.add_zero, Nat.add_zero, ite_true, ite_false, Option.some.injEq, Nat.le_refl, or_true, true_or, or_false, false_or, if_pos, reduceIte, Nat.reduceGT, Int.lt_irrefl, hx1, hx2, hL1, f1, g1, t1, f2, g2, t2, f3, g3, t3, f4, g4, t4, f5, g5, t5]
  refine ⟨rcv_ok rfl own137 rfl, kW hz (Nat.le_of_ble_eq_true rfl) rfl rfl (Nat.le_of_ble_eq_true rfl) (Nat.le_of_ble_eq_true rfl) rfl hc hs ?_⟩
  rintro r2 M2 ⟨rfl, hI2⟩
  show S 874 _ [Sum.inr (Sum.inl v), Sum.inr (Sum.inl v)] _ M2
  refine wpx_ok hS bk163c14 (sp := sp163c14) 60 874 _ _ _ _ ?_
  simp only [LCM, B2, Bool.not_eq_false, Bool.not_eq_true, decide_eq_true_eq, decide_eq_false_iff_not, Int.not_lt, Int.not_le, CST, TN, WX, WA, WB, GS, LOC, BT163c14, SP163c14, CLS, FLD, ARR, CD, true_and, and_true, and_self, forall_const, true_implies, false_implies, implies_true, not_true_eq_false, not_false_eq_true, if_true, if_false, rgI, rgL, scr, swl, lkl, cats, cat, is2, List.drop_succ_cons, List.drop_zero, List.drop_nil, List.cons_append, List.nil_append, Option.toList_some, Option.toList_none, List.length_cons, List.length_nil, ne_eq, Classical.not_not, reduceCtorEq, Nat.reduceAdd, Nat.reduceSub, Nat.reduceMul, Nat.reduceLT, Nat.reduceLeDiff, Nat.reduceEqDiff, Nat.reduceBEq, Int.reduceToNat, Int.reduceLE, Int.reduceLT, Int.reduceEq, Int.reduceNeg, Int.reduceAdd, Int.reduceSub, Int.reduceMul, Int.toNat_natCast, Nat.zero_add, Int.add_zero, Nat.add_zero, ite_true, ite_false, Option.some.injEq, Nat.le_refl, or_true, true_or, or_false, false_or, if_pos, reduceIte, Nat.reduceGT, Int.lt_irrefl, hv1, hv2]
  exact nx M2 hI2
def bt163c15 (pc : Nat) : BL := if pc = 880 then [(.aload 1, 0, 1), (.aload 0, 0, 1), (.iload 3, 0, 1), (.iconst 1, 0, 1), (.iadd, 0, 1), (.iaload, 0, 1), (.invokevirtual 59, 2, 3)] else if pc = 889 then [(.aload 2, 0, 1), (.aload 0, 0, 1), (.iload 3, 0, 1), (.iconst 1, 0, 1), (.iadd, 0, 1), (.iaload, 0, 1), (.invokevirtual 142, 2, 3)] else if pc = 898 then [(.if_icmp .eq 1341, 0, 3)] else if pc = 901 then [(.iconst 0, 0, 1), (.ireturn, 0, 1)] else []
def sp163c15 (pc : Nat) : Bool := [889, 898, 1341].contains pc
theorem BT163c15 : bt163c15 880 = [(.aload 1, 0, 1), (.aload 0, 0, 1), (.iload 3, 0, 1), (.iconst 1, 0, 1), (.iadd, 0, 1), (.iaload, 0, 1), (.invokevirtual 59, 2, 3)] ∧ bt163c15 889 = [(.aload 2, 0, 1), (.aload 0, 0, 1), (.iload 3, 0, 1), (.iconst 1, 0, 1), (.iadd, 0, 1), (.iaload, 0, 1), (.invokevirtual 142, 2, 3)] ∧ bt163c15 898 = [(.if_icmp .eq 1341, 0, 3)] ∧ bt163c15 901 = [(.iconst 0, 0, 1), (.ireturn, 0, 1)] ∧ True := ⟨rfl, rfl, rfl, rfl, trivial⟩
theorem SP163c15 : sp163c15 880 = false ∧ sp163c15 889 = true ∧ sp163c15 898 = true ∧ sp163c15 901 = false ∧ sp163c15 1341 = true ∧ True := ⟨rfl, rfl, rfl, rfl, rfl, trivial⟩
set_option maxRecDepth 100000 in
theorem bk163c15 : ∀ pc, blk 163 pc (bt163c15 pc) = true := fun pc => blk_if (by decide +kernel) (blk_if (by decide +kernel) (blk_if (by decide +kernel) (blk_if (by decide +kernel) (rfl))))
theorem lc_15 {S : Nat → KK} {L c s : Nat} {xs : Nat → Int} (hS : Clo (Run 9) 163 (some (L, xs)) 600000 7302250 RtL S) (hxs : ∀ j, rgI (xs j)) (hL : L ≤ 3072) (hc : c ≤ 600000) (hs : s ≤ 7302250) (i : Nat) (hi : i + 6 ≤ L) (M : MM) (hI : INV M) (nx : ∀ M', INV M' → S 1341 [some (vR scr), some (vR 0), some (vR 55), some (vI i)] [] (sh0, c, s) M') : S 880 [some (vR scr), some (vR 0), some (vR 55), some (vI i)] [] (sh0, c, s) M := by
  have hx1 : ∀ j, -2147483648 ≤ xs j := fun j => (hxs j).1
  have hx2 : ∀ j, xs j ≤ 2147483647 := fun j => (hxs j).2
  have hL1 : L ≤ 100000 := by omega
  have f1 : 0 ≤ (i : Int) + 1 := by omega
  have g1 : (i : Int) + 1 < L := by omega
  have t1 : ((i : Int) + 1).toNat = i + 1 := by omega
  have f2 : 0 ≤ (i : Int) + 2 := by omega
  have g2 : (i : Int) + 2 < L := by omega
  have t2 : ((i : Int) + 2).toNat = i + 2 := by omega
  have f3 : 0 ≤ (i : Int) + 3 := by omega
  have g3 : (i : Int) + 3 < L := by omega
  have t3 : ((i : Int) + 3).toNat = i + 3 := by omega
  have f4 : 0 ≤ (i : Int) + 4 := by omega
  have g4 : (i : Int) + 4 < L := by omega
  have t4 : ((i : Int) + 4).toNat = i + 4 := by omega
  have f5 : 0 ≤ (i : Int) + 5 := by omega
  have g5 : (i : Int) + 5 < L := by omega
  have t5 : ((i : Int) + 5).toNat = i + 5 := by omega
  refine wpx_ok hS bk163c15 (sp := sp163c15) 60 880 _ _ _ _ ?_
  simp only [LCM, B2, Bool.not_eq_false, Bool.not_eq_true, decide_eq_true_eq, decide_eq_false_iff_not, Int.not_lt, Int.not_le, CST, TN, WX, WA, WB, GS, LOC, BT163c15, SP163c15, CLS, FLD, ARR, CD, true_and, and_true, and_self, forall_const, true_implies, false_implies, implies_true, not_true_eq_false, not_false_eq_true, if_true, if_false, rgI, rgL, scr, swl, lkl, cats, cat, is2, List.drop_succ_cons, List.drop_zero, List.drop_nil, List.cons_append, List.nil_append, Option.toList_some, Option.toList_none, List.length_cons, List.length_nil, ne_eq, Classical.not_not, reduceCtorEq, Nat.reduceAdd, Nat.reduceSub, Nat.reduceMul, Nat.reduceLT, Nat.reduceLeDiff, Nat.reduceEqDiff, Nat.reduceBEq, Int.reduceToNat, Int.reduceLE, Int.reduceLT, Int.reduceEq, Int.reduceNeg, Int.reduceAdd, Int.reduceSub, Int.reduceMul, Int.toNat_natCast, Nat.zero_add, Int.add_zero, Nat.add_zero, ite_true, ite_false, Option.some.injEq, Nat.le_refl, or_true, true_or, or_false, false_or, if_pos, reduceIte, Nat.reduceGT, Int.lt_irrefl, hx1, hx2, hL1, f1, g1, t1, f2, g2, t2, f3, g3, t3, f4, g4, t4, f5, g5, t5]
  refine ⟨rcv_ok rfl own59 rfl, kW (p_settled (xs (i + 1)) (hxs _) M hI) (Nat.le_of_ble_eq_true rfl) rfl rfl (Nat.le_of_ble_eq_true rfl) (Nat.le_of_ble_eq_true rfl) rfl hc hs ?_⟩
  rintro r M1 ⟨v, rfl, hv, hz⟩
  have hv1 := hv.1
  have hv2 := hv.2
  show S 889 _ [Sum.inl v] _ M1
  refine wpx_ok hS bk163c15 (sp := sp163c15) 60 889 _ _ _ _ ?_
  simp only [LCM, B2, Bool.not_eq_false, Bool.not_eq_true, decide_eq_true_eq, decide_eq_false_iff_not, Int.not_lt, Int.not_le, CST, TN, WX, WA, WB, GS, LOC, BT163c15, SP163c15, CLS, FLD, ARR, CD, true_and, and_true, and_self, forall_const, true_implies, false_implies, implies_true, not_true_eq_false, not_false_eq_true, if_true, if_false, rgI, rgL, scr, swl, lkl, cats, cat, is2, List.drop_succ_cons, List.drop_zero, List.drop_nil, List.cons_append, List.nil_append, Option.toList_some, Option.toList_none, List.length_cons, List.length_nil, ne_eq, Classical.not_not, reduceCtorEq, Nat.reduceAdd, Nat.reduceSub, Nat.reduceMul, Nat.reduceLT, Nat.reduceLeDiff, Nat.reduceEqDiff, Nat.reduceBEq, Int.reduceToNat, Int.reduceLE, Int.reduceLT, Int.reduceEq, Int.reduceNeg, Int.reduceAdd, Int.reduceSub, Int.reduceMul, Int.toNat_natCast, Nat.zero_add, Int.add_zero, Nat.add_zero, ite_true, ite_false, Option.some.injEq, Nat.le_refl, or_true, true_or, or_false, false_or, if_pos, reduceIte, Nat.reduceGT, Int.lt_irrefl, hx1, hx2, hL1, f1, g1, t1, f2, g2, t2, f3, g3, t3, f4, g4, t4, f5, g5, t5]
  refine ⟨rcv_ok rfl own142 rfl, kW hz (Nat.le_of_ble_eq_true rfl) rfl rfl (Nat.le_of_ble_eq_true rfl) (Nat.le_of_ble_eq_true rfl) rfl hc hs ?_⟩
  rintro r2 M2 ⟨rfl, hI2⟩
  show S 898 _ [Sum.inl v, Sum.inl v] _ M2
  refine wpx_ok hS bk163c15 (sp := sp163c15) 60 898 _ _ _ _ ?_
  simp only [LCM, B2, Bool.not_eq_false, Bool.not_eq_true, decide_eq_true_eq, decide_eq_false_iff_not, Int.not_lt, Int.not_le, CST, TN, WX, WA, WB, GS, LOC, BT163c15, SP163c15, CLS, FLD, ARR, CD, true_and, and_true, and_self, forall_const, true_implies, false_implies, implies_true, not_true_eq_false, not_false_eq_true, if_true, if_false, rgI, rgL, scr, swl, lkl, cats, cat, is2, List.drop_succ_cons, List.drop_zero, List.drop_nil, List.cons_append, List.nil_append, Option.toList_some, Option.toList_none, List.length_cons, List.length_nil, ne_eq, Classical.not_not, reduceCtorEq, Nat.reduceAdd, Nat.reduceSub, Nat.reduceMul, Nat.reduceLT, Nat.reduceLeDiff, Nat.reduceEqDiff, Nat.reduceBEq, Int.reduceToNat, Int.reduceLE, Int.reduceLT, Int.reduceEq, Int.reduceNeg, Int.reduceAdd, Int.reduceSub, Int.reduceMul, Int.toNat_natCast, Nat.zero_add, Int.add_zero, Nat.add_zero, ite_true, ite_false, Option.some.injEq, Nat.le_refl, or_true, true_or, or_false, false_or, if_pos, reduceIte, Nat.reduceGT, Int.lt_irrefl, hv1, hv2]
  exact nx M2 hI2
def bt163c16 (pc : Nat) : BL := if pc = 903 then [(.aload 1, 0, 1), (.aload 0, 0, 1), (.iload 3, 0, 1), (.iconst 1, 0, 1), (.iadd, 0, 1), (.iaload, 0, 1), (.aload 0, 0, 1), (.iload 3, 0, 1), (.iconst 2, 0, 1), (.iadd, 0, 1), (.iaload, 0, 1), (.invokevirtual 60, 3, 3)] else if pc = 917 then [(.aload 2, 0, 1), (.aload 0, 0, 1), (.iload 3, 0, 1), (.iconst 1, 0, 1), (.iadd, 0, 1), (.iaload, 0, 1), (.aload 0, 0, 1), (.iload 3, 0, 1), (.iconst 2, 0, 1), (.iadd, 0, 1), (.iaload, 0, 1), (.invokevirtual 146, 3, 3)] else if pc = 931 then [(.if_icmp .eq 1341, 0, 3)] else if pc = 934 then [(.iconst 0, 0, 1), (.ireturn, 0, 1)] else []
def sp163c16 (pc : Nat) : Bool := [917, 931, 1341].contains pc
theorem BT163c16 : bt163c16 903 = [(.aload 1, 0, 1), (.aload 0, 0, 1), (.iload 3, 0, 1), (.iconst 1, 0, 1), (.iadd, 0, 1), (.iaload, 0, 1), (.aload 0, 0, 1), (.iload 3, 0, 1), (.iconst 2, 0, 1), (.iadd, 0, 1), (.iaload, 0, 1), (.invokevirtual 60, 3, 3)] ∧ bt163c16 917 = [(.aload 2, 0, 1), (.aload 0, 0, 1), (.iload 3, 0, 1), (.iconst 1, 0, 1), (.iadd, 0, 1), (.iaload, 0, 1), (.aload 0, 0, 1), (.iload 3, 0, 1), (.iconst 2, 0, 1), (.iadd, 0, 1), (.iaload, 0, 1), (.invokevirtual 146, 3, 3)] ∧ bt163c16 931 = [(.if_icmp .eq 1341, 0, 3)] ∧ bt163c16 934 = [(.iconst 0, 0, 1), (.ireturn, 0, 1)] ∧ True := ⟨rfl, rfl, rfl, rfl, trivial⟩
theorem SP163c16 : sp163c16 903 = false ∧ sp163c16 917 = true ∧ sp163c16 931 = true ∧ sp163c16 934 = false ∧ sp163c16 1341 = true ∧ True := ⟨rfl, rfl, rfl, rfl, rfl, trivial⟩
set_option maxRecDepth 100000 in
theorem bk163c16 : ∀ pc, blk 163 pc (bt163c16 pc) = true := fun pc => blk_if (by decide +kernel) (blk_if (by decide +kernel) (blk_if (by decide +kernel) (blk_if (by decide +kernel) (rfl))))
theorem lc_16 {S : Nat → KK} {L c s : Nat} {xs : Nat → Int} (hS : Clo (Run 9) 163 (some (L, xs)) 600000 7302250 RtL S) (hxs : ∀ j, rgI (xs j)) (hL : L ≤ 3072) (hc : c ≤ 600000) (hs : s ≤ 7302250) (i : Nat) (hi : i + 6 ≤ L) (M : MM) (hI : INV M) (nx : ∀ M', INV M' → S 1341 [some (vR scr), some (vR 0), some (vR 55), some (vI i)] [] (sh0, c, s) M') : S 903 [some (vR scr), some (vR 0), some (vR 55), some (vI i)] [] (sh0, c, s) M := by
  have hx1 : ∀ j, -2147483648 ≤ xs j := fun j => (hxs j).1
  have hx2 : ∀ j, xs j ≤ 2147483647 := fun j => (hxs j).2
  have hL1 : L ≤ 100000 := by omega
  have f1 : 0 ≤ (i : Int) + 1 := by omega
  have g1 : (i : Int) + 1 < L := by omega
  have t1 : ((i : Int) + 1).toNat = i + 1 := by omega
  have f2 : 0 ≤ (i : Int) + 2 := by omega
  have g2 : (i : Int) + 2 < L := by omega
  have t2 : ((i : Int) + 2).toNat = i + 2 := by omega
  have f3 : 0 ≤ (i : Int) + 3 := by omega
  have g3 : (i : Int) + 3 < L := by omega
  have t3 : ((i : Int) + 3).toNat = i + 3 := by omega
  have f4 : 0 ≤ (i : Int) + 4 := by omega
  have g4 : (i : Int) + 4 < L := by omega
  have t4 : ((i : Int) + 4).toNat = i + 4 := by omega
  have f5 : 0 ≤ (i : Int) + 5 := by omega
  have g5 : (i : Int) + 5 < L := by omega
  have t5 : ((i : Int) + 5).toNat = i + 5 := by omega
  refine wpx_ok hS bk163c16 (sp := sp163c16) 60 903 _ _ _ _ ?_
  simp only [LCM, B2, Bool.not_eq_false, Bool.not_eq_true, decide_eq_true_eq, decide_eq_false_iff_not, Int.not_lt, Int.not_le, CST, TN, WX, WA, WB, GS, LOC, BT163c16, SP163c16, CLS, FLD, ARR, CD, true_and, and_true, and_self, forall_const, true_implies, false_implies, implies_true, not_true_eq_false, not_false_eq_true, if_true, if_false, rgI, rgL, scr, swl, lkl, cats, cat, is2, List.drop_succ_cons, List.drop_zero, List.drop_nil, List.cons_append, List.nil_append, Option.toList_some, Option.toList_none, List.length_cons, List.length_nil, ne_eq, Classical.not_not, reduceCtorEq, Nat.reduceAdd, Nat.reduceSub, Nat.reduceMul, Nat.reduceLT, Nat.reduceLeDiff, Nat.reduceEqDiff, Nat.reduceBEq, Int.reduceToNat, Int.reduceLE, Int.reduceLT, Int.reduceEq, Int.reduceNeg, Int.reduceAdd, Int.reduceSub, Int.reduceMul, Int.toNat_natCast, Nat.zero_add, Int.add_zero, Nat.add_zero, ite_true, ite_false, Option.some.injEq, Nat.le_refl, or_true, true_or, or_false, false_or, if_pos, reduceIte, Nat.reduceGT, Int.lt_irrefl, hx1, hx2, hL1, f1, g1, t1, f2, g2, t2, f3, g3, t3, f4, g4, t4, f5, g5, t5]
  refine ⟨rcv_ok rfl own60 rfl, kW (p_years (xs (i + 1)) (xs (i + 2)) (hxs _) (hxs _) M hI) (Nat.le_of_ble_eq_true rfl) rfl rfl (Nat.le_of_ble_eq_true rfl) (Nat.le_of_ble_eq_true rfl) rfl hc hs ?_⟩
  rintro r M1 ⟨v, rfl, hv, hz⟩
  have hv1 := hv.1
  have hv2 := hv.2
  show S 917 _ [Sum.inl v] _ M1
  refine wpx_ok hS bk163c16 (sp := sp163c16) 60 917 _ _ _ _ ?_
  simp only [LCM, B2, Bool.not_eq_false, Bool.not_eq_true, decide_eq_true_eq, decide_eq_false_iff_not, Int.not_lt, Int.not_le, CST, TN, WX, WA, WB, GS, LOC, BT163c16, SP163c16, CLS, FLD, ARR, CD, true_and, and_true, and_self, forall_const, true_implies, false_implies, implies_true, not_true_eq_false, not_false_eq_true, if_true, if_false, rgI, rgL, scr, swl, lkl, cats, cat, is2, List.drop_succ_cons, List.drop_zero, List.drop_nil, List.cons_append, List.nil_append, Option.toList_some, Option.toList_none, List.length_cons, List.length_nil, ne_eq, Classical.not_not, reduceCtorEq, Nat.reduceAdd, Nat.reduceSub, Nat.reduceMul, Nat.reduceLT, Nat.reduceLeDiff, Nat.reduceEqDiff, Nat.reduceBEq, Int.reduceToNat, Int.reduceLE, Int.reduceLT, Int.reduceEq, Int.reduceNeg, Int.reduceAdd, Int.reduceSub, Int.reduceMul, Int.toNat_natCast, Nat.zero_add, Int.add_zero, Nat.add_zero, ite_true, ite_false, Option.some.injEq, Nat.le_refl, or_true, true_or, or_false, false_or, if_pos, reduceIte, Nat.reduceGT, Int.lt_irrefl, hx1, hx2, hL1, f1, g1, t1, f2, g2, t2, f3, g3, t3, f4, g4, t4, f5, g5, t5]
  refine ⟨rcv_ok rfl own146 rfl, kW hz (Nat.le_of_ble_eq_true rfl) rfl rfl (Nat.le_of_ble_eq_true rfl) (Nat.le_of_ble_eq_true rfl) rfl hc hs ?_⟩
  rintro r2 M2 ⟨rfl, hI2⟩
  show S 931 _ [Sum.inl v, Sum.inl v] _ M2
  refine wpx_ok hS bk163c16 (sp := sp163c16) 60 931 _ _ _ _ ?_
  simp only [LCM, B2, Bool.not_eq_false, Bool.not_eq_true, decide_eq_true_eq, decide_eq_false_iff_not, Int.not_lt, Int.not_le, CST, TN, WX, WA, WB, GS, LOC, BT163c16, SP163c16, CLS, FLD, ARR, CD, true_and, and_true, and_self, forall_const, true_implies, false_implies, implies_true, not_true_eq_false, not_false_eq_true, if_true, if_false, rgI, rgL, scr, swl, lkl, cats, cat, is2, List.drop_succ_cons, List.drop_zero, List.drop_nil, List.cons_append, List.nil_append, Option.toList_some, Option.toList_none, List.length_cons, List.length_nil, ne_eq, Classical.not_not, reduceCtorEq, Nat.reduceAdd, Nat.reduceSub, Nat.reduceMul, Nat.reduceLT, Nat.reduceLeDiff, Nat.reduceEqDiff, Nat.reduceBEq, Int.reduceToNat, Int.reduceLE, Int.reduceLT, Int.reduceEq, Int.reduceNeg, Int.reduceAdd, Int.reduceSub, Int.reduceMul, Int.toNat_natCast, Nat.zero_add, Int.add_zero, Nat.add_zero, ite_true, ite_false, Option.some.injEq, Nat.le_refl, or_true, true_or, or_false, false_or, if_pos, reduceIte, Nat.reduceGT, Int.lt_irrefl, hv1, hv2]
  exact nx M2 hI2
def bt163c17 (pc : Nat) : BL := if pc = 936 then [(.aload 1, 0, 1), (.aload 0, 0, 1), (.iload 3, 0, 1), (.iconst 1, 0, 1), (.iadd, 0, 1), (.iaload, 0, 1), (.aload 0, 0, 1), (.iload 3, 0, 1), (.iconst 2, 0, 1), (.iadd, 0, 1), (.iaload, 0, 1), (.aload 0, 0, 1), (.iload 3, 0, 1), (.iconst 3, 0, 1), (.iadd, 0, 1), (.iaload, 0, 1), (.invokevirtual 61, 4, 3)] else if pc = 955 then [(.aload 2, 0, 1), (.aload 0, 0, 1), (.iload 3, 0, 1), (.iconst 1, 0, 1), (.iadd, 0, 1), (.iaload, 0, 1), (.aload 0, 0, 1), (.iload 3, 0, 1), (.iconst 2, 0, 1), (.iadd, 0, 1), (.iaload, 0, 1), (.aload 0, 0, 1), (.iload 3, 0, 1), (.iconst 3, 0, 1), (.iadd, 0, 1), (.iaload, 0, 1), (.invokevirtual 148, 4, 3)] else if pc = 974 then [(.if_icmp .eq 1341, 0, 3)] else if pc = 977 then [(.iconst 0, 0, 1), (.ireturn, 0, 1)] else []
def sp163c17 (pc : Nat) : Bool := [955, 974, 1341].contains pc
theorem BT163c17 : bt163c17 936 = [(.aload 1, 0, 1), (.aload 0, 0, 1), (.iload 3, 0, 1), (.iconst 1, 0, 1), (.iadd, 0, 1), (.iaload, 0, 1), (.aload 0, 0, 1), (.iload 3, 0, 1), (.iconst 2, 0, 1), (.iadd, 0, 1), (.iaload, 0, 1), (.aload 0, 0, 1), (.iload 3, 0, 1), (.iconst 3, 0, 1), (.iadd, 0, 1), (.iaload, 0, 1), (.invokevirtual 61, 4, 3)] ∧ bt163c17 955 = [(.aload 2, 0, 1), (.aload 0, 0, 1), (.iload 3, 0, 1), (.iconst 1, 0, 1), (.iadd, 0, 1), (.iaload, 0, 1), (.aload 0, 0, 1), (.iload 3, 0, 1), (.iconst 2, 0, 1), (.iadd, 0, 1), (.iaload, 0, 1), (.aload 0, 0, 1), (.iload 3, 0, 1), (.iconst 3, 0, 1), (.iadd, 0, 1), (.iaload, 0, 1), (.invokevirtual 148, 4, 3)] ∧ bt163c17 974 = [(.if_icmp .eq 1341, 0, 3)] ∧ bt163c17 977 = [(.iconst 0, 0, 1), (.ireturn, 0, 1)] ∧ True := ⟨rfl, rfl, rfl, rfl, trivial⟩
theorem SP163c17 : sp163c17 936 = false ∧ sp163c17 955 = true ∧ sp163c17 974 = true ∧ sp163c17 977 = false ∧ sp163c17 1341 = true ∧ True := ⟨rfl, rfl, rfl, rfl, rfl, trivial⟩
set_option maxRecDepth 100000 in
theorem bk163c17 : ∀ pc, blk 163 pc (bt163c17 pc) = true := fun pc => blk_if (by decide +kernel) (blk_if (by decide +kernel) (blk_if (by decide +kernel) (blk_if (by decide +kernel) (rfl))))
theorem lc_17 {S : Nat → KK} {L c s : Nat} {xs : Nat → Int} (hS : Clo (Run 9) 163 (some (L, xs)) 600000 7302250 RtL S) (hxs : ∀ j, rgI (xs j)) (hL : L ≤ 3072) (hc : c ≤ 600000) (hs : s ≤ 7302250) (i : Nat) (hi : i + 6 ≤ L) (M : MM) (hI : INV M) (nx : ∀ M', INV M' → S 1341 [some (vR scr), some (vR 0), some (vR 55), some (vI i)] [] (sh0, c, s) M') : S 936 [some (vR scr), some (vR 0), some (vR 55), some (vI i)] [] (sh0, c, s) M := by
  have hx1 : ∀ j, -2147483648 ≤ xs j := fun j => (hxs j).1
  have hx2 : ∀ j, xs j ≤ 2147483647 := fun j => (hxs j).2
  have hL1 : L ≤ 100000 := by omega
  have f1 : 0 ≤ (i : Int) + 1 := by omega
  have g1 : (i : Int) + 1 < L := by omega
  have t1 : ((i : Int) + 1).toNat = i + 1 := by omega
  have f2 : 0 ≤ (i : Int) + 2 := by omega
  have g2 : (i : Int) + 2 < L := by omega
  have t2 : ((i : Int) + 2).toNat = i + 2 := by omega
  have f3 : 0 ≤ (i : Int) + 3 := by omega
  have g3 : (i : Int) + 3 < L := by omega
  have t3 : ((i : Int) + 3).toNat = i + 3 := by omega
  have f4 : 0 ≤ (i : Int) + 4 := by omega
  have g4 : (i : Int) + 4 < L := by omega
  have t4 : ((i : Int) + 4).toNat = i + 4 := by omega
  have f5 : 0 ≤ (i : Int) + 5 := by omega
  have g5 : (i : Int) + 5 < L := by omega
  have t5 : ((i : Int) + 5).toNat = i + 5 := by omega
  refine wpx_ok hS bk163c17 (sp := sp163c17) 60 936 _ _ _ _ ?_
  simp only [LCM, B2, Bool.not_eq_false, Bool.not_eq_true, decide_eq_true_eq, decide_eq_false_iff_not, Int.not_lt, Int.not_le, CST, TN, WX, WA, WB, GS, LOC, BT163c17, SP163c17, CLS, FLD, ARR, CD, true_and, and_true, and_self, forall_const, true_implies, false_implies, implies_true, not_true_eq_false, not_false_eq_true, if_true, if_false, rgI, rgL, scr, swl, lkl, cats, cat, is2, List.drop_succ_cons, List.drop_zero, List.drop_nil, List.cons_append, List.nil_append, Option.toList_some, Option.toList_none, List.length_cons, List.length_nil, ne_eq, Classical.not_not, reduceCtorEq, Nat.reduceAdd, Nat.reduceSub, Nat.reduceMul, Nat.reduceLT, Nat.reduceLeDiff, Nat.reduceEqDiff, Nat.reduceBEq, Int.reduceToNat, Int.reduceLE, Int.reduceLT, Int.reduceEq, Int.reduceNeg, Int.reduceAdd, Int.reduceSub, Int.reduceMul, Int.toNat_natCast, Nat.zero_add, Int.add_zero, Nat.add_zero, ite_true, ite_false, Option.some.injEq, Nat.le_refl, or_true, true_or, or_false, false_or, if_pos, reduceIte, Nat.reduceGT, Int.lt_irrefl, hx1, hx2, hL1, f1, g1, t1, f2, g2, t2, f3, g3, t3, f4, g4, t4, f5, g5, t5]
  refine ⟨rcv_ok rfl own61 rfl, kW (p_wedding (xs (i + 1)) (xs (i + 2)) (xs (i + 3)) (hxs _) (hxs _) (hxs _) M hI) (Nat.le_of_ble_eq_true rfl) rfl rfl (Nat.le_of_ble_eq_true rfl) (Nat.le_of_ble_eq_true rfl) rfl hc hs ?_⟩
  rintro r M1 ⟨v, rfl, hv, hz⟩
  have hv1 := hv.1
  have hv2 := hv.2
  show S 955 _ [Sum.inl v] _ M1
  refine wpx_ok hS bk163c17 (sp := sp163c17) 60 955 _ _ _ _ ?_
  simp only [LCM, B2, Bool.not_eq_false, Bool.not_eq_true, decide_eq_true_eq, decide_eq_false_iff_not, Int.not_lt, Int.not_le, CST, TN, WX, WA, WB, GS, LOC, BT163c17, SP163c17, CLS, FLD, ARR, CD, true_and, and_true, and_self, forall_const, true_implies, false_implies, implies_true, not_true_eq_false, not_false_eq_true, if_true, if_false, rgI, rgL, scr, swl, lkl, cats, cat, is2, List.drop_succ_cons, List.drop_zero, List.drop_nil, List.cons_append, List.nil_append, Option.toList_some, Option.toList_none, List.length_cons, List.length_nil, ne_eq, Classical.not_not, reduceCtorEq, Nat.reduceAdd, Nat.reduceSub, Nat.reduceMul, Nat.reduceLT, Nat.reduceLeDiff, Nat.reduceEqDiff, Nat.reduceBEq, Int.reduceToNat, Int.reduceLE, Int.reduceLT, Int.reduceEq, Int.reduceNeg, Int.reduceAdd, Int.reduceSub, Int.reduceMul, Int.toNat_natCast, Nat.zero_add, Int.add_zero, Nat.add_zero, ite_true, ite_false, Option.some.injEq, Nat.le_refl, or_true, true_or, or_false, false_or, if_pos, reduceIte, Nat.reduceGT, Int.lt_irrefl, hx1, hx2, hL1, f1, g1, t1, f2, g2, t2, f3, g3, t3, f4, g4, t4, f5, g5, t5]
  refine ⟨rcv_ok rfl own148 rfl, kW hz (Nat.le_of_ble_eq_true rfl) rfl rfl (Nat.le_of_ble_eq_true rfl) (Nat.le_of_ble_eq_true rfl) rfl hc hs ?_⟩
  rintro r2 M2 ⟨rfl, hI2⟩
  show S 974 _ [Sum.inl v, Sum.inl v] _ M2
  refine wpx_ok hS bk163c17 (sp := sp163c17) 60 974 _ _ _ _ ?_
  simp only [LCM, B2, Bool.not_eq_false, Bool.not_eq_true, decide_eq_true_eq, decide_eq_false_iff_not, Int.not_lt, Int.not_le, CST, TN, WX, WA, WB, GS, LOC, BT163c17, SP163c17, CLS, FLD, ARR, CD, true_and, and_true, and_self, forall_const, true_implies, false_implies, implies_true, not_true_eq_false, not_false_eq_true, if_true, if_false, rgI, rgL, scr, swl, lkl, cats, cat, is2, List.drop_succ_cons, List.drop_zero, List.drop_nil, List.cons_append, List.nil_append, Option.toList_some, Option.toList_none, List.length_cons, List.length_nil, ne_eq, Classical.not_not, reduceCtorEq, Nat.reduceAdd, Nat.reduceSub, Nat.reduceMul, Nat.reduceLT, Nat.reduceLeDiff, Nat.reduceEqDiff, Nat.reduceBEq, Int.reduceToNat, Int.reduceLE, Int.reduceLT, Int.reduceEq, Int.reduceNeg, Int.reduceAdd, Int.reduceSub, Int.reduceMul, Int.toNat_natCast, Nat.zero_add, Int.add_zero, Nat.add_zero, ite_true, ite_false, Option.some.injEq, Nat.le_refl, or_true, true_or, or_false, false_or, if_pos, reduceIte, Nat.reduceGT, Int.lt_irrefl, hv1, hv2]
  exact nx M2 hI2
def bt163c18 (pc : Nat) : BL := if pc = 979 then [(.aload 1, 0, 1), (.aload 0, 0, 1), (.iload 3, 0, 1), (.iconst 1, 0, 1), (.iadd, 0, 1), (.iaload, 0, 1), (.i2l, 0, 1), (.iconst 32, 0, 2), (.lshl, 0, 1), (.aload 0, 0, 1), (.iload 3, 0, 1), (.iconst 2, 0, 1), (.iadd, 0, 1), (.iaload, 0, 1), (.i2l, 0, 1), (.ldc2_w 0, 4294967295, 3), (.land, 0, 1), (.lor, 0, 1), (.aload 0, 0, 1), (.iload 3, 0, 1), (.iconst 3, 0, 1), (.iadd, 0, 1), (.iaload, 0, 1), (.aload 0, 0, 1), (.iload 3, 0, 1), (.iconst 4, 0, 1), (.iadd, 0, 1), (.iaload, 0, 1), (.ifCond .eq 1017, 0, 3)] else if pc = 1013 then [(.iconst 1, 0, 1), (.goto 1018, 0, 3)] else if pc = 1017 then [(.iconst 0, 0, 1)] else if pc = 1018 then [(.invokevirtual 62, 4, 3)] else if pc = 1021 then [(.aload 2, 0, 1), (.aload 0, 0, 1), (.iload 3, 0, 1), (.iconst 1, 0, 1), (.iadd, 0, 1), (.iaload, 0, 1), (.i2l, 0, 1), (.iconst 32, 0, 2), (.lshl, 0, 1), (.aload 0, 0, 1), (.iload 3, 0, 1), (.iconst 2, 0, 1), (.iadd, 0, 1), (.iaload, 0, 1), (.i2l, 0, 1), (.ldc2_w 0, 4294967295, 3), (.land, 0, 1), (.lor, 0, 1), (.aload 0, 0, 1), (.iload 3, 0, 1), (.iconst 3, 0, 1), (.iadd, 0, 1), (.iaload, 0, 1), (.aload 0, 0, 1), (.iload 3, 0, 1), (.iconst 4, 0, 1), (.iadd, 0, 1), (.iaload, 0, 1), (.ifCond .eq 1059, 0, 3)] else if pc = 1055 then [(.iconst 1, 0, 1), (.goto 1060, 0, 3)] else if pc = 1059 then [(.iconst 0, 0, 1)] else if pc = 1060 then [(.invokevirtual 149, 4, 3)] else if pc = 1063 then [(.if_icmp .eq 1341, 0, 3)] else if pc = 1066 then [(.iconst 0, 0, 1), (.ireturn, 0, 1)] else []
def sp163c18 (pc : Nat) : Bool := [1021, 1063, 1341].contains pc
theorem BT163c18 : bt163c18 979 = [(.aload 1, 0, 1), (.aload 0, 0, 1), (.iload 3, 0, 1), (.iconst 1, 0, 1), (.iadd, 0, 1), (.iaload, 0, 1), (.i2l, 0, 1), (.iconst 32, 0, 2), (.lshl, 0, 1), (.aload 0, 0, 1), (.iload 3, 0, 1), (.iconst 2, 0, 1), (.iadd, 0, 1), (.iaload, 0, 1), (.i2l, 0, 1), (.ldc2_w 0, 4294967295, 3), (.land, 0, 1), (.lor, 0, 1), (.aload 0, 0, 1), (.iload 3, 0, 1), (.iconst 3, 0, 1), (.iadd, 0, 1), (.iaload, 0, 1), (.aload 0, 0, 1), (.iload 3, 0, 1), (.iconst 4, 0, 1), (.iadd, 0, 1), (.iaload, 0, 1), (.ifCond .eq 1017, 0, 3)] ∧ bt163c18 1013 = [(.iconst 1, 0, 1), (.goto 1018, 0, 3)] ∧ bt163c18 1017 = [(.iconst 0, 0, 1)] ∧ bt163c18 1018 = [(.invokevirtual 62, 4, 3)] ∧ bt163c18 1021 = [(.aload 2, 0, 1), (.aload 0, 0, 1), (.iload 3, 0, 1), (.iconst 1, 0, 1), (.iadd, 0, 1), (.iaload, 0, 1), (.i2l, 0, 1), (.iconst 32, 0, 2), (.lshl, 0, 1), (.aload 0, 0, 1), (.iload 3, 0, 1), (.iconst 2, 0, 1), (.iadd, 0, 1), (.iaload, 0, 1), (.i2l, 0, 1), (.ldc2_w 0, 4294967295, 3), (.land, 0, 1), (.lor, 0, 1), (.aload 0, 0, 1), (.iload 3, 0, 1), (.iconst 3, 0, 1), (.iadd, 0, 1), (.iaload, 0, 1), (.aload 0, 0, 1), (.iload 3, 0, 1), (.iconst 4, 0, 1), (.iadd, 0, 1), (.iaload, 0, 1), (.ifCond .eq 1059, 0, 3)] ∧ bt163c18 1055 = [(.iconst 1, 0, 1), (.goto 1060, 0, 3)] ∧ bt163c18 1059 = [(.iconst 0, 0, 1)] ∧ bt163c18 1060 = [(.invokevirtual 149, 4, 3)] ∧ bt163c18 1063 = [(.if_icmp .eq 1341, 0, 3)] ∧ bt163c18 1066 = [(.iconst 0, 0, 1), (.ireturn, 0, 1)] ∧ True := ⟨rfl, rfl, rfl, rfl, rfl, rfl, rfl, rfl, rfl, rfl, trivial⟩
theorem SP163c18 : sp163c18 979 = false ∧ sp163c18 1013 = false ∧ sp163c18 1017 = false ∧ sp163c18 1018 = false ∧ sp163c18 1021 = true ∧ sp163c18 1055 = false ∧ sp163c18 1059 = false ∧ sp163c18 1060 = false ∧ sp163c18 1063 = true ∧ sp163c18 1066 = false ∧ sp163c18 1341 = true ∧ True := ⟨rfl, rfl, rfl, rfl, rfl, rfl, rfl, rfl, rfl, rfl, rfl, trivial⟩
set_option maxRecDepth 100000 in
theorem bk163c18 : ∀ pc, blk 163 pc (bt163c18 pc) = true := fun pc => blk_if (by decide +kernel) (blk_if (by decide +kernel) (blk_if (by decide +kernel) (blk_if (by decide +kernel) (blk_if (by decide +kernel) (blk_if (by decide +kernel) (blk_if (by decide +kernel) (blk_if (by decide +kernel) (blk_if (by decide +kernel) (blk_if (by decide +kernel) (rfl))))))))))
theorem lc_18 {S : Nat → KK} {L c s : Nat} {xs : Nat → Int} (hS : Clo (Run 9) 163 (some (L, xs)) 600000 7302250 RtL S) (hxs : ∀ j, rgI (xs j)) (hL : L ≤ 3072) (hc : c ≤ 600000) (hs : s ≤ 7302250) (i : Nat) (hi : i + 6 ≤ L) (M : MM) (hI : INV M) (nx : ∀ M', INV M' → S 1341 [some (vR scr), some (vR 0), some (vR 55), some (vI i)] [] (sh0, c, s) M') : S 979 [some (vR scr), some (vR 0), some (vR 55), some (vI i)] [] (sh0, c, s) M := by
  have hx1 : ∀ j, -2147483648 ≤ xs j := fun j => (hxs j).1
  have hx2 : ∀ j, xs j ≤ 2147483647 := fun j => (hxs j).2
  have hL1 : L ≤ 100000 := by omega
  have f1 : 0 ≤ (i : Int) + 1 := by omega
  have g1 : (i : Int) + 1 < L := by omega
  have t1 : ((i : Int) + 1).toNat = i + 1 := by omega
  have f2 : 0 ≤ (i : Int) + 2 := by omega
  have g2 : (i : Int) + 2 < L := by omega
  have t2 : ((i : Int) + 2).toNat = i + 2 := by omega
  have f3 : 0 ≤ (i : Int) + 3 := by omega
  have g3 : (i : Int) + 3 < L := by omega
  have t3 : ((i : Int) + 3).toNat = i + 3 := by omega
  have f4 : 0 ≤ (i : Int) + 4 := by omega
  have g4 : (i : Int) + 4 < L := by omega
  have t4 : ((i : Int) + 4).toNat = i + 4 := by omega
  have f5 : 0 ≤ (i : Int) + 5 := by omega
  have g5 : (i : Int) + 5 < L := by omega
  have t5 : ((i : Int) + 5).toNat = i + 5 := by omega
  by_cases hz0 : xs (i + 4) = 0
  · refine wpx_ok hS bk163c18 (sp := sp163c18) 60 979 _ _ _ _ ?_
    simp only [LCM, B2, Bool.not_eq_false, Bool.not_eq_true, decide_eq_true_eq, decide_eq_false_iff_not, Int.not_lt, Int.not_le, CST, TN, WX, WA, WB, GS, LOC, BT163c18, SP163c18, CLS, FLD, ARR, CD, true_and, and_true, and_self, forall_const, true_implies, false_implies, implies_true, not_true_eq_false, not_false_eq_true, if_true, if_false, rgI, rgL, scr, swl, lkl, cats, cat, is2, List.drop_succ_cons, List.drop_zero, List.drop_nil, List.cons_append, List.nil_append, Option.toList_some, Option.toList_none, List.length_cons, List.length_nil, ne_eq, Classical.not_not, reduceCtorEq, Nat.reduceAdd, Nat.reduceSub, Nat.reduceMul, Nat.reduceLT, Nat.reduceLeDiff, Nat.reduceEqDiff, Nat.reduceBEq, Int.reduceToNat, Int.reduceLE, Int.reduceLT, Int.reduceEq, Int.reduceNeg, Int.reduceAdd, Int.reduceSub, Int.reduceMul, Int.toNat_natCast, Nat.zero_add, Int.add_zero, Nat.add_zero, ite_true, ite_false, Option.some.injEq, Nat.le_refl, or_true, true_or, or_false, false_or, if_pos, reduceIte, Nat.reduceGT, Int.lt_irrefl, hx1, hx2, hL1, f1, g1, t1, f2, g2, t2, f3, g3, t3, f4, g4, t4, f5, g5, t5, hz0]
    refine ⟨rcv_ok rfl own62 rfl, kW (p_seen (lOr (lShl (xs (i + 1)) 32) (lAnd (xs (i + 2)) 4294967295)) (xs (i + 3)) 0 (lOr_rg _ _) (hxs _) (Or.inl rfl) M hI) (Nat.le_of_ble_eq_true rfl) rfl rfl (Nat.le_of_ble_eq_true rfl) (Nat.le_of_ble_eq_true rfl) rfl hc hs ?_⟩
    rintro r M1 ⟨v, rfl, hv, hz⟩
    have hv1 := hv.1
    have hv2 := hv.2
    show S 1021 _ [Sum.inl v] _ M1
    refine wpx_ok hS bk163c18 (sp := sp163c18) 60 1021 _ _ _ _ ?_
    simp only [LCM, B2, Bool.not_eq_false, Bool.not_eq_true, decide_eq_true_eq, decide_eq_false_iff_not, Int.not_lt, Int.not_le, CST, TN, WX, WA, WB, GS, LOC, BT163c18, SP163c18, CLS, FLD, ARR, CD, true_and, and_true, and_self, forall_const, true_implies, false_implies, implies_true, not_true_eq_false, not_false_eq_true, if_true, if_false, rgI, rgL, scr, swl, lkl, cats, cat, is2, List.drop_succ_cons, List.drop_zero, List.drop_nil, List.cons_append, List.nil_append, Option.toList_some, Option.toList_none, List.length_cons, List.length_nil, ne_eq, Classical.not_not, reduceCtorEq, Nat.reduceAdd, Nat.reduceSub, Nat.reduceMul, Nat.reduceLT, Nat.reduceLeDiff, Nat.reduceEqDiff, Nat.reduceBEq, Int.reduceToNat, Int.reduceLE, Int.reduceLT, Int.reduceEq, Int.reduceNeg, Int.reduceAdd, Int.reduceSub, Int.reduceMul, Int.toNat_natCast, Nat.zero_add, Int.add_zero, Nat.add_zero, ite_true, ite_false, Option.some.injEq, Nat.le_refl, or_true, true_or, or_false, false_or, if_pos, reduceIte, Nat.reduceGT, Int.lt_irrefl, hx1, hx2, hL1, f1, g1, t1, f2, g2, t2, f3, g3, t3, f4, g4, t4, f5, g5, t5, hz0]
    refine ⟨rcv_ok rfl own149 rfl, kW hz (Nat.le_of_ble_eq_true rfl) rfl rfl (Nat.le_of_ble_eq_true rfl) (Nat.le_of_ble_eq_true rfl) rfl hc hs ?_⟩
    rintro r2 M2 ⟨rfl, hI2⟩
    show S 1063 _ [Sum.inl v, Sum.inl v] _ M2
    refine wpx_ok hS bk163c18 (sp := sp163c18) 60 1063 _ _ _ _ ?_
    simp only [LCM, B2, Bool.not_eq_false, Bool.not_eq_true, decide_eq_true_eq, decide_eq_false_iff_not, Int.not_lt, Int.not_le, CST, TN, WX, WA, WB, GS, LOC, BT163c18, SP163c18, CLS, FLD, ARR, CD, true_and, and_true, and_self, forall_const, true_implies, false_implies, implies_true, not_true_eq_false, not_false_eq_true, if_true, if_false, rgI, rgL, scr, swl, lkl, cats, cat, is2, List.drop_succ_cons, List.drop_zero, List.drop_nil, List.cons_append, List.nil_append, Option.toList_some, Option.toList_none, List.length_cons, List.length_nil, ne_eq, Classical.not_not, reduceCtorEq, Nat.reduceAdd, Nat.reduceSub, Nat.reduceMul, Nat.reduceLT, Nat.reduceLeDiff, Nat.reduceEqDiff, Nat.reduceBEq, Int.reduceToNat, Int.reduceLE, Int.reduceLT, Int.reduceEq, Int.reduceNeg, Int.reduceAdd, Int.reduceSub, Int.reduceMul, Int.toNat_natCast, Nat.zero_add, Int.add_zero, Nat.add_zero, ite_true, ite_false, Option.some.injEq, Nat.le_refl, or_true, true_or, or_false, false_or, if_pos, reduceIte, Nat.reduceGT, Int.lt_irrefl, hv1, hv2]
    exact nx M2 hI2
  · refine wpx_ok hS bk163c18 (sp := sp163c18) 60 979 _ _ _ _ ?_
    simp only [LCM, B2, Bool.not_eq_false, Bool.not_eq_true, decide_eq_true_eq, decide_eq_false_iff_not, Int.not_lt, Int.not_le, CST, TN, WX, WA, WB, GS, LOC, BT163c18, SP163c18, CLS, FLD, ARR, CD, true_and, and_true, and_self, forall_const, true_implies, false_implies, implies_true, not_true_eq_false, not_false_eq_true, if_true, if_false, rgI, rgL, scr, swl, lkl, cats, cat, is2, List.drop_succ_cons, List.drop_zero, List.drop_nil, List.cons_append, List.nil_append, Option.toList_some, Option.toList_none, List.length_cons, List.length_nil, ne_eq, Classical.not_not, reduceCtorEq, Nat.reduceAdd, Nat.reduceSub, Nat.reduceMul, Nat.reduceLT, Nat.reduceLeDiff, Nat.reduceEqDiff, Nat.reduceBEq, Int.reduceToNat, Int.reduceLE, Int.reduceLT, Int.reduceEq, Int.reduceNeg, Int.reduceAdd, Int.reduceSub, Int.reduceMul, Int.toNat_natCast, Nat.zero_add, Int.add_zero, Nat.add_zero, ite_true, ite_false, Option.some.injEq, Nat.le_refl, or_true, true_or, or_false, false_or, if_pos, reduceIte, Nat.reduceGT, Int.lt_irrefl, hx1, hx2, hL1, f1, g1, t1, f2, g2, t2, f3, g3, t3, f4, g4, t4, f5, g5, t5, hz0]
    refine ⟨rcv_ok rfl own62 rfl, kW (p_seen (lOr (lShl (xs (i + 1)) 32) (lAnd (xs (i + 2)) 4294967295)) (xs (i + 3)) 1 (lOr_rg _ _) (hxs _) (Or.inr rfl) M hI) (Nat.le_of_ble_eq_true rfl) rfl rfl (Nat.le_of_ble_eq_true rfl) (Nat.le_of_ble_eq_true rfl) rfl hc hs ?_⟩
    rintro r M1 ⟨v, rfl, hv, hz⟩
    have hv1 := hv.1
    have hv2 := hv.2
    show S 1021 _ [Sum.inl v] _ M1
    refine wpx_ok hS bk163c18 (sp := sp163c18) 60 1021 _ _ _ _ ?_
    simp only [LCM, B2, Bool.not_eq_false, Bool.not_eq_true, decide_eq_true_eq, decide_eq_false_iff_not, Int.not_lt, Int.not_le, CST, TN, WX, WA, WB, GS, LOC, BT163c18, SP163c18, CLS, FLD, ARR, CD, true_and, and_true, and_self, forall_const, true_implies, false_implies, implies_true, not_true_eq_false, not_false_eq_true, if_true, if_false, rgI, rgL, scr, swl, lkl, cats, cat, is2, List.drop_succ_cons, List.drop_zero, List.drop_nil, List.cons_append, List.nil_append, Option.toList_some, Option.toList_none, List.length_cons, List.length_nil, ne_eq, Classical.not_not, reduceCtorEq, Nat.reduceAdd, Nat.reduceSub, Nat.reduceMul, Nat.reduceLT, Nat.reduceLeDiff, Nat.reduceEqDiff, Nat.reduceBEq, Int.reduceToNat, Int.reduceLE, Int.reduceLT, Int.reduceEq, Int.reduceNeg, Int.reduceAdd, Int.reduceSub, Int.reduceMul, Int.toNat_natCast, Nat.zero_add, Int.add_zero, Nat.add_zero, ite_true, ite_false, Option.some.injEq, Nat.le_refl, or_true, true_or, or_false, false_or, if_pos, reduceIte, Nat.reduceGT, Int.lt_irrefl, hx1, hx2, hL1, f1, g1, t1, f2, g2, t2, f3, g3, t3, f4, g4, t4, f5, g5, t5, hz0]
    refine ⟨rcv_ok rfl own149 rfl, kW hz (Nat.le_of_ble_eq_true rfl) rfl rfl (Nat.le_of_ble_eq_true rfl) (Nat.le_of_ble_eq_true rfl) rfl hc hs ?_⟩
    rintro r2 M2 ⟨rfl, hI2⟩
    show S 1063 _ [Sum.inl v, Sum.inl v] _ M2
    refine wpx_ok hS bk163c18 (sp := sp163c18) 60 1063 _ _ _ _ ?_
    simp only [LCM, B2, Bool.not_eq_false, Bool.not_eq_true, decide_eq_true_eq, decide_eq_false_iff_not, Int.not_lt, Int.not_le, CST, TN, WX, WA, WB, GS, LOC, BT163c18, SP163c18, CLS, FLD, ARR, CD, true_and, and_true, and_self, forall_const, true_implies, false_implies, implies_true, not_true_eq_false, not_false_eq_true, if_true, if_false, rgI, rgL, scr, swl, lkl, cats, cat, is2, List.drop_succ_cons, List.drop_zero, List.drop_nil, List.cons_append, List.nil_append, Option.toList_some, Option.toList_none, List.length_cons, List.length_nil, ne_eq, Classical.not_not, reduceCtorEq, Nat.reduceAdd, Nat.reduceSub, Nat.reduceMul, Nat.reduceLT, Nat.reduceLeDiff, Nat.reduceEqDiff, Nat.reduceBEq, Int.reduceToNat, Int.reduceLE, Int.reduceLT, Int.reduceEq, Int.reduceNeg, Int.reduceAdd, Int.reduceSub, Int.reduceMul, Int.toNat_natCast, Nat.zero_add, Int.add_zero, Nat.add_zero, ite_true, ite_false, Option.some.injEq, Nat.le_refl, or_true, true_or, or_false, false_or, if_pos, reduceIte, Nat.reduceGT, Int.lt_irrefl, hv1, hv2]
    exact nx M2 hI2
def bt163c19 (pc : Nat) : BL := if pc = 1068 then [(.aload 1, 0, 1), (.invokevirtual 63, 1, 3)] else if pc = 1072 then [(.aload 2, 0, 1), (.invokevirtual 150, 1, 3)] else if pc = 1076 then [(.if_icmp .eq 1341, 0, 3)] else if pc = 1079 then [(.iconst 0, 0, 1), (.ireturn, 0, 1)] else []
def sp163c19 (pc : Nat) : Bool := [1072, 1076, 1341].contains pc
theorem BT163c19 : bt163c19 1068 = [(.aload 1, 0, 1), (.invokevirtual 63, 1, 3)] ∧ bt163c19 1072 = [(.aload 2, 0, 1), (.invokevirtual 150, 1, 3)] ∧ bt163c19 1076 = [(.if_icmp .eq 1341, 0, 3)] ∧ bt163c19 1079 = [(.iconst 0, 0, 1), (.ireturn, 0, 1)] ∧ True := ⟨rfl, rfl, rfl, rfl, trivial⟩
theorem SP163c19 : sp163c19 1068 = false ∧ sp163c19 1072 = true ∧ sp163c19 1076 = true ∧ sp163c19 1079 = false ∧ sp163c19 1341 = true ∧ True := ⟨rfl, rfl, rfl, rfl, rfl, trivial⟩
set_option maxRecDepth 100000 in
theorem bk163c19 : ∀ pc, blk 163 pc (bt163c19 pc) = true := fun pc => blk_if (by decide +kernel) (blk_if (by decide +kernel) (blk_if (by decide +kernel) (blk_if (by decide +kernel) (rfl))))
theorem lc_19 {S : Nat → KK} {L c s : Nat} {xs : Nat → Int} (hS : Clo (Run 9) 163 (some (L, xs)) 600000 7302250 RtL S) (hxs : ∀ j, rgI (xs j)) (hL : L ≤ 3072) (hc : c ≤ 600000) (hs : s ≤ 7302250) (i : Nat) (hi : i + 6 ≤ L) (M : MM) (hI : INV M) (nx : ∀ M', INV M' → S 1341 [some (vR scr), some (vR 0), some (vR 55), some (vI i)] [] (sh0, c, s) M') : S 1068 [some (vR scr), some (vR 0), some (vR 55), some (vI i)] [] (sh0, c, s) M := by
  have hx1 : ∀ j, -2147483648 ≤ xs j := fun j => (hxs j).1
  have hx2 : ∀ j, xs j ≤ 2147483647 := fun j => (hxs j).2
  have hL1 : L ≤ 100000 := by omega
  have f1 : 0 ≤ (i : Int) + 1 := by omega
  have g1 : (i : Int) + 1 < L := by omega
  have t1 : ((i : Int) + 1).toNat = i + 1 := by omega
  have f2 : 0 ≤ (i : Int) + 2 := by omega
  have g2 : (i : Int) + 2 < L := by omega
  have t2 : ((i : Int) + 2).toNat = i + 2 := by omega
  have f3 : 0 ≤ (i : Int) + 3 := by omega
  have g3 : (i : Int) + 3 < L := by omega
  have t3 : ((i : Int) + 3).toNat = i + 3 := by omega
  have f4 : 0 ≤ (i : Int) + 4 := by omega
  have g4 : (i : Int) + 4 < L := by omega
  have t4 : ((i : Int) + 4).toNat = i + 4 := by omega
  have f5 : 0 ≤ (i : Int) + 5 := by omega
  have g5 : (i : Int) + 5 < L := by omega
  have t5 : ((i : Int) + 5).toNat = i + 5 := by omega
  refine wpx_ok hS bk163c19 (sp := sp163c19) 60 1068 _ _ _ _ ?_
  simp only [LCM, B2, Bool.not_eq_false, Bool.not_eq_true, decide_eq_true_eq, decide_eq_false_iff_not, Int.not_lt, Int.not_le, CST, TN, WX, WA, WB, GS, LOC, BT163c19, SP163c19, CLS, FLD, ARR, CD, true_and, and_true, and_self, forall_const, true_implies, false_implies, implies_true, not_true_eq_false, not_false_eq_true, if_true, if_false, rgI, rgL, scr, swl, lkl, cats, cat, is2, List.drop_succ_cons, List.drop_zero, List.drop_nil, List.cons_append, List.nil_append, Option.toList_some, Option.toList_none, List.length_cons, List.length_nil, ne_eq, Classical.not_not, reduceCtorEq, Nat.reduceAdd, Nat.reduceSub, Nat.reduceMul, Nat.reduceLT, Nat.reduceLeDiff, Nat.reduceEqDiff, Nat.reduceBEq, Int.reduceToNat, Int.reduceLE, Int.reduceLT, Int.reduceEq, Int.reduceNeg, Int.reduceAdd, Int.reduceSub, Int.reduceMul, Int.toNat_natCast, Nat.zero_add, Int.add_zero, Nat.add_zero, ite_true, ite_false, Option.some.injEq, Nat.le_refl, or_true, true_or, or_false, false_or, if_pos, reduceIte, Nat.reduceGT, Int.lt_irrefl, hx1, hx2, hL1, f1, g1, t1, f2, g2, t2, f3, g3, t3, f4, g4, t4, f5, g5, t5]
  refine ⟨rcv_ok rfl own63 rfl, kW (p_forget M hI) (Nat.le_of_ble_eq_true rfl) rfl rfl (Nat.le_of_ble_eq_true rfl) (Nat.le_of_ble_eq_true rfl) rfl hc hs ?_⟩
  rintro r M1 ⟨v, rfl, hv, hz⟩
  have hv1 := hv.1
  have hv2 := hv.2
  show S 1072 _ [Sum.inl v] _ M1
  refine wpx_ok hS bk163c19 (sp := sp163c19) 60 1072 _ _ _ _ ?_
  simp only [LCM, B2, Bool.not_eq_false, Bool.not_eq_true, decide_eq_true_eq, decide_eq_false_iff_not, Int.not_lt, Int.not_le, CST, TN, WX, WA, WB, GS, LOC, BT163c19, SP163c19, CLS, FLD, ARR, CD, true_and, and_true, and_self, forall_const, true_implies, false_implies, implies_true, not_true_eq_false, not_false_eq_true, if_true, if_false, rgI, rgL, scr, swl, lkl, cats, cat, is2, List.drop_succ_cons, List.drop_zero, List.drop_nil, List.cons_append, List.nil_append, Option.toList_some, Option.toList_none, List.length_cons, List.length_nil, ne_eq, Classical.not_not, reduceCtorEq, Nat.reduceAdd, Nat.reduceSub, Nat.reduceMul, Nat.reduceLT, Nat.reduceLeDiff, Nat.reduceEqDiff, Nat.reduceBEq, Int.reduceToNat, Int.reduceLE, Int.reduceLT, Int.reduceEq, Int.reduceNeg, Int.reduceAdd, Int.reduceSub, Int.reduceMul, Int.toNat_natCast, Nat.zero_add, Int.add_zero, Nat.add_zero, ite_true, ite_false, Option.some.injEq, Nat.le_refl, or_true, true_or, or_false, false_or, if_pos, reduceIte, Nat.reduceGT, Int.lt_irrefl, hx1, hx2, hL1, f1, g1, t1, f2, g2, t2, f3, g3, t3, f4, g4, t4, f5, g5, t5]
  refine ⟨rcv_ok rfl own150 rfl, kW hz (Nat.le_of_ble_eq_true rfl) rfl rfl (Nat.le_of_ble_eq_true rfl) (Nat.le_of_ble_eq_true rfl) rfl hc hs ?_⟩
  rintro r2 M2 ⟨rfl, hI2⟩
  show S 1076 _ [Sum.inl v, Sum.inl v] _ M2
  refine wpx_ok hS bk163c19 (sp := sp163c19) 60 1076 _ _ _ _ ?_
  simp only [LCM, B2, Bool.not_eq_false, Bool.not_eq_true, decide_eq_true_eq, decide_eq_false_iff_not, Int.not_lt, Int.not_le, CST, TN, WX, WA, WB, GS, LOC, BT163c19, SP163c19, CLS, FLD, ARR, CD, true_and, and_true, and_self, forall_const, true_implies, false_implies, implies_true, not_true_eq_false, not_false_eq_true, if_true, if_false, rgI, rgL, scr, swl, lkl, cats, cat, is2, List.drop_succ_cons, List.drop_zero, List.drop_nil, List.cons_append, List.nil_append, Option.toList_some, Option.toList_none, List.length_cons, List.length_nil, ne_eq, Classical.not_not, reduceCtorEq, Nat.reduceAdd, Nat.reduceSub, Nat.reduceMul, Nat.reduceLT, Nat.reduceLeDiff, Nat.reduceEqDiff, Nat.reduceBEq, Int.reduceToNat, Int.reduceLE, Int.reduceLT, Int.reduceEq, Int.reduceNeg, Int.reduceAdd, Int.reduceSub, Int.reduceMul, Int.toNat_natCast, Nat.zero_add, Int.add_zero, Nat.add_zero, ite_true, ite_false, Option.some.injEq, Nat.le_refl, or_true, true_or, or_false, false_or, if_pos, reduceIte, Nat.reduceGT, Int.lt_irrefl, hv1, hv2]
  exact nx M2 hI2
def bt163c20 (pc : Nat) : BL := if pc = 1081 then [(.aload 1, 0, 1), (.aload 0, 0, 1), (.iload 3, 0, 1), (.iconst 1, 0, 1), (.iadd, 0, 1), (.iaload, 0, 1), (.aload 0, 0, 1), (.iload 3, 0, 1), (.iconst 2, 0, 1), (.iadd, 0, 1), (.iaload, 0, 1), (.ifCond .eq 1099, 0, 3)] else if pc = 1095 then [(.iconst 1, 0, 1), (.goto 1100, 0, 3)] else if pc = 1099 then [(.iconst 0, 0, 1)] else if pc = 1100 then [(.invokevirtual 64, 3, 3)] else if pc = 1103 then [(.aload 2, 0, 1), (.aload 0, 0, 1), (.iload 3, 0, 1), (.iconst 1, 0, 1), (.iadd, 0, 1), (.iaload, 0, 1), (.aload 0, 0, 1), (.iload 3, 0, 1), (.iconst 2, 0, 1), (.iadd, 0, 1), (.iaload, 0, 1), (.ifCond .eq 1121, 0, 3)] else if pc = 1117 then [(.iconst 1, 0, 1), (.goto 1122, 0, 3)] else if pc = 1121 then [(.iconst 0, 0, 1)] else if pc = 1122 then [(.invokevirtual 151, 3, 3)] else if pc = 1125 then [(.if_icmp .eq 1341, 0, 3)] else if pc = 1128 then [(.iconst 0, 0, 1), (.ireturn, 0, 1)] else []
def sp163c20 (pc : Nat) : Bool := [1103, 1125, 1341].contains pc
theorem BT163c20 : bt163c20 1081 = [(.aload 1, 0, 1), (.aload 0, 0, 1), (.iload 3, 0, 1), (.iconst 1, 0, 1), (.iadd, 0, 1), (.iaload, 0, 1), (.aload 0, 0, 1), (.iload 3, 0, 1), (.iconst 2, 0, 1), (.iadd, 0, 1), (.iaload, 0, 1), (.ifCond .eq 1099, 0, 3)] ∧ bt163c20 1095 = [(.iconst 1, 0, 1), (.goto 1100, 0, 3)] ∧ bt163c20 1099 = [(.iconst 0, 0, 1)] ∧ bt163c20 1100 = [(.invokevirtual 64, 3, 3)] ∧ bt163c20 1103 = [(.aload 2, 0, 1), (.aload 0, 0, 1), (.iload 3, 0, 1), (.iconst 1, 0, 1), (.iadd, 0, 1), (.iaload, 0, 1), (.aload 0, 0, 1), (.iload 3, 0, 1), (.iconst 2, 0, 1), (.iadd, 0, 1), (.iaload, 0, 1), (.ifCond .eq 1121, 0, 3)] ∧ bt163c20 1117 = [(.iconst 1, 0, 1), (.goto 1122, 0, 3)] ∧ bt163c20 1121 = [(.iconst 0, 0, 1)] ∧ bt163c20 1122 = [(.invokevirtual 151, 3, 3)] ∧ bt163c20 1125 = [(.if_icmp .eq 1341, 0, 3)] ∧ bt163c20 1128 = [(.iconst 0, 0, 1), (.ireturn, 0, 1)] ∧ True := ⟨rfl, rfl, rfl, rfl, rfl, rfl, rfl, rfl, rfl, rfl, trivial⟩
theorem SP163c20 : sp163c20 1081 = false ∧ sp163c20 1095 = false ∧ sp163c20 1099 = false ∧ sp163c20 1100 = false ∧ sp163c20 1103 = true ∧ sp163c20 1117 = false ∧ sp163c20 1121 = false ∧ sp163c20 1122 = false ∧ sp163c20 1125 = true ∧ sp163c20 1128 = false ∧ sp163c20 1341 = true ∧ True := ⟨rfl, rfl, rfl, rfl, rfl, rfl, rfl, rfl, rfl, rfl, rfl, trivial⟩
set_option maxRecDepth 100000 in
theorem bk163c20 : ∀ pc, blk 163 pc (bt163c20 pc) = true := fun pc => blk_if (by decide +kernel) (blk_if (by decide +kernel) (blk_if (by decide +kernel) (blk_if (by decide +kernel) (blk_if (by decide +kernel) (blk_if (by decide +kernel) (blk_if (by decide +kernel) (blk_if (by decide +kernel) (blk_if (by decide +kernel) (blk_if (by decide +kernel) (rfl))))))))))
theorem lc_20 {S : Nat → KK} {L c s : Nat} {xs : Nat → Int} (hS : Clo (Run 9) 163 (some (L, xs)) 600000 7302250 RtL S) (hxs : ∀ j, rgI (xs j)) (hL : L ≤ 3072) (hc : c ≤ 600000) (hs : s ≤ 7302250) (i : Nat) (hi : i + 6 ≤ L) (M : MM) (hI : INV M) (nx : ∀ M', INV M' → S 1341 [some (vR scr), some (vR 0), some (vR 55), some (vI i)] [] (sh0, c, s) M') : S 1081 [some (vR scr), some (vR 0), some (vR 55), some (vI i)] [] (sh0, c, s) M := by
  have hx1 : ∀ j, -2147483648 ≤ xs j := fun j => (hxs j).1
  have hx2 : ∀ j, xs j ≤ 2147483647 := fun j => (hxs j).2
  have hL1 : L ≤ 100000 := by omega
  have f1 : 0 ≤ (i : Int) + 1 := by omega
  have g1 : (i : Int) + 1 < L := by omega
  have t1 : ((i : Int) + 1).toNat = i + 1 := by omega
  have f2 : 0 ≤ (i : Int) + 2 := by omega
  have g2 : (i : Int) + 2 < L := by omega
  have t2 : ((i : Int) + 2).toNat = i + 2 := by omega
  have f3 : 0 ≤ (i : Int) + 3 := by omega
  have g3 : (i : Int) + 3 < L := by omega
  have t3 : ((i : Int) + 3).toNat = i + 3 := by omega
  have f4 : 0 ≤ (i : Int) + 4 := by omega
  have g4 : (i : Int) + 4 < L := by omega
  have t4 : ((i : Int) + 4).toNat = i + 4 := by omega
  have f5 : 0 ≤ (i : Int) + 5 := by omega
  have g5 : (i : Int) + 5 < L := by omega
  have t5 : ((i : Int) + 5).toNat = i + 5 := by omega
  by_cases hz0 : xs (i + 2) = 0
  · refine wpx_ok hS bk163c20 (sp := sp163c20) 60 1081 _ _ _ _ ?_
    simp only [LCM, B2, Bool.not_eq_false, Bool.not_eq_true, decide_eq_true_eq, decide_eq_false_iff_not, Int.not_lt, Int.not_le, CST, TN, WX, WA, WB, GS, LOC, BT163c20, SP163c20, CLS, FLD, ARR, CD, true_and, and_true, and_self, forall_const, true_implies, false_implies, implies_true, not_true_eq_false, not_false_eq_true, if_true, if_false, rgI, rgL, scr, swl, lkl, cats, cat, is2, List.drop_succ_cons, List.drop_zero, List.drop_nil, List.cons_append, List.nil_append, Option.toList_some, Option.toList_none, List.length_cons, List.length_nil, ne_eq, Classical.not_not, reduceCtorEq, Nat.reduceAdd, Nat.reduceSub, Nat.reduceMul, Nat.reduceLT, Nat.reduceLeDiff, Nat.reduceEqDiff, Nat.reduceBEq, Int.reduceToNat, Int.reduceLE, Int.reduceLT, Int.reduceEq, Int.reduceNeg, Int.reduceAdd, Int.reduceSub, Int.reduceMul, Int.toNat_natCast, Nat.zero_add, Int.add_zero, Nat.add_zero, ite_true, ite_false, Option.some.injEq, Nat.le_refl, or_true, true_or, or_false, false_or, if_pos, reduceIte, Nat.reduceGT, Int.lt_irrefl, hx1, hx2, hL1, f1, g1, t1, f2, g2, t2, f3, g3, t3, f4, g4, t4, f5, g5, t5, hz0]
    refine ⟨rcv_ok rfl own64 rfl, kW (p_fits (xs (i + 1)) false (hxs _) M hI) (Nat.le_of_ble_eq_true rfl) rfl rfl (Nat.le_of_ble_eq_true rfl) (Nat.le_of_ble_eq_true rfl) rfl hc hs ?_⟩
    rintro r M1 ⟨v, rfl, hv, hz⟩
    have hv1 := hv.1
    have hv2 := hv.2
    show S 1103 _ [Sum.inl v] _ M1
    refine wpx_ok hS bk163c20 (sp := sp163c20) 60 1103 _ _ _ _ ?_
    simp only [LCM, B2, Bool.not_eq_false, Bool.not_eq_true, decide_eq_true_eq, decide_eq_false_iff_not, Int.not_lt, Int.not_le, CST, TN, WX, WA, WB, GS, LOC, BT163c20, SP163c20, CLS, FLD, ARR, CD, true_and, and_true, and_self, forall_const, true_implies, false_implies, implies_true, not_true_eq_false, not_false_eq_true, if_true, if_false, rgI, rgL, scr, swl, lkl, cats, cat, is2, List.drop_succ_cons, List.drop_zero, List.drop_nil, List.cons_append, List.nil_append, Option.toList_some, Option.toList_none, List.length_cons, List.length_nil, ne_eq, Classical.not_not, reduceCtorEq, Nat.reduceAdd, Nat.reduceSub, Nat.reduceMul, Nat.reduceLT, Nat.reduceLeDiff, Nat.reduceEqDiff, Nat.reduceBEq, Int.reduceToNat, Int.reduceLE, Int.reduceLT, Int.reduceEq, Int.reduceNeg, Int.reduceAdd, Int.reduceSub, Int.reduceMul, Int.toNat_natCast, Nat.zero_add, Int.add_zero, Nat.add_zero, ite_true, ite_false, Option.some.injEq, Nat.le_refl, or_true, true_or, or_false, false_or, if_pos, reduceIte, Nat.reduceGT, Int.lt_irrefl, hx1, hx2, hL1, f1, g1, t1, f2, g2, t2, f3, g3, t3, f4, g4, t4, f5, g5, t5, hz0]
    refine ⟨rcv_ok rfl own151 rfl, kW hz (Nat.le_of_ble_eq_true rfl) rfl rfl (Nat.le_of_ble_eq_true rfl) (Nat.le_of_ble_eq_true rfl) rfl hc hs ?_⟩
    rintro r2 M2 ⟨rfl, hI2⟩
    show S 1125 _ [Sum.inl v, Sum.inl v] _ M2
    refine wpx_ok hS bk163c20 (sp := sp163c20) 60 1125 _ _ _ _ ?_
    simp only [LCM, B2, Bool.not_eq_false, Bool.not_eq_true, decide_eq_true_eq, decide_eq_false_iff_not, Int.not_lt, Int.not_le, CST, TN, WX, WA, WB, GS, LOC, BT163c20, SP163c20, CLS, FLD, ARR, CD, true_and, and_true, and_self, forall_const, true_implies, false_implies, implies_true, not_true_eq_false, not_false_eq_true, if_true, if_false, rgI, rgL, scr, swl, lkl, cats, cat, is2, List.drop_succ_cons, List.drop_zero, List.drop_nil, List.cons_append, List.nil_append, Option.toList_some, Option.toList_none, List.length_cons, List.length_nil, ne_eq, Classical.not_not, reduceCtorEq, Nat.reduceAdd, Nat.reduceSub, Nat.reduceMul, Nat.reduceLT, Nat.reduceLeDiff, Nat.reduceEqDiff, Nat.reduceBEq, Int.reduceToNat, Int.reduceLE, Int.reduceLT, Int.reduceEq, Int.reduceNeg, Int.reduceAdd, Int.reduceSub, Int.reduceMul, Int.toNat_natCast, Nat.zero_add, Int.add_zero, Nat.add_zero, ite_true, ite_false, Option.some.injEq, Nat.le_refl, or_true, true_or, or_false, false_or, if_pos, reduceIte, Nat.reduceGT, Int.lt_irrefl, hv1, hv2]
    exact nx M2 hI2
  · refine wpx_ok hS bk163c20 (sp := sp163c20) 60 1081 _ _ _ _ ?_
    simp only [LCM, B2, Bool.not_eq_false, Bool.not_eq_true, decide_eq_true_eq, decide_eq_false_iff_not, Int.not_lt, Int.not_le, CST, TN, WX, WA, WB, GS, LOC, BT163c20, SP163c20, CLS, FLD, ARR, CD, true_and, and_true, and_self, forall_const, true_implies, false_implies, implies_true, not_true_eq_false, not_false_eq_true, if_true, if_false, rgI, rgL, scr, swl, lkl, cats, cat, is2, List.drop_succ_cons, List.drop_zero, List.drop_nil, List.cons_append, List.nil_append, Option.toList_some, Option.toList_none, List.length_cons, List.length_nil, ne_eq, Classical.not_not, reduceCtorEq, Nat.reduceAdd, Nat.reduceSub, Nat.reduceMul, Nat.reduceLT, Nat.reduceLeDiff, Nat.reduceEqDiff, Nat.reduceBEq, Int.reduceToNat, Int.reduceLE, Int.reduceLT, Int.reduceEq, Int.reduceNeg, Int.reduceAdd, Int.reduceSub, Int.reduceMul, Int.toNat_natCast, Nat.zero_add, Int.add_zero, Nat.add_zero, ite_true, ite_false, Option.some.injEq, Nat.le_refl, or_true, true_or, or_false, false_or, if_pos, reduceIte, Nat.reduceGT, Int.lt_irrefl, hx1, hx2, hL1, f1, g1, t1, f2, g2, t2, f3, g3, t3, f4, g4, t4, f5, g5, t5, hz0]
    refine ⟨rcv_ok rfl own64 rfl, kW (p_fits (xs (i + 1)) true (hxs _) M hI) (Nat.le_of_ble_eq_true rfl) rfl rfl (Nat.le_of_ble_eq_true rfl) (Nat.le_of_ble_eq_true rfl) rfl hc hs ?_⟩
    rintro r M1 ⟨v, rfl, hv, hz⟩
    have hv1 := hv.1
    have hv2 := hv.2
    show S 1103 _ [Sum.inl v] _ M1
    refine wpx_ok hS bk163c20 (sp := sp163c20) 60 1103 _ _ _ _ ?_
    simp only [LCM, B2, Bool.not_eq_false, Bool.not_eq_true, decide_eq_true_eq, decide_eq_false_iff_not, Int.not_lt, Int.not_le, CST, TN, WX, WA, WB, GS, LOC, BT163c20, SP163c20, CLS, FLD, ARR, CD, true_and, and_true, and_self, forall_const, true_implies, false_implies, implies_true, not_true_eq_false, not_false_eq_true, if_true, if_false, rgI, rgL, scr, swl, lkl, cats, cat, is2, List.drop_succ_cons, List.drop_zero, List.drop_nil, List.cons_append, List.nil_append, Option.toList_some, Option.toList_none, List.length_cons, List.length_nil, ne_eq, Classical.not_not, reduceCtorEq, Nat.reduceAdd, Nat.reduceSub, Nat.reduceMul, Nat.reduceLT, Nat.reduceLeDiff, Nat.reduceEqDiff, Nat.reduceBEq, Int.reduceToNat, Int.reduceLE, Int.reduceLT, Int.reduceEq, Int.reduceNeg, Int.reduceAdd, Int.reduceSub, Int.reduceMul, Int.toNat_natCast, Nat.zero_add, Int.add_zero, Nat.add_zero, ite_true, ite_false, Option.some.injEq, Nat.le_refl, or_true, true_or, or_false, false_or, if_pos, reduceIte, Nat.reduceGT, Int.lt_irrefl, hx1, hx2, hL1, f1, g1, t1, f2, g2, t2, f3, g3, t3, f4, g4, t4, f5, g5, t5, hz0]
    refine ⟨rcv_ok rfl own151 rfl, kW hz (Nat.le_of_ble_eq_true rfl) rfl rfl (Nat.le_of_ble_eq_true rfl) (Nat.le_of_ble_eq_true rfl) rfl hc hs ?_⟩
    rintro r2 M2 ⟨rfl, hI2⟩
    show S 1125 _ [Sum.inl v, Sum.inl v] _ M2
    refine wpx_ok hS bk163c20 (sp := sp163c20) 60 1125 _ _ _ _ ?_
    simp only [LCM, B2, Bool.not_eq_false, Bool.not_eq_true, decide_eq_true_eq, decide_eq_false_iff_not, Int.not_lt, Int.not_le, CST, TN, WX, WA, WB, GS, LOC, BT163c20, SP163c20, CLS, FLD, ARR, CD, true_and, and_true, and_self, forall_const, true_implies, false_implies, implies_true, not_true_eq_false, not_false_eq_true, if_true, if_false, rgI, rgL, scr, swl, lkl, cats, cat, is2, List.drop_succ_cons, List.drop_zero, List.drop_nil, List.cons_append, List.nil_append, Option.toList_some, Option.toList_none, List.length_cons, List.length_nil, ne_eq, Classical.not_not, reduceCtorEq, Nat.reduceAdd, Nat.reduceSub, Nat.reduceMul, Nat.reduceLT, Nat.reduceLeDiff, Nat.reduceEqDiff, Nat.reduceBEq, Int.reduceToNat, Int.reduceLE, Int.reduceLT, Int.reduceEq, Int.reduceNeg, Int.reduceAdd, Int.reduceSub, Int.reduceMul, Int.toNat_natCast, Nat.zero_add, Int.add_zero, Nat.add_zero, ite_true, ite_false, Option.some.injEq, Nat.le_refl, or_true, true_or, or_false, false_or, if_pos, reduceIte, Nat.reduceGT, Int.lt_irrefl, hv1, hv2]
    exact nx M2 hI2
def bt163c21 (pc : Nat) : BL := if pc = 1130 then [(.aload 1, 0, 1), (.aload 0, 0, 1), (.iload 3, 0, 1), (.iconst 1, 0, 1), (.iadd, 0, 1), (.iaload, 0, 1), (.aload 0, 0, 1), (.iload 3, 0, 1), (.iconst 2, 0, 1), (.iadd, 0, 1), (.iaload, 0, 1), (.aload 0, 0, 1), (.iload 3, 0, 1), (.iconst 3, 0, 1), (.iadd, 0, 1), (.iaload, 0, 1), (.i2l, 0, 1), (.iconst 32, 0, 2), (.lshl, 0, 1), (.aload 0, 0, 1), (.iload 3, 0, 1), (.iconst 4, 0, 1), (.iadd, 0, 1), (.iaload, 0, 1), (.i2l, 0, 1), (.ldc2_w 0, 4294967295, 3), (.land, 0, 1), (.lor, 0, 1), (.aload 0, 0, 1), (.iload 3, 0, 1), (.iconst 5, 0, 1), (.iadd, 0, 1), (.iaload, 0, 1), (.invokevirtual 65, 5, 3)] else if pc = 1169 then [(.aload 2, 0, 1), (.aload 0, 0, 1), (.iload 3, 0, 1), (.iconst 1, 0, 1), (.iadd, 0, 1), (.iaload, 0, 1), (.aload 0, 0, 1), (.iload 3, 0, 1), (.iconst 2, 0, 1), (.iadd, 0, 1), (.iaload, 0, 1), (.aload 0, 0, 1), (.iload 3, 0, 1), (.iconst 3, 0, 1), (.iadd, 0, 1), (.iaload, 0, 1), (.i2l, 0, 1), (.iconst 32, 0, 2), (.lshl, 0, 1), (.aload 0, 0, 1), (.iload 3, 0, 1), (.iconst 4, 0, 1), (.iadd, 0, 1), (.iaload, 0, 1), (.i2l, 0, 1), (.ldc2_w 0, 4294967295, 3), (.land, 0, 1), (.lor, 0, 1), (.aload 0, 0, 1), (.iload 3, 0, 1), (.iconst 5, 0, 1), (.iadd, 0, 1), (.iaload, 0, 1), (.invokevirtual 153, 5, 3)] else if pc = 1208 then [(.if_icmp .eq 1341, 0, 3)] else if pc = 1211 then [(.iconst 0, 0, 1), (.ireturn, 0, 1)] else []
def sp163c21 (pc : Nat) : Bool := [1169, 1208, 1341].contains pc
theorem BT163c21 : bt163c21 1130 = [(.aload 1, 0, 1), (.aload 0, 0, 1), (.iload 3, 0, 1), (.iconst 1, 0, 1), (.iadd, 0, 1), (.iaload, 0, 1), (.aload 0, 0, 1), (.iload 3, 0, 1), (.iconst 2, 0, 1), (.iadd, 0, 1), (.iaload, 0, 1), (.aload 0, 0, 1), (.iload 3, 0, 1), (.iconst 3, 0, 1), (.iadd, 0, 1), (.iaload, 0, 1), (.i2l, 0, 1), (.iconst 32, 0, 2), (.lshl, 0, 1), (.aload 0, 0, 1), (.iload 3, 0, 1), (.iconst 4, 0, 1), (.iadd, 0, 1), (.iaload, 0, 1), (.i2l, 0, 1), (.ldc2_w 0, 4294967295, 3), (.land, 0, 1), (.lor, 0, 1), (.aload 0, 0, 1), (.iload 3, 0, 1), (.iconst 5, 0, 1), (.iadd, 0, 1), (.iaload, 0, 1), (.invokevirtual 65, 5, 3)] ∧ bt163c21 1169 = [(.aload 2, 0, 1), (.aload 0, 0, 1), (.iload 3, 0, 1), (.iconst 1, 0, 1), (.iadd, 0, 1), (.iaload, 0, 1), (.aload 0, 0, 1), (.iload 3, 0, 1), (.iconst 2, 0, 1), (.iadd, 0, 1), (.iaload, 0, 1), (.aload 0, 0, 1), (.iload 3, 0, 1), (.iconst 3, 0, 1), (.iadd, 0, 1), (.iaload, 0, 1), (.i2l, 0, 1), (.iconst 32, 0, 2), (.lshl, 0, 1), (.aload 0, 0, 1), (.iload 3, 0, 1), (.iconst 4, 0, 1), (.iadd, 0, 1), (.iaload, 0, 1), (.i2l, 0, 1), (.ldc2_w 0, 4294967295, 3), (.land, 0, 1), (.lor, 0, 1), (.aload 0, 0, 1), (.iload 3, 0, 1), (.iconst 5, 0, 1), (.iadd, 0, 1), (.iaload, 0, 1), (.invokevirtual 153, 5, 3)] ∧ bt163c21 1208 = [(.if_icmp .eq 1341, 0, 3)] ∧ bt163c21 1211 = [(.iconst 0, 0, 1), (.ireturn, 0, 1)] ∧ True := ⟨rfl, rfl, rfl, rfl, trivial⟩
theorem SP163c21 : sp163c21 1130 = false ∧ sp163c21 1169 = true ∧ sp163c21 1208 = true ∧ sp163c21 1211 = false ∧ sp163c21 1341 = true ∧ True := ⟨rfl, rfl, rfl, rfl, rfl, trivial⟩
set_option maxRecDepth 100000 in
theorem bk163c21 : ∀ pc, blk 163 pc (bt163c21 pc) = true := fun pc => blk_if (by decide +kernel) (blk_if (by decide +kernel) (blk_if (by decide +kernel) (blk_if (by decide +kernel) (rfl))))
theorem lc_21 {S : Nat → KK} {L c s : Nat} {xs : Nat → Int} (hS : Clo (Run 9) 163 (some (L, xs)) 600000 7302250 RtL S) (hxs : ∀ j, rgI (xs j)) (hL : L ≤ 3072) (hc : c ≤ 600000) (hs : s ≤ 7302250) (i : Nat) (hi : i + 6 ≤ L) (M : MM) (hI : INV M) (nx : ∀ M', INV M' → S 1341 [some (vR scr), some (vR 0), some (vR 55), some (vI i)] [] (sh0, c, s) M') : S 1130 [some (vR scr), some (vR 0), some (vR 55), some (vI i)] [] (sh0, c, s) M := by
  have hx1 : ∀ j, -2147483648 ≤ xs j := fun j => (hxs j).1
  have hx2 : ∀ j, xs j ≤ 2147483647 := fun j => (hxs j).2
  have hL1 : L ≤ 100000 := by omega
  have f1 : 0 ≤ (i : Int) + 1 := by omega
  have g1 : (i : Int) + 1 < L := by omega
  have t1 : ((i : Int) + 1).toNat = i + 1 := by omega
  have f2 : 0 ≤ (i : Int) + 2 := by omega
  have g2 : (i : Int) + 2 < L := by omega
  have t2 : ((i : Int) + 2).toNat = i + 2 := by omega
  have f3 : 0 ≤ (i : Int) + 3 := by omega
  have g3 : (i : Int) + 3 < L := by omega
  have t3 : ((i : Int) + 3).toNat = i + 3 := by omega
  have f4 : 0 ≤ (i : Int) + 4 := by omega
  have g4 : (i : Int) + 4 < L := by omega
  have t4 : ((i : Int) + 4).toNat = i + 4 := by omega
  have f5 : 0 ≤ (i : Int) + 5 := by omega
  have g5 : (i : Int) + 5 < L := by omega
  have t5 : ((i : Int) + 5).toNat = i + 5 := by omega
  refine wpx_ok hS bk163c21 (sp := sp163c21) 60 1130 _ _ _ _ ?_
  simp only [LCM, B2, Bool.not_eq_false, Bool.not_eq_true, decide_eq_true_eq, decide_eq_false_iff_not, Int.not_lt, Int.not_le, CST, TN, WX, WA, WB, GS, LOC, BT163c21, SP163c21, CLS, FLD, ARR, CD, true_and, and_true, and_self, forall_const, true_implies, false_implies, implies_true, not_true_eq_false, not_false_eq_true, if_true, if_false, rgI, rgL, scr, swl, lkl, cats, cat, is2, List.drop_succ_cons, List.drop_zero, List.drop_nil, List.cons_append, List.nil_append, Option.toList_some, Option.toList_none, List.length_cons, List.length_nil, ne_eq, Classical.not_not, reduceCtorEq, Nat.reduceAdd, Nat.reduceSub, Nat.reduceMul, Nat.reduceLT, Nat.reduceLeDiff, Nat.reduceEqDiff, Nat.reduceBEq, Int.reduceToNat, Int.reduceLE, Int.reduceLT, Int.reduceEq, Int.reduceNeg, Int.reduceAdd, Int.reduceSub, Int.reduceMul, Int.toNat_natCast, Nat.zero_add, Int.add_zero, Nat.add_zero, ite_true, ite_false, Option.some.injEq, Nat.le_refl, or_true, true_or, or_false, false_or, if_pos, reduceIte, Nat.reduceGT, Int.lt_irrefl, hx1, hx2, hL1, f1, g1, t1, f2, g2, t2, f3, g3, t3, f4, g4, t4, f5, g5, t5]
  refine ⟨rcv_ok rfl own65 rfl, kW (p_fire (xs (i + 1)) (xs (i + 2)) (lOr (lShl (xs (i + 3)) 32) (lAnd (xs (i + 4)) 4294967295)) (xs (i + 5)) (hxs _) (hxs _) (lOr_rg _ _) (hxs _) M hI) (Nat.le_of_ble_eq_true rfl) rfl rfl (Nat.le_of_ble_eq_true rfl) (Nat.le_of_ble_eq_true rfl) rfl hc hs ?_⟩
  rintro r M1 ⟨v, rfl, hv, hz⟩
  have hv1 := hv.1
  have hv2 := hv.2
  show S 1169 _ [Sum.inl v] _ M1
  refine wpx_ok hS bk163c21 (sp := sp163c21) 60 1169 _ _ _ _ ?_
  simp only [LCM, B2, Bool.not_eq_false, Bool.not_eq_true, decide_eq_true_eq, decide_eq_false_iff_not, Int.not_lt, Int.not_le, CST, TN, WX, WA, WB, GS, LOC, BT163c21, SP163c21, CLS, FLD, ARR, CD, true_and, and_true, and_self, forall_const, true_implies, false_implies, implies_true, not_true_eq_false, not_false_eq_true, if_true, if_false, rgI, rgL, scr, swl, lkl, cats, cat, is2, List.drop_succ_cons, List.drop_zero, List.drop_nil, List.cons_append, List.nil_append, Option.toList_some, Option.toList_none, List.length_cons, List.length_nil, ne_eq, Classical.not_not, reduceCtorEq, Nat.reduceAdd, Nat.reduceSub, Nat.reduceMul, Nat.reduceLT, Nat.reduceLeDiff, Nat.reduceEqDiff, Nat.reduceBEq, Int.reduceToNat, Int.reduceLE, Int.reduceLT, Int.reduceEq, Int.reduceNeg, Int.reduceAdd, Int.reduceSub, Int.reduceMul, Int.toNat_natCast, Nat.zero_add, Int.add_zero, Nat.add_zero, ite_true, ite_false, Option.some.injEq, Nat.le_refl, or_true, true_or, or_false, false_or, if_pos, reduceIte, Nat.reduceGT, Int.lt_irrefl, hx1, hx2, hL1, f1, g1, t1, f2, g2, t2, f3, g3, t3, f4, g4, t4, f5, g5, t5]
  refine ⟨rcv_ok rfl own153 rfl, kW hz (Nat.le_of_ble_eq_true rfl) rfl rfl (Nat.le_of_ble_eq_true rfl) (Nat.le_of_ble_eq_true rfl) rfl hc hs ?_⟩
  rintro r2 M2 ⟨rfl, hI2⟩
  show S 1208 _ [Sum.inl v, Sum.inl v] _ M2
  refine wpx_ok hS bk163c21 (sp := sp163c21) 60 1208 _ _ _ _ ?_
  simp only [LCM, B2, Bool.not_eq_false, Bool.not_eq_true, decide_eq_true_eq, decide_eq_false_iff_not, Int.not_lt, Int.not_le, CST, TN, WX, WA, WB, GS, LOC, BT163c21, SP163c21, CLS, FLD, ARR, CD, true_and, and_true, and_self, forall_const, true_implies, false_implies, implies_true, not_true_eq_false, not_false_eq_true, if_true, if_false, rgI, rgL, scr, swl, lkl, cats, cat, is2, List.drop_succ_cons, List.drop_zero, List.drop_nil, List.cons_append, List.nil_append, Option.toList_some, Option.toList_none, List.length_cons, List.length_nil, ne_eq, Classical.not_not, reduceCtorEq, Nat.reduceAdd, Nat.reduceSub, Nat.reduceMul, Nat.reduceLT, Nat.reduceLeDiff, Nat.reduceEqDiff, Nat.reduceBEq, Int.reduceToNat, Int.reduceLE, Int.reduceLT, Int.reduceEq, Int.reduceNeg, Int.reduceAdd, Int.reduceSub, Int.reduceMul, Int.toNat_natCast, Nat.zero_add, Int.add_zero, Nat.add_zero, ite_true, ite_false, Option.some.injEq, Nat.le_refl, or_true, true_or, or_false, false_or, if_pos, reduceIte, Nat.reduceGT, Int.lt_irrefl, hv1, hv2]
  exact nx M2 hI2
def bt163c22 (pc : Nat) : BL := if pc = 1213 then [(.aload 1, 0, 1), (.aload 0, 0, 1), (.iload 3, 0, 1), (.iconst 1, 0, 1), (.iadd, 0, 1), (.iaload, 0, 1), (.aload 0, 0, 1), (.iload 3, 0, 1), (.iconst 2, 0, 1), (.iadd, 0, 1), (.iaload, 0, 1), (.invokevirtual 66, 3, 3)] else if pc = 1227 then [(.aload 2, 0, 1), (.aload 0, 0, 1), (.iload 3, 0, 1), (.iconst 1, 0, 1), (.iadd, 0, 1), (.iaload, 0, 1), (.aload 0, 0, 1), (.iload 3, 0, 1), (.iconst 2, 0, 1), (.iadd, 0, 1), (.iaload, 0, 1), (.invokevirtual 154, 3, 3)] else if pc = 1241 then [(.if_icmp .eq 1341, 0, 3)] else if pc = 1244 then [(.iconst 0, 0, 1), (.ireturn, 0, 1)] else []
def sp163c22 (pc : Nat) : Bool := [1227, 1241, 1341].contains pc
theorem BT163c22 : bt163c22 1213 = [(.aload 1, 0, 1), (.aload 0, 0, 1), (.iload 3, 0, 1), (.iconst 1, 0, 1), (.iadd, 0, 1), (.iaload, 0, 1), (.aload 0, 0, 1), (.iload 3, 0, 1), (.iconst 2, 0, 1), (.iadd, 0, 1), (.iaload, 0, 1), (.invokevirtual 66, 3, 3)] ∧ bt163c22 1227 = [(.aload 2, 0, 1), (.aload 0, 0, 1), (.iload 3, 0, 1), (.iconst 1, 0, 1), (.iadd, 0, 1), (.iaload, 0, 1), (.aload 0, 0, 1), (.iload 3, 0, 1), (.iconst 2, 0, 1), (.iadd, 0, 1), (.iaload, 0, 1), (.invokevirtual 154, 3, 3)] ∧ bt163c22 1241 = [(.if_icmp .eq 1341, 0, 3)] ∧ bt163c22 1244 = [(.iconst 0, 0, 1), (.ireturn, 0, 1)] ∧ True := ⟨rfl, rfl, rfl, rfl, trivial⟩
theorem SP163c22 : sp163c22 1213 = false ∧ sp163c22 1227 = true ∧ sp163c22 1241 = true ∧ sp163c22 1244 = false ∧ sp163c22 1341 = true ∧ True := ⟨rfl, rfl, rfl, rfl, rfl, trivial⟩
set_option maxRecDepth 100000 in
theorem bk163c22 : ∀ pc, blk 163 pc (bt163c22 pc) = true := fun pc => blk_if (by decide +kernel) (blk_if (by decide +kernel) (blk_if (by decide +kernel) (blk_if (by decide +kernel) (rfl))))
theorem lc_22 {S : Nat → KK} {L c s : Nat} {xs : Nat → Int} (hS : Clo (Run 9) 163 (some (L, xs)) 600000 7302250 RtL S) (hxs : ∀ j, rgI (xs j)) (hL : L ≤ 3072) (hc : c ≤ 600000) (hs : s ≤ 7302250) (i : Nat) (hi : i + 6 ≤ L) (M : MM) (hI : INV M) (nx : ∀ M', INV M' → S 1341 [some (vR scr), some (vR 0), some (vR 55), some (vI i)] [] (sh0, c, s) M') : S 1213 [some (vR scr), some (vR 0), some (vR 55), some (vI i)] [] (sh0, c, s) M := by
  have hx1 : ∀ j, -2147483648 ≤ xs j := fun j => (hxs j).1
  have hx2 : ∀ j, xs j ≤ 2147483647 := fun j => (hxs j).2
  have hL1 : L ≤ 100000 := by omega
  have f1 : 0 ≤ (i : Int) + 1 := by omega
  have g1 : (i : Int) + 1 < L := by omega
  have t1 : ((i : Int) + 1).toNat = i + 1 := by omega
  have f2 : 0 ≤ (i : Int) + 2 := by omega
  have g2 : (i : Int) + 2 < L := by omega
  have t2 : ((i : Int) + 2).toNat = i + 2 := by omega
  have f3 : 0 ≤ (i : Int) + 3 := by omega
  have g3 : (i : Int) + 3 < L := by omega
  have t3 : ((i : Int) + 3).toNat = i + 3 := by omega
  have f4 : 0 ≤ (i : Int) + 4 := by omega
  have g4 : (i : Int) + 4 < L := by omega
  have t4 : ((i : Int) + 4).toNat = i + 4 := by omega
  have f5 : 0 ≤ (i : Int) + 5 := by omega
  have g5 : (i : Int) + 5 < L := by omega
  have t5 : ((i : Int) + 5).toNat = i + 5 := by omega
  refine wpx_ok hS bk163c22 (sp := sp163c22) 60 1213 _ _ _ _ ?_
  simp only [LCM, B2, Bool.not_eq_false, Bool.not_eq_true, decide_eq_true_eq, decide_eq_false_iff_not, Int.not_lt, Int.not_le, CST, TN, WX, WA, WB, GS, LOC, BT163c22, SP163c22, CLS, FLD, ARR, CD, true_and, and_true, and_self, forall_const, true_implies, false_implies, implies_true, not_true_eq_false, not_false_eq_true, if_true, if_false, rgI, rgL, scr, swl, lkl, cats, cat, is2, List.drop_succ_cons, List.drop_zero, List.drop_nil, List.cons_append, List.nil_append, Option.toList_some, Option.toList_none, List.length_cons, List.length_nil, ne_eq, Classical.not_not, reduceCtorEq, Nat.reduceAdd, Nat.reduceSub, Nat.reduceMul, Nat.reduceLT, Nat.reduceLeDiff, Nat.reduceEqDiff, Nat.reduceBEq, Int.reduceToNat, Int.reduceLE, Int.reduceLT, Int.reduceEq, Int.reduceNeg, Int.reduceAdd, Int.reduceSub, Int.reduceMul, Int.toNat_natCast, Nat.zero_add, Int.add_zero, Nat.add_zero, ite_true, ite_false, Option.some.injEq, Nat.le_refl, or_true, true_or, or_false, false_or, if_pos, reduceIte, Nat.reduceGT, Int.lt_irrefl, hx1, hx2, hL1, f1, g1, t1, f2, g2, t2, f3, g3, t3, f4, g4, t4, f5, g5, t5]
  refine ⟨rcv_ok rfl own66 rfl, kW (p_change (xs (i + 1)) (xs (i + 2)) (hxs _) (hxs _) M hI) (Nat.le_of_ble_eq_true rfl) rfl rfl (Nat.le_of_ble_eq_true rfl) (Nat.le_of_ble_eq_true rfl) rfl hc hs ?_⟩
  rintro r M1 ⟨v, rfl, hv, hz⟩
  have hv1 := hv.1
  have hv2 := hv.2
  show S 1227 _ [Sum.inl v] _ M1
  refine wpx_ok hS bk163c22 (sp := sp163c22) 60 1227 _ _ _ _ ?_
  simp only [LCM, B2, Bool.not_eq_false, Bool.not_eq_true, decide_eq_true_eq, decide_eq_false_iff_not, Int.not_lt, Int.not_le, CST, TN, WX, WA, WB, GS, LOC, BT163c22, SP163c22, CLS, FLD, ARR, CD, true_and, and_true, and_self, forall_const, true_implies, false_implies, implies_true, not_true_eq_false, not_false_eq_true, if_true, if_false, rgI, rgL, scr, swl, lkl, cats, cat, is2, List.drop_succ_cons, List.drop_zero, List.drop_nil, List.cons_append, List.nil_append, Option.toList_some, Option.toList_none, List.length_cons, List.length_nil, ne_eq, Classical.not_not, reduceCtorEq, Nat.reduceAdd, Nat.reduceSub, Nat.reduceMul, Nat.reduceLT, Nat.reduceLeDiff, Nat.reduceEqDiff, Nat.reduceBEq, Int.reduceToNat, Int.reduceLE, Int.reduceLT, Int.reduceEq, Int.reduceNeg, Int.reduceAdd, Int.reduceSub, Int.reduceMul, Int.toNat_natCast, Nat.zero_add, Int.add_zero, Nat.add_zero, ite_true, ite_false, Option.some.injEq, Nat.le_refl, or_true, true_or, or_false, false_or, if_pos, reduceIte, Nat.reduceGT, Int.lt_irrefl, hx1, hx2, hL1, f1, g1, t1, f2, g2, t2, f3, g3, t3, f4, g4, t4, f5, g5, t5]
  refine ⟨rcv_ok rfl own154 rfl, kW hz (Nat.le_of_ble_eq_true rfl) rfl rfl (Nat.le_of_ble_eq_true rfl) (Nat.le_of_ble_eq_true rfl) rfl hc hs ?_⟩
  rintro r2 M2 ⟨rfl, hI2⟩
  show S 1241 _ [Sum.inl v, Sum.inl v] _ M2
  refine wpx_ok hS bk163c22 (sp := sp163c22) 60 1241 _ _ _ _ ?_
  simp only [LCM, B2, Bool.not_eq_false, Bool.not_eq_true, decide_eq_true_eq, decide_eq_false_iff_not, Int.not_lt, Int.not_le, CST, TN, WX, WA, WB, GS, LOC, BT163c22, SP163c22, CLS, FLD, ARR, CD, true_and, and_true, and_self, forall_const, true_implies, false_implies, implies_true, not_true_eq_false, not_false_eq_true, if_true, if_false, rgI, rgL, scr, swl, lkl, cats, cat, is2, List.drop_succ_cons, List.drop_zero, List.drop_nil, List.cons_append, List.nil_append, Option.toList_some, Option.toList_none, List.length_cons, List.length_nil, ne_eq, Classical.not_not, reduceCtorEq, Nat.reduceAdd, Nat.reduceSub, Nat.reduceMul, Nat.reduceLT, Nat.reduceLeDiff, Nat.reduceEqDiff, Nat.reduceBEq, Int.reduceToNat, Int.reduceLE, Int.reduceLT, Int.reduceEq, Int.reduceNeg, Int.reduceAdd, Int.reduceSub, Int.reduceMul, Int.toNat_natCast, Nat.zero_add, Int.add_zero, Nat.add_zero, ite_true, ite_false, Option.some.injEq, Nat.le_refl, or_true, true_or, or_false, false_or, if_pos, reduceIte, Nat.reduceGT, Int.lt_irrefl, hv1, hv2]
  exact nx M2 hI2
def bt163c23 (pc : Nat) : BL := if pc = 1246 then [(.aload 1, 0, 1), (.aload 0, 0, 1), (.iload 3, 0, 1), (.iconst 1, 0, 1), (.iadd, 0, 1), (.iaload, 0, 1), (.aload 0, 0, 1), (.iload 3, 0, 1), (.iconst 2, 0, 1), (.iadd, 0, 1), (.iaload, 0, 1), (.invokevirtual 67, 3, 3)] else if pc = 1260 then [(.aload 2, 0, 1), (.aload 0, 0, 1), (.iload 3, 0, 1), (.iconst 1, 0, 1), (.iadd, 0, 1), (.iaload, 0, 1), (.aload 0, 0, 1), (.iload 3, 0, 1), (.iconst 2, 0, 1), (.iadd, 0, 1), (.iaload, 0, 1), (.invokevirtual 155, 3, 3)] else if pc = 1274 then [(.if_icmp .eq 1341, 0, 3)] else if pc = 1277 then [(.iconst 0, 0, 1), (.ireturn, 0, 1)] else []
def sp163c23 (pc : Nat) : Bool := [1260, 1274, 1341].contains pc
theorem BT163c23 : bt163c23 1246 = [(.aload 1, 0, 1), (.aload 0, 0, 1), (.iload 3, 0, 1), (.iconst 1, 0, 1), (.iadd, 0, 1), (.iaload, 0, 1), (.aload 0, 0, 1), (.iload 3, 0, 1), (.iconst 2, 0, 1), (.iadd, 0, 1), (.iaload, 0, 1), (.invokevirtual 67, 3, 3)] ∧ bt163c23 1260 = [(.aload 2, 0, 1), (.aload 0, 0, 1), (.iload 3, 0, 1), (.iconst 1, 0, 1), (.iadd, 0, 1), (.iaload, 0, 1), (.aload 0, 0, 1), (.iload 3, 0, 1), (.iconst 2, 0, 1), (.iadd, 0, 1), (.iaload, 0, 1), (.invokevirtual 155, 3, 3)] ∧ bt163c23 1274 = [(.if_icmp .eq 1341, 0, 3)] ∧ bt163c23 1277 = [(.iconst 0, 0, 1), (.ireturn, 0, 1)] ∧ True := ⟨rfl, rfl, rfl, rfl, trivial⟩
theorem SP163c23 : sp163c23 1246 = false ∧ sp163c23 1260 = true ∧ sp163c23 1274 = true ∧ sp163c23 1277 = false ∧ sp163c23 1341 = true ∧ True := ⟨rfl, rfl, rfl, rfl, rfl, trivial⟩
set_option maxRecDepth 100000 in
theorem bk163c23 : ∀ pc, blk 163 pc (bt163c23 pc) = true := fun pc => blk_if (by decide +kernel) (blk_if (by decide +kernel) (blk_if (by decide +kernel) (blk_if (by decide +kernel) (rfl))))
theorem lc_23 {S : Nat → KK} {L c s : Nat} {xs : Nat → Int} (hS : Clo (Run 9) 163 (some (L, xs)) 600000 7302250 RtL S) (hxs : ∀ j, rgI (xs j)) (hL : L ≤ 3072) (hc : c ≤ 600000) (hs : s ≤ 7302250) (i : Nat) (hi : i + 6 ≤ L) (M : MM) (hI : INV M) (nx : ∀ M', INV M' → S 1341 [some (vR scr), some (vR 0), some (vR 55), some (vI i)] [] (sh0, c, s) M') : S 1246 [some (vR scr), some (vR 0), some (vR 55), some (vI i)] [] (sh0, c, s) M := by
  have hx1 : ∀ j, -2147483648 ≤ xs j := fun j => (hxs j).1
  have hx2 : ∀ j, xs j ≤ 2147483647 := fun j => (hxs j).2
  have hL1 : L ≤ 100000 := by omega
  have f1 : 0 ≤ (i : Int) + 1 := by omega
  have g1 : (i : Int) + 1 < L := by omega
  have t1 : ((i : Int) + 1).toNat = i + 1 := by omega
  have f2 : 0 ≤ (i : Int) + 2 := by omega
  have g2 : (i : Int) + 2 < L := by omega
  have t2 : ((i : Int) + 2).toNat = i + 2 := by omega
  have f3 : 0 ≤ (i : Int) + 3 := by omega
  have g3 : (i : Int) + 3 < L := by omega
  have t3 : ((i : Int) + 3).toNat = i + 3 := by omega
  have f4 : 0 ≤ (i : Int) + 4 := by omega
  have g4 : (i : Int) + 4 < L := by omega
  have t4 : ((i : Int) + 4).toNat = i + 4 := by omega
  have f5 : 0 ≤ (i : Int) + 5 := by omega
  have g5 : (i : Int) + 5 < L := by omega
  have t5 : ((i : Int) + 5).toNat = i + 5 := by omega
  refine wpx_ok hS bk163c23 (sp := sp163c23) 60 1246 _ _ _ _ ?_
  simp only [LCM, B2, Bool.not_eq_false, Bool.not_eq_true, decide_eq_true_eq, decide_eq_false_iff_not, Int.not_lt, Int.not_le, CST, TN, WX, WA, WB, GS, LOC, BT163c23, SP163c23, CLS, FLD, ARR, CD, true_and, and_true, and_self, forall_const, true_implies, false_implies, implies_true, not_true_eq_false, not_false_eq_true, if_true, if_false, rgI, rgL, scr, swl, lkl, cats, cat, is2, List.drop_succ_cons, List.drop_zero, List.drop_nil, List.cons_append, List.nil_append, Option.toList_some, Option.toList_none, List.length_cons, List.length_nil, ne_eq, Classical.not_not, reduceCtorEq, Nat.reduceAdd, Nat.reduceSub, Nat.reduceMul, Nat.reduceLT, Nat.reduceLeDiff, Nat.reduceEqDiff, Nat.reduceBEq, Int.reduceToNat, Int.reduceLE, Int.reduceLT, Int.reduceEq, Int.reduceNeg, Int.reduceAdd, Int.reduceSub, Int.reduceMul, Int.toNat_natCast, Nat.zero_add, Int.add_zero, Nat.add_zero, ite_true, ite_false, Option.some.injEq, Nat.le_refl, or_true, true_or, or_false, false_or, if_pos, reduceIte, Nat.reduceGT, Int.lt_irrefl, hx1, hx2, hL1, f1, g1, t1, f2, g2, t2, f3, g3, t3, f4, g4, t4, f5, g5, t5]
  refine ⟨rcv_ok rfl own67 rfl, kW (p_wed (xs (i + 1)) (xs (i + 2)) (hxs _) (hxs _) M hI) (Nat.le_of_ble_eq_true rfl) rfl rfl (Nat.le_of_ble_eq_true rfl) (Nat.le_of_ble_eq_true rfl) rfl hc hs ?_⟩
  rintro r M1 ⟨v, rfl, hv, hz⟩
  have hv1 := hv.1
  have hv2 := hv.2
  show S 1260 _ [Sum.inl v] _ M1
  refine wpx_ok hS bk163c23 (sp := sp163c23) 60 1260 _ _ _ _ ?_
  simp only [LCM, B2, Bool.not_eq_false, Bool.not_eq_true, decide_eq_true_eq, decide_eq_false_iff_not, Int.not_lt, Int.not_le, CST, TN, WX, WA, WB, GS, LOC, BT163c23, SP163c23, CLS, FLD, ARR, CD, true_and, and_true, and_self, forall_const, true_implies, false_implies, implies_true, not_true_eq_false, not_false_eq_true, if_true, if_false, rgI, rgL, scr, swl, lkl, cats, cat, is2, List.drop_succ_cons, List.drop_zero, List.drop_nil, List.cons_append, List.nil_append, Option.toList_some, Option.toList_none, List.length_cons, List.length_nil, ne_eq, Classical.not_not, reduceCtorEq, Nat.reduceAdd, Nat.reduceSub, Nat.reduceMul, Nat.reduceLT, Nat.reduceLeDiff, Nat.reduceEqDiff, Nat.reduceBEq, Int.reduceToNat, Int.reduceLE, Int.reduceLT, Int.reduceEq, Int.reduceNeg, Int.reduceAdd, Int.reduceSub, Int.reduceMul, Int.toNat_natCast, Nat.zero_add, Int.add_zero, Nat.add_zero, ite_true, ite_false, Option.some.injEq, Nat.le_refl, or_true, true_or, or_false, false_or, if_pos, reduceIte, Nat.reduceGT, Int.lt_irrefl, hx1, hx2, hL1, f1, g1, t1, f2, g2, t2, f3, g3, t3, f4, g4, t4, f5, g5, t5]
  refine ⟨rcv_ok rfl own155 rfl, kW hz (Nat.le_of_ble_eq_true rfl) rfl rfl (Nat.le_of_ble_eq_true rfl) (Nat.le_of_ble_eq_true rfl) rfl hc hs ?_⟩
  rintro r2 M2 ⟨rfl, hI2⟩
  show S 1274 _ [Sum.inl v, Sum.inl v] _ M2
  refine wpx_ok hS bk163c23 (sp := sp163c23) 60 1274 _ _ _ _ ?_
  simp only [LCM, B2, Bool.not_eq_false, Bool.not_eq_true, decide_eq_true_eq, decide_eq_false_iff_not, Int.not_lt, Int.not_le, CST, TN, WX, WA, WB, GS, LOC, BT163c23, SP163c23, CLS, FLD, ARR, CD, true_and, and_true, and_self, forall_const, true_implies, false_implies, implies_true, not_true_eq_false, not_false_eq_true, if_true, if_false, rgI, rgL, scr, swl, lkl, cats, cat, is2, List.drop_succ_cons, List.drop_zero, List.drop_nil, List.cons_append, List.nil_append, Option.toList_some, Option.toList_none, List.length_cons, List.length_nil, ne_eq, Classical.not_not, reduceCtorEq, Nat.reduceAdd, Nat.reduceSub, Nat.reduceMul, Nat.reduceLT, Nat.reduceLeDiff, Nat.reduceEqDiff, Nat.reduceBEq, Int.reduceToNat, Int.reduceLE, Int.reduceLT, Int.reduceEq, Int.reduceNeg, Int.reduceAdd, Int.reduceSub, Int.reduceMul, Int.toNat_natCast, Nat.zero_add, Int.add_zero, Nat.add_zero, ite_true, ite_false, Option.some.injEq, Nat.le_refl, or_true, true_or, or_false, false_or, if_pos, reduceIte, Nat.reduceGT, Int.lt_irrefl, hv1, hv2]
  exact nx M2 hI2
def bt163c24 (pc : Nat) : BL := if pc = 1279 then [(.aload 1, 0, 1), (.invokevirtual 68, 1, 3)] else if pc = 1283 then [(.aload 2, 0, 1), (.invokevirtual 157, 1, 3)] else if pc = 1287 then [(.if_icmp .eq 1341, 0, 3)] else if pc = 1290 then [(.iconst 0, 0, 1), (.ireturn, 0, 1)] else []
def sp163c24 (pc : Nat) : Bool := [1283, 1287, 1341].contains pc
theorem BT163c24 : bt163c24 1279 = [(.aload 1, 0, 1), (.invokevirtual 68, 1, 3)] ∧ bt163c24 1283 = [(.aload 2, 0, 1), (.invokevirtual 157, 1, 3)] ∧ bt163c24 1287 = [(.if_icmp .eq 1341, 0, 3)] ∧ bt163c24 1290 = [(.iconst 0, 0, 1), (.ireturn, 0, 1)] ∧ True := ⟨rfl, rfl, rfl, rfl, trivial⟩
theorem SP163c24 : sp163c24 1279 = false ∧ sp163c24 1283 = true ∧ sp163c24 1287 = true ∧ sp163c24 1290 = false ∧ sp163c24 1341 = true ∧ True := ⟨rfl, rfl, rfl, rfl, rfl, trivial⟩
set_option maxRecDepth 100000 in
theorem bk163c24 : ∀ pc, blk 163 pc (bt163c24 pc) = true := fun pc => blk_if (by decide +kernel) (blk_if (by decide +kernel) (blk_if (by decide +kernel) (blk_if (by decide +kernel) (rfl))))
theorem lc_24 {S : Nat → KK} {L c s : Nat} {xs : Nat → Int} (hS : Clo (Run 9) 163 (some (L, xs)) 600000 7302250 RtL S) (hxs : ∀ j, rgI (xs j)) (hL : L ≤ 3072) (hc : c ≤ 600000) (hs : s ≤ 7302250) (i : Nat) (hi : i + 6 ≤ L) (M : MM) (hI : INV M) (nx : ∀ M', INV M' → S 1341 [some (vR scr), some (vR 0), some (vR 55), some (vI i)] [] (sh0, c, s) M') : S 1279 [some (vR scr), some (vR 0), some (vR 55), some (vI i)] [] (sh0, c, s) M := by
  have hx1 : ∀ j, -2147483648 ≤ xs j := fun j => (hxs j).1
  have hx2 : ∀ j, xs j ≤ 2147483647 := fun j => (hxs j).2
  have hL1 : L ≤ 100000 := by omega
  have f1 : 0 ≤ (i : Int) + 1 := by omega
  have g1 : (i : Int) + 1 < L := by omega
  have t1 : ((i : Int) + 1).toNat = i + 1 := by omega
  have f2 : 0 ≤ (i : Int) + 2 := by omega
  have g2 : (i : Int) + 2 < L := by omega
  have t2 : ((i : Int) + 2).toNat = i + 2 := by omega
  have f3 : 0 ≤ (i : Int) + 3 := by omega
  have g3 : (i : Int) + 3 < L := by omega
  have t3 : ((i : Int) + 3).toNat = i + 3 := by omega
  have f4 : 0 ≤ (i : Int) + 4 := by omega
  have g4 : (i : Int) + 4 < L := by omega
  have t4 : ((i : Int) + 4).toNat = i + 4 := by omega
  have f5 : 0 ≤ (i : Int) + 5 := by omega
  have g5 : (i : Int) + 5 < L := by omega
  have t5 : ((i : Int) + 5).toNat = i + 5 := by omega
  refine wpx_ok hS bk163c24 (sp := sp163c24) 60 1279 _ _ _ _ ?_
  simp only [LCM, B2, Bool.not_eq_false, Bool.not_eq_true, decide_eq_true_eq, decide_eq_false_iff_not, Int.not_lt, Int.not_le, CST, TN, WX, WA, WB, GS, LOC, BT163c24, SP163c24, CLS, FLD, ARR, CD, true_and, and_true, and_self, forall_const, true_implies, false_implies, implies_true, not_true_eq_false, not_false_eq_true, if_true, if_false, rgI, rgL, scr, swl, lkl, cats, cat, is2, List.drop_succ_cons, List.drop_zero, List.drop_nil, List.cons_append, List.nil_append, Option.toList_some, Option.toList_none, List.length_cons, List.length_nil, ne_eq, Classical.not_not, reduceCtorEq, Nat.reduceAdd, Nat.reduceSub, Nat.reduceMul, Nat.reduceLT, Nat.reduceLeDiff, Nat.reduceEqDiff, Nat.reduceBEq, Int.reduceToNat, Int.reduceLE, Int.reduceLT, Int.reduceEq, Int.reduceNeg, Int.reduceAdd, Int.reduceSub, Int.reduceMul, Int.toNat_natCast, Nat.zero_add, Int.add_zero, Nat.add_zero, ite_true, ite_false, Option.some.injEq, Nat.le_refl, or_true, true_or, or_false, false_or, if_pos, reduceIte, Nat.reduceGT, Int.lt_irrefl, hx1, hx2, hL1, f1, g1, t1, f2, g2, t2, f3, g3, t3, f4, g4, t4, f5, g5, t5]
  refine ⟨rcv_ok rfl own68 rfl, kW (p_settle M hI) (Nat.le_of_ble_eq_true rfl) rfl rfl (Nat.le_of_ble_eq_true rfl) (Nat.le_of_ble_eq_true rfl) rfl hc hs ?_⟩
  rintro r M1 ⟨v, rfl, hv, hz⟩
  have hv1 := hv.1
  have hv2 := hv.2
  show S 1283 _ [Sum.inl v] _ M1
  refine wpx_ok hS bk163c24 (sp := sp163c24) 60 1283 _ _ _ _ ?_
  simp only [LCM, B2, Bool.not_eq_false, Bool.not_eq_true, decide_eq_true_eq, decide_eq_false_iff_not, Int.not_lt, Int.not_le, CST, TN, WX, WA, WB, GS, LOC, BT163c24, SP163c24, CLS, FLD, ARR, CD, true_and, and_true, and_self, forall_const, true_implies, false_implies, implies_true, not_true_eq_false, not_false_eq_true, if_true, if_false, rgI, rgL, scr, swl, lkl, cats, cat, is2, List.drop_succ_cons, List.drop_zero, List.drop_nil, List.cons_append, List.nil_append, Option.toList_some, Option.toList_none, List.length_cons, List.length_nil, ne_eq, Classical.not_not, reduceCtorEq, Nat.reduceAdd, Nat.reduceSub, Nat.reduceMul, Nat.reduceLT, Nat.reduceLeDiff, Nat.reduceEqDiff, Nat.reduceBEq, Int.reduceToNat, Int.reduceLE, Int.reduceLT, Int.reduceEq, Int.reduceNeg, Int.reduceAdd, Int.reduceSub, Int.reduceMul, Int.toNat_natCast, Nat.zero_add, Int.add_zero, Nat.add_zero, ite_true, ite_false, Option.some.injEq, Nat.le_refl, or_true, true_or, or_false, false_or, if_pos, reduceIte, Nat.reduceGT, Int.lt_irrefl, hx1, hx2, hL1, f1, g1, t1, f2, g2, t2, f3, g3, t3, f4, g4, t4, f5, g5, t5]
  refine ⟨rcv_ok rfl own157 rfl, kW hz (Nat.le_of_ble_eq_true rfl) rfl rfl (Nat.le_of_ble_eq_true rfl) (Nat.le_of_ble_eq_true rfl) rfl hc hs ?_⟩
  rintro r2 M2 ⟨rfl, hI2⟩
  show S 1287 _ [Sum.inl v, Sum.inl v] _ M2
  refine wpx_ok hS bk163c24 (sp := sp163c24) 60 1287 _ _ _ _ ?_
  simp only [LCM, B2, Bool.not_eq_false, Bool.not_eq_true, decide_eq_true_eq, decide_eq_false_iff_not, Int.not_lt, Int.not_le, CST, TN, WX, WA, WB, GS, LOC, BT163c24, SP163c24, CLS, FLD, ARR, CD, true_and, and_true, and_self, forall_const, true_implies, false_implies, implies_true, not_true_eq_false, not_false_eq_true, if_true, if_false, rgI, rgL, scr, swl, lkl, cats, cat, is2, List.drop_succ_cons, List.drop_zero, List.drop_nil, List.cons_append, List.nil_append, Option.toList_some, Option.toList_none, List.length_cons, List.length_nil, ne_eq, Classical.not_not, reduceCtorEq, Nat.reduceAdd, Nat.reduceSub, Nat.reduceMul, Nat.reduceLT, Nat.reduceLeDiff, Nat.reduceEqDiff, Nat.reduceBEq, Int.reduceToNat, Int.reduceLE, Int.reduceLT, Int.reduceEq, Int.reduceNeg, Int.reduceAdd, Int.reduceSub, Int.reduceMul, Int.toNat_natCast, Nat.zero_add, Int.add_zero, Nat.add_zero, ite_true, ite_false, Option.some.injEq, Nat.le_refl, or_true, true_or, or_false, false_or, if_pos, reduceIte, Nat.reduceGT, Int.lt_irrefl, hv1, hv2]
  exact nx M2 hI2
def bt163c25 (pc : Nat) : BL := if pc = 1292 then [(.aload 1, 0, 1), (.invokevirtual 69, 1, 3)] else if pc = 1296 then [(.aload 2, 0, 1), (.invokevirtual 158, 1, 3)] else if pc = 1300 then [(.if_icmp .eq 1341, 0, 3)] else if pc = 1303 then [(.iconst 0, 0, 1), (.ireturn, 0, 1)] else []
def sp163c25 (pc : Nat) : Bool := [1296, 1300, 1341].contains pc
theorem BT163c25 : bt163c25 1292 = [(.aload 1, 0, 1), (.invokevirtual 69, 1, 3)] ∧ bt163c25 1296 = [(.aload 2, 0, 1), (.invokevirtual 158, 1, 3)] ∧ bt163c25 1300 = [(.if_icmp .eq 1341, 0, 3)] ∧ bt163c25 1303 = [(.iconst 0, 0, 1), (.ireturn, 0, 1)] ∧ True := ⟨rfl, rfl, rfl, rfl, trivial⟩
theorem SP163c25 : sp163c25 1292 = false ∧ sp163c25 1296 = true ∧ sp163c25 1300 = true ∧ sp163c25 1303 = false ∧ sp163c25 1341 = true ∧ True := ⟨rfl, rfl, rfl, rfl, rfl, trivial⟩
set_option maxRecDepth 100000 in
theorem bk163c25 : ∀ pc, blk 163 pc (bt163c25 pc) = true := fun pc => blk_if (by decide +kernel) (blk_if (by decide +kernel) (blk_if (by decide +kernel) (blk_if (by decide +kernel) (rfl))))
theorem lc_25 {S : Nat → KK} {L c s : Nat} {xs : Nat → Int} (hS : Clo (Run 9) 163 (some (L, xs)) 600000 7302250 RtL S) (hxs : ∀ j, rgI (xs j)) (hL : L ≤ 3072) (hc : c ≤ 600000) (hs : s ≤ 7302250) (i : Nat) (hi : i + 6 ≤ L) (M : MM) (hI : INV M) (nx : ∀ M', INV M' → S 1341 [some (vR scr), some (vR 0), some (vR 55), some (vI i)] [] (sh0, c, s) M') : S 1292 [some (vR scr), some (vR 0), some (vR 55), some (vI i)] [] (sh0, c, s) M := by
  have hx1 : ∀ j, -2147483648 ≤ xs j := fun j => (hxs j).1
  have hx2 : ∀ j, xs j ≤ 2147483647 := fun j => (hxs j).2
  have hL1 : L ≤ 100000 := by omega
  have f1 : 0 ≤ (i : Int) + 1 := by omega
  have g1 : (i : Int) + 1 < L := by omega
  have t1 : ((i : Int) + 1).toNat = i + 1 := by omega
  have f2 : 0 ≤ (i : Int) + 2 := by omega
  have g2 : (i : Int) + 2 < L := by omega
  have t2 : ((i : Int) + 2).toNat = i + 2 := by omega
  have f3 : 0 ≤ (i : Int) + 3 := by omega
  have g3 : (i : Int) + 3 < L := by omega
  have t3 : ((i : Int) + 3).toNat = i + 3 := by omega
  have f4 : 0 ≤ (i : Int) + 4 := by omega
  have g4 : (i : Int) + 4 < L := by omega
  have t4 : ((i : Int) + 4).toNat = i + 4 := by omega
  have f5 : 0 ≤ (i : Int) + 5 := by omega
  have g5 : (i : Int) + 5 < L := by omega
  have t5 : ((i : Int) + 5).toNat = i + 5 := by omega
  refine wpx_ok hS bk163c25 (sp := sp163c25) 60 1292 _ _ _ _ ?_
  simp only [LCM, B2, Bool.not_eq_false, Bool.not_eq_true, decide_eq_true_eq, decide_eq_false_iff_not, Int.not_lt, Int.not_le, CST, TN, WX, WA, WB, GS, LOC, BT163c25, SP163c25, CLS, FLD, ARR, CD, true_and, and_true, and_self, forall_const, true_implies, false_implies, implies_true, not_true_eq_false, not_false_eq_true, if_true, if_false, rgI, rgL, scr, swl, lkl, cats, cat, is2, List.drop_succ_cons, List.drop_zero, List.drop_nil, List.cons_append, List.nil_append, Option.toList_some, Option.toList_none, List.length_cons, List.length_nil, ne_eq, Classical.not_not, reduceCtorEq, Nat.reduceAdd, Nat.reduceSub, Nat.reduceMul, Nat.reduceLT, Nat.reduceLeDiff, Nat.reduceEqDiff, Nat.reduceBEq, Int.reduceToNat, Int.reduceLE, Int.reduceLT, Int.reduceEq, Int.reduceNeg, Int.reduceAdd, Int.reduceSub, Int.reduceMul, Int.toNat_natCast, Nat.zero_add, Int.add_zero, Nat.add_zero, ite_true, ite_false, Option.some.injEq, Nat.le_refl, or_true, true_or, or_false, false_or, if_pos, reduceIte, Nat.reduceGT, Int.lt_irrefl, hx1, hx2, hL1, f1, g1, t1, f2, g2, t2, f3, g3, t3, f4, g4, t4, f5, g5, t5]
  refine ⟨rcv_ok rfl own69 rfl, kW (p_keep M hI) (Nat.le_of_ble_eq_true rfl) rfl rfl (Nat.le_of_ble_eq_true rfl) (Nat.le_of_ble_eq_true rfl) rfl hc hs ?_⟩
  rintro r M1 ⟨v, rfl, hv, hz⟩
  have hv1 := hv.1
  have hv2 := hv.2
  show S 1296 _ [Sum.inl v] _ M1
  refine wpx_ok hS bk163c25 (sp := sp163c25) 60 1296 _ _ _ _ ?_
  simp only [LCM, B2, Bool.not_eq_false, Bool.not_eq_true, decide_eq_true_eq, decide_eq_false_iff_not, Int.not_lt, Int.not_le, CST, TN, WX, WA, WB, GS, LOC, BT163c25, SP163c25, CLS, FLD, ARR, CD, true_and, and_true, and_self, forall_const, true_implies, false_implies, implies_true, not_true_eq_false, not_false_eq_true, if_true, if_false, rgI, rgL, scr, swl, lkl, cats, cat, is2, List.drop_succ_cons, List.drop_zero, List.drop_nil, List.cons_append, List.nil_append, Option.toList_some, Option.toList_none, List.length_cons, List.length_nil, ne_eq, Classical.not_not, reduceCtorEq, Nat.reduceAdd, Nat.reduceSub, Nat.reduceMul, Nat.reduceLT, Nat.reduceLeDiff, Nat.reduceEqDiff, Nat.reduceBEq, Int.reduceToNat, Int.reduceLE, Int.reduceLT, Int.reduceEq, Int.reduceNeg, Int.reduceAdd, Int.reduceSub, Int.reduceMul, Int.toNat_natCast, Nat.zero_add, Int.add_zero, Nat.add_zero, ite_true, ite_false, Option.some.injEq, Nat.le_refl, or_true, true_or, or_false, false_or, if_pos, reduceIte, Nat.reduceGT, Int.lt_irrefl, hx1, hx2, hL1, f1, g1, t1, f2, g2, t2, f3, g3, t3, f4, g4, t4, f5, g5, t5]
  refine ⟨rcv_ok rfl own158 rfl, kW hz (Nat.le_of_ble_eq_true rfl) rfl rfl (Nat.le_of_ble_eq_true rfl) (Nat.le_of_ble_eq_true rfl) rfl hc hs ?_⟩
  rintro r2 M2 ⟨rfl, hI2⟩
  show S 1300 _ [Sum.inl v, Sum.inl v] _ M2
  refine wpx_ok hS bk163c25 (sp := sp163c25) 60 1300 _ _ _ _ ?_
  simp only [LCM, B2, Bool.not_eq_false, Bool.not_eq_true, decide_eq_true_eq, decide_eq_false_iff_not, Int.not_lt, Int.not_le, CST, TN, WX, WA, WB, GS, LOC, BT163c25, SP163c25, CLS, FLD, ARR, CD, true_and, and_true, and_self, forall_const, true_implies, false_implies, implies_true, not_true_eq_false, not_false_eq_true, if_true, if_false, rgI, rgL, scr, swl, lkl, cats, cat, is2, List.drop_succ_cons, List.drop_zero, List.drop_nil, List.cons_append, List.nil_append, Option.toList_some, Option.toList_none, List.length_cons, List.length_nil, ne_eq, Classical.not_not, reduceCtorEq, Nat.reduceAdd, Nat.reduceSub, Nat.reduceMul, Nat.reduceLT, Nat.reduceLeDiff, Nat.reduceEqDiff, Nat.reduceBEq, Int.reduceToNat, Int.reduceLE, Int.reduceLT, Int.reduceEq, Int.reduceNeg, Int.reduceAdd, Int.reduceSub, Int.reduceMul, Int.toNat_natCast, Nat.zero_add, Int.add_zero, Nat.add_zero, ite_true, ite_false, Option.some.injEq, Nat.le_refl, or_true, true_or, or_false, false_or, if_pos, reduceIte, Nat.reduceGT, Int.lt_irrefl, hv1, hv2]
  exact nx M2 hI2
def bt163c26 (pc : Nat) : BL := if pc = 1305 then [(.aload 1, 0, 1), (.invokevirtual 70, 1, 3)] else if pc = 1309 then [(.aload 2, 0, 1), (.invokevirtual 159, 1, 3)] else if pc = 1313 then [(.if_icmp .eq 1341, 0, 3)] else if pc = 1316 then [(.iconst 0, 0, 1), (.ireturn, 0, 1)] else []
def sp163c26 (pc : Nat) : Bool := [1309, 1313, 1341].contains pc
theorem BT163c26 : bt163c26 1305 = [(.aload 1, 0, 1), (.invokevirtual 70, 1, 3)] ∧ bt163c26 1309 = [(.aload 2, 0, 1), (.invokevirtual 159, 1, 3)] ∧ bt163c26 1313 = [(.if_icmp .eq 1341, 0, 3)] ∧ bt163c26 1316 = [(.iconst 0, 0, 1), (.ireturn, 0, 1)] ∧ True := ⟨rfl, rfl, rfl, rfl, trivial⟩
theorem SP163c26 : sp163c26 1305 = false ∧ sp163c26 1309 = true ∧ sp163c26 1313 = true ∧ sp163c26 1316 = false ∧ sp163c26 1341 = true ∧ True := ⟨rfl, rfl, rfl, rfl, rfl, trivial⟩
set_option maxRecDepth 100000 in
theorem bk163c26 : ∀ pc, blk 163 pc (bt163c26 pc) = true := fun pc => blk_if (by decide +kernel) (blk_if (by decide +kernel) (blk_if (by decide +kernel) (blk_if (by decide +kernel) (rfl))))
theorem lc_26 {S : Nat → KK} {L c s : Nat} {xs : Nat → Int} (hS : Clo (Run 9) 163 (some (L, xs)) 600000 7302250 RtL S) (hxs : ∀ j, rgI (xs j)) (hL : L ≤ 3072) (hc : c ≤ 600000) (hs : s ≤ 7302250) (i : Nat) (hi : i + 6 ≤ L) (M : MM) (hI : INV M) (nx : ∀ M', INV M' → S 1341 [some (vR scr), some (vR 0), some (vR 55), some (vI i)] [] (sh0, c, s) M') : S 1305 [some (vR scr), some (vR 0), some (vR 55), some (vI i)] [] (sh0, c, s) M := by
  have hx1 : ∀ j, -2147483648 ≤ xs j := fun j => (hxs j).1
  have hx2 : ∀ j, xs j ≤ 2147483647 := fun j => (hxs j).2
  have hL1 : L ≤ 100000 := by omega
  have f1 : 0 ≤ (i : Int) + 1 := by omega
  have g1 : (i : Int) + 1 < L := by omega
  have t1 : ((i : Int) + 1).toNat = i + 1 := by omega
  have f2 : 0 ≤ (i : Int) + 2 := by omega
  have g2 : (i : Int) + 2 < L := by omega
  have t2 : ((i : Int) + 2).toNat = i + 2 := by omega
  have f3 : 0 ≤ (i : Int) + 3 := by omega
  have g3 : (i : Int) + 3 < L := by omega
  have t3 : ((i : Int) + 3).toNat = i + 3 := by omega
  have f4 : 0 ≤ (i : Int) + 4 := by omega
  have g4 : (i : Int) + 4 < L := by omega
  have t4 : ((i : Int) + 4).toNat = i + 4 := by omega
  have f5 : 0 ≤ (i : Int) + 5 := by omega
  have g5 : (i : Int) + 5 < L := by omega
  have t5 : ((i : Int) + 5).toNat = i + 5 := by omega
  refine wpx_ok hS bk163c26 (sp := sp163c26) 60 1305 _ _ _ _ ?_
  simp only [LCM, B2, Bool.not_eq_false, Bool.not_eq_true, decide_eq_true_eq, decide_eq_false_iff_not, Int.not_lt, Int.not_le, CST, TN, WX, WA, WB, GS, LOC, BT163c26, SP163c26, CLS, FLD, ARR, CD, true_and, and_true, and_self, forall_const, true_implies, false_implies, implies_true, not_true_eq_false, not_false_eq_true, if_true, if_false, rgI, rgL, scr, swl, lkl, cats, cat, is2, List.drop_succ_cons, List.drop_zero, List.drop_nil, List.cons_append, List.nil_append, Option.toList_some, Option.toList_none, List.length_cons, List.length_nil, ne_eq, Classical.not_not, reduceCtorEq, Nat.reduceAdd, Nat.reduceSub, Nat.reduceMul, Nat.reduceLT, Nat.reduceLeDiff, Nat.reduceEqDiff, Nat.reduceBEq, Int.reduceToNat, Int.reduceLE, Int.reduceLT, Int.reduceEq, Int.reduceNeg, Int.reduceAdd, Int.reduceSub, Int.reduceMul, Int.toNat_natCast, Nat.zero_add, Int.add_zero, Nat.add_zero, ite_true, ite_false, Option.some.injEq, Nat.le_refl, or_true, true_or, or_false, false_or, if_pos, reduceIte, Nat.reduceGT, Int.lt_irrefl, hx1, hx2, hL1, f1, g1, t1, f2, g2, t2, f3, g3, t3, f4, g4, t4, f5, g5, t5]
  refine ⟨rcv_ok rfl own70 rfl, kW (p_back M hI) (Nat.le_of_ble_eq_true rfl) rfl rfl (Nat.le_of_ble_eq_true rfl) (Nat.le_of_ble_eq_true rfl) rfl hc hs ?_⟩
  rintro r M1 ⟨v, rfl, hv, hz⟩
  have hv1 := hv.1
  have hv2 := hv.2
  show S 1309 _ [Sum.inl v] _ M1
  refine wpx_ok hS bk163c26 (sp := sp163c26) 60 1309 _ _ _ _ ?_
  simp only [LCM, B2, Bool.not_eq_false, Bool.not_eq_true, decide_eq_true_eq, decide_eq_false_iff_not, Int.not_lt, Int.not_le, CST, TN, WX, WA, WB, GS, LOC, BT163c26, SP163c26, CLS, FLD, ARR, CD, true_and, and_true, and_self, forall_const, true_implies, false_implies, implies_true, not_true_eq_false, not_false_eq_true, if_true, if_false, rgI, rgL, scr, swl, lkl, cats, cat, is2, List.drop_succ_cons, List.drop_zero, List.drop_nil, List.cons_append, List.nil_append, Option.toList_some, Option.toList_none, List.length_cons, List.length_nil, ne_eq, Classical.not_not, reduceCtorEq, Nat.reduceAdd, Nat.reduceSub, Nat.reduceMul, Nat.reduceLT, Nat.reduceLeDiff, Nat.reduceEqDiff, Nat.reduceBEq, Int.reduceToNat, Int.reduceLE, Int.reduceLT, Int.reduceEq, Int.reduceNeg, Int.reduceAdd, Int.reduceSub, Int.reduceMul, Int.toNat_natCast, Nat.zero_add, Int.add_zero, Nat.add_zero, ite_true, ite_false, Option.some.injEq, Nat.le_refl, or_true, true_or, or_false, false_or, if_pos, reduceIte, Nat.reduceGT, Int.lt_irrefl, hx1, hx2, hL1, f1, g1, t1, f2, g2, t2, f3, g3, t3, f4, g4, t4, f5, g5, t5]
  refine ⟨rcv_ok rfl own159 rfl, kW hz (Nat.le_of_ble_eq_true rfl) rfl rfl (Nat.le_of_ble_eq_true rfl) (Nat.le_of_ble_eq_true rfl) rfl hc hs ?_⟩
  rintro r2 M2 ⟨rfl, hI2⟩
  show S 1313 _ [Sum.inl v, Sum.inl v] _ M2
  refine wpx_ok hS bk163c26 (sp := sp163c26) 60 1313 _ _ _ _ ?_
  simp only [LCM, B2, Bool.not_eq_false, Bool.not_eq_true, decide_eq_true_eq, decide_eq_false_iff_not, Int.not_lt, Int.not_le, CST, TN, WX, WA, WB, GS, LOC, BT163c26, SP163c26, CLS, FLD, ARR, CD, true_and, and_true, and_self, forall_const, true_implies, false_implies, implies_true, not_true_eq_false, not_false_eq_true, if_true, if_false, rgI, rgL, scr, swl, lkl, cats, cat, is2, List.drop_succ_cons, List.drop_zero, List.drop_nil, List.cons_append, List.nil_append, Option.toList_some, Option.toList_none, List.length_cons, List.length_nil, ne_eq, Classical.not_not, reduceCtorEq, Nat.reduceAdd, Nat.reduceSub, Nat.reduceMul, Nat.reduceLT, Nat.reduceLeDiff, Nat.reduceEqDiff, Nat.reduceBEq, Int.reduceToNat, Int.reduceLE, Int.reduceLT, Int.reduceEq, Int.reduceNeg, Int.reduceAdd, Int.reduceSub, Int.reduceMul, Int.toNat_natCast, Nat.zero_add, Int.add_zero, Nat.add_zero, ite_true, ite_false, Option.some.injEq, Nat.le_refl, or_true, true_or, or_false, false_or, if_pos, reduceIte, Nat.reduceGT, Int.lt_irrefl, hv1, hv2]
  exact nx M2 hI2
def bt163c27 (pc : Nat) : BL := if pc = 1318 then [(.aload 1, 0, 1), (.aload 0, 0, 1), (.iload 3, 0, 1), (.iconst 1, 0, 1), (.iadd, 0, 1), (.iaload, 0, 1), (.invokevirtual 71, 2, 3)] else if pc = 1327 then [(.aload 2, 0, 1), (.aload 0, 0, 1), (.iload 3, 0, 1), (.iconst 1, 0, 1), (.iadd, 0, 1), (.iaload, 0, 1), (.invokevirtual 160, 2, 3)] else if pc = 1336 then [(.if_icmp .eq 1341, 0, 3)] else if pc = 1339 then [(.iconst 0, 0, 1), (.ireturn, 0, 1)] else []
def sp163c27 (pc : Nat) : Bool := [1327, 1336, 1341].contains pc
theorem BT163c27 : bt163c27 1318 = [(.aload 1, 0, 1), (.aload 0, 0, 1), (.iload 3, 0, 1), (.iconst 1, 0, 1), (.iadd, 0, 1), (.iaload, 0, 1), (.invokevirtual 71, 2, 3)] ∧ bt163c27 1327 = [(.aload 2, 0, 1), (.aload 0, 0, 1), (.iload 3, 0, 1), (.iconst 1, 0, 1), (.iadd, 0, 1), (.iaload, 0, 1), (.invokevirtual 160, 2, 3)] ∧ bt163c27 1336 = [(.if_icmp .eq 1341, 0, 3)] ∧ bt163c27 1339 = [(.iconst 0, 0, 1), (.ireturn, 0, 1)] ∧ True := ⟨rfl, rfl, rfl, rfl, trivial⟩
theorem SP163c27 : sp163c27 1318 = false ∧ sp163c27 1327 = true ∧ sp163c27 1336 = true ∧ sp163c27 1339 = false ∧ sp163c27 1341 = true ∧ True := ⟨rfl, rfl, rfl, rfl, rfl, trivial⟩
set_option maxRecDepth 100000 in
theorem bk163c27 : ∀ pc, blk 163 pc (bt163c27 pc) = true := fun pc => blk_if (by decide +kernel) (blk_if (by decide +kernel) (blk_if (by decide +kernel) (blk_if (by decide +kernel) (rfl))))
theorem lc_27 {S : Nat → KK} {L c s : Nat} {xs : Nat → Int} (hS : Clo (Run 9) 163 (some (L, xs)) 600000 7302250 RtL S) (hxs : ∀ j, rgI (xs j)) (hL : L ≤ 3072) (hc : c ≤ 600000) (hs : s ≤ 7302250) (i : Nat) (hi : i + 6 ≤ L) (M : MM) (hI : INV M) (nx : ∀ M', INV M' → S 1341 [some (vR scr), some (vR 0), some (vR 55), some (vI i)] [] (sh0, c, s) M') : S 1318 [some (vR scr), some (vR 0), some (vR 55), some (vI i)] [] (sh0, c, s) M := by
  have hx1 : ∀ j, -2147483648 ≤ xs j := fun j => (hxs j).1
  have hx2 : ∀ j, xs j ≤ 2147483647 := fun j => (hxs j).2
  have hL1 : L ≤ 100000 := by omega
  have f1 : 0 ≤ (i : Int) + 1 := by omega
  have g1 : (i : Int) + 1 < L := by omega
  have t1 : ((i : Int) + 1).toNat = i + 1 := by omega
  have f2 : 0 ≤ (i : Int) + 2 := by omega
  have g2 : (i : Int) + 2 < L := by omega
  have t2 : ((i : Int) + 2).toNat = i + 2 := by omega
  have f3 : 0 ≤ (i : Int) + 3 := by omega
  have g3 : (i : Int) + 3 < L := by omega
  have t3 : ((i : Int) + 3).toNat = i + 3 := by omega
  have f4 : 0 ≤ (i : Int) + 4 := by omega
  have g4 : (i : Int) + 4 < L := by omega
  have t4 : ((i : Int) + 4).toNat = i + 4 := by omega
  have f5 : 0 ≤ (i : Int) + 5 := by omega
  have g5 : (i : Int) + 5 < L := by omega
  have t5 : ((i : Int) + 5).toNat = i + 5 := by omega
  refine wpx_ok hS bk163c27 (sp := sp163c27) 60 1318 _ _ _ _ ?_
  simp only [LCM, B2, Bool.not_eq_false, Bool.not_eq_true, decide_eq_true_eq, decide_eq_false_iff_not, Int.not_lt, Int.not_le, CST, TN, WX, WA, WB, GS, LOC, BT163c27, SP163c27, CLS, FLD, ARR, CD, true_and, and_true, and_self, forall_const, true_implies, false_implies, implies_true, not_true_eq_false, not_false_eq_true, if_true, if_false, rgI, rgL, scr, swl, lkl, cats, cat, is2, List.drop_succ_cons, List.drop_zero, List.drop_nil, List.cons_append, List.nil_append, Option.toList_some, Option.toList_none, List.length_cons, List.length_nil, ne_eq, Classical.not_not, reduceCtorEq, Nat.reduceAdd, Nat.reduceSub, Nat.reduceMul, Nat.reduceLT, Nat.reduceLeDiff, Nat.reduceEqDiff, Nat.reduceBEq, Int.reduceToNat, Int.reduceLE, Int.reduceLT, Int.reduceEq, Int.reduceNeg, Int.reduceAdd, Int.reduceSub, Int.reduceMul, Int.toNat_natCast, Nat.zero_add, Int.add_zero, Nat.add_zero, ite_true, ite_false, Option.some.injEq, Nat.le_refl, or_true, true_or, or_false, false_or, if_pos, reduceIte, Nat.reduceGT, Int.lt_irrefl, hx1, hx2, hL1, f1, g1, t1, f2, g2, t2, f3, g3, t3, f4, g4, t4, f5, g5, t5]
  refine ⟨rcv_ok rfl own71 rfl, kW (p_count (xs (i + 1)) (hxs _) M hI) (Nat.le_of_ble_eq_true rfl) rfl rfl (Nat.le_of_ble_eq_true rfl) (Nat.le_of_ble_eq_true rfl) rfl hc hs ?_⟩
  rintro r M1 ⟨v, rfl, hv, hz⟩
  have hv1 := hv.1
  have hv2 := hv.2
  show S 1327 _ [Sum.inl v] _ M1
  refine wpx_ok hS bk163c27 (sp := sp163c27) 60 1327 _ _ _ _ ?_
  simp only [LCM, B2, Bool.not_eq_false, Bool.not_eq_true, decide_eq_true_eq, decide_eq_false_iff_not, Int.not_lt, Int.not_le, CST, TN, WX, WA, WB, GS, LOC, BT163c27, SP163c27, CLS, FLD, ARR, CD, true_and, and_true, and_self, forall_const, true_implies, false_implies, implies_true, not_true_eq_false, not_false_eq_true, if_true, if_false, rgI, rgL, scr, swl, lkl, cats, cat, is2, List.drop_succ_cons, List.drop_zero, List.drop_nil, List.cons_append, List.nil_append, Option.toList_some, Option.toList_none, List.length_cons, List.length_nil, ne_eq, Classical.not_not, reduceCtorEq, Nat.reduceAdd, Nat.reduceSub, Nat.reduceMul, Nat.reduceLT, Nat.reduceLeDiff, Nat.reduceEqDiff, Nat.reduceBEq, Int.reduceToNat, Int.reduceLE, Int.reduceLT, Int.reduceEq, Int.reduceNeg, Int.reduceAdd, Int.reduceSub, Int.reduceMul, Int.toNat_natCast, Nat.zero_add, Int.add_zero, Nat.add_zero, ite_true, ite_false, Option.some.injEq, Nat.le_refl, or_true, true_or, or_false, false_or, if_pos, reduceIte, Nat.reduceGT, Int.lt_irrefl, hx1, hx2, hL1, f1, g1, t1, f2, g2, t2, f3, g3, t3, f4, g4, t4, f5, g5, t5]
  refine ⟨rcv_ok rfl own160 rfl, kW hz (Nat.le_of_ble_eq_true rfl) rfl rfl (Nat.le_of_ble_eq_true rfl) (Nat.le_of_ble_eq_true rfl) rfl hc hs ?_⟩
  rintro r2 M2 ⟨rfl, hI2⟩
  show S 1336 _ [Sum.inl v, Sum.inl v] _ M2
  refine wpx_ok hS bk163c27 (sp := sp163c27) 60 1336 _ _ _ _ ?_
  simp only [LCM, B2, Bool.not_eq_false, Bool.not_eq_true, decide_eq_true_eq, decide_eq_false_iff_not, Int.not_lt, Int.not_le, CST, TN, WX, WA, WB, GS, LOC, BT163c27, SP163c27, CLS, FLD, ARR, CD, true_and, and_true, and_self, forall_const, true_implies, false_implies, implies_true, not_true_eq_false, not_false_eq_true, if_true, if_false, rgI, rgL, scr, swl, lkl, cats, cat, is2, List.drop_succ_cons, List.drop_zero, List.drop_nil, List.cons_append, List.nil_append, Option.toList_some, Option.toList_none, List.length_cons, List.length_nil, ne_eq, Classical.not_not, reduceCtorEq, Nat.reduceAdd, Nat.reduceSub, Nat.reduceMul, Nat.reduceLT, Nat.reduceLeDiff, Nat.reduceEqDiff, Nat.reduceBEq, Int.reduceToNat, Int.reduceLE, Int.reduceLT, Int.reduceEq, Int.reduceNeg, Int.reduceAdd, Int.reduceSub, Int.reduceMul, Int.toNat_natCast, Nat.zero_add, Int.add_zero, Nat.add_zero, ite_true, ite_false, Option.some.injEq, Nat.le_refl, or_true, true_or, or_false, false_or, if_pos, reduceIte, Nat.reduceGT, Int.lt_irrefl, hv1, hv2]
  exact nx M2 hI2
def bt163h (pc : Nat) : BL := if pc = 18 then [(.iload 3, 0, 1), (.aload 0, 0, 1), (.arraylength, 0, 1), (.iconst 6, 0, 2), (.isub, 0, 1), (.if_icmp .gt 1347, 0, 3)] else if pc = 27 then [(.aload 0, 0, 1), (.iload 3, 0, 1), (.iaload, 0, 1), (.iconst 31, 0, 2), (.iand, 0, 1), (.tableswitch 1341 0 27 #[160, 223, 236, 249, 262, 295, 348, 411, 475, 498, 562, 666, 689, 753, 776, 880, 903, 936, 979, 1068, 1081, 1130, 1213, 1246, 1279, 1292, 1305, 1318], 0, 127)] else if pc = 1341 then [(.iinc 3 6, 0, 3), (.goto 18, 0, 3)] else if pc = 1347 then [(.iconst 1, 0, 1), (.ireturn, 0, 1)] else []
def sp163h (pc : Nat) : Bool := [18, 1341, 160, 223, 236, 249, 262, 295, 348, 411, 475, 498, 562, 666, 689, 753, 776, 880, 903, 936, 979, 1068, 1081, 1130, 1213, 1246, 1279, 1292, 1305, 1318].contains pc
theorem BT163h : bt163h 18 = [(.iload 3, 0, 1), (.aload 0, 0, 1), (.arraylength, 0, 1), (.iconst 6, 0, 2), (.isub, 0, 1), (.if_icmp .gt 1347, 0, 3)] ∧ bt163h 27 = [(.aload 0, 0, 1), (.iload 3, 0, 1), (.iaload, 0, 1), (.iconst 31, 0, 2), (.iand, 0, 1), (.tableswitch 1341 0 27 #[160, 223, 236, 249, 262, 295, 348, 411, 475, 498, 562, 666, 689, 753, 776, 880, 903, 936, 979, 1068, 1081, 1130, 1213, 1246, 1279, 1292, 1305, 1318], 0, 127)] ∧ bt163h 1341 = [(.iinc 3 6, 0, 3), (.goto 18, 0, 3)] ∧ bt163h 1347 = [(.iconst 1, 0, 1), (.ireturn, 0, 1)] ∧ True := ⟨rfl, rfl, rfl, rfl, trivial⟩
theorem SP163h : sp163h 18 = true ∧ sp163h 27 = false ∧ sp163h 160 = true ∧ sp163h 223 = true ∧ sp163h 236 = true ∧ sp163h 249 = true ∧ sp163h 262 = true ∧ sp163h 295 = true ∧ sp163h 348 = true ∧ sp163h 411 = true ∧ sp163h 475 = true ∧ sp163h 498 = true ∧ sp163h 562 = true ∧ sp163h 666 = true ∧ sp163h 689 = true ∧ sp163h 753 = true ∧ sp163h 776 = true ∧ sp163h 880 = true ∧ sp163h 903 = true ∧ sp163h 936 = true ∧ sp163h 979 = true ∧ sp163h 1068 = true ∧ sp163h 1081 = true ∧ sp163h 1130 = true ∧ sp163h 1213 = true ∧ sp163h 1246 = true ∧ sp163h 1279 = true ∧ sp163h 1292 = true ∧ sp163h 1305 = true ∧ sp163h 1318 = true ∧ sp163h 1341 = true ∧ sp163h 1347 = false ∧ True := ⟨rfl, rfl, rfl, rfl, rfl, rfl, rfl, rfl, rfl, rfl, rfl, rfl, rfl, rfl, rfl, rfl, rfl, rfl, rfl, rfl, rfl, rfl, rfl, rfl, rfl, rfl, rfl, rfl, rfl, rfl, rfl, rfl, trivial⟩
set_option maxRecDepth 100000 in
theorem bk163h : ∀ pc, blk 163 pc (bt163h pc) = true := fun pc => blk_if (by decide +kernel) (blk_if (by decide +kernel) (blk_if (by decide +kernel) (blk_if (by decide +kernel) (rfl))))
theorem lw_end {S : Nat → KK} {L c s : Nat} {xs : Nat → Int} (hS : Clo (Run 9) 163 (some (L, xs)) 600000 7302250 RtL S) (hxs : ∀ j, rgI (xs j)) (hL : L ≤ 3072) (hc : c ≤ 600000) (hs : s ≤ 7302250) (i : Nat) (h6 : L < i + 6) (hi : (i : Int) ≤ 100000) (M : MM) : S 18 [some (vR scr), some (vR 0), some (vR 55), some (vI i)] [] (sh0, c, s) M := by
  have hL1 : L ≤ 100000 := by omega
  have hLa : -2147483648 ≤ (L : Int) - 6 := by omega
  have hLb : (L : Int) - 6 ≤ 2147483647 := by omega
  have hia : -2147483648 ≤ (i : Int) := by omega
  have hib : (i : Int) ≤ 2147483647 := by omega
  refine wpx_ok hS bk163h (sp := sp163h) 60 18 _ _ _ _ ?_
  simp only [LCM, B2, Bool.not_eq_false, Bool.not_eq_true, decide_eq_true_eq, decide_eq_false_iff_not, Int.not_lt, Int.not_le, CST, TN, WX, WA, WB, GS, LOC, BT163h, SP163h, CLS, FLD, ARR, CD, true_and, and_true, and_self, forall_const, true_implies, false_implies, implies_true, not_true_eq_false, not_false_eq_true, if_true, if_false, rgI, rgL, scr, swl, lkl, cats, cat, is2, List.drop_succ_cons, List.drop_zero, List.drop_nil, List.cons_append, List.nil_append, Option.toList_some, Option.toList_none, List.length_cons, List.length_nil, ne_eq, Classical.not_not, reduceCtorEq, Nat.reduceAdd, Nat.reduceSub, Nat.reduceMul, Nat.reduceLT, Nat.reduceLeDiff, Nat.reduceEqDiff, Nat.reduceBEq, Int.reduceToNat, Int.reduceLE, Int.reduceLT, Int.reduceEq, Int.reduceNeg, Int.reduceAdd, Int.reduceSub, Int.reduceMul, Int.toNat_natCast, Nat.zero_add, Int.add_zero, Nat.add_zero, ite_true, ite_false, Option.some.injEq, Nat.le_refl, or_true, true_or, or_false, false_or, if_pos, reduceIte, Nat.reduceGT, Int.lt_irrefl, hL1, hLa, hLb, hia, hib]
  exact ⟨fun _ => ⟨rfl, hc, hs⟩, fun h => by omega⟩
theorem lw_nx {S : Nat → KK} {L c s : Nat} {xs : Nat → Int} (hS : Clo (Run 9) 163 (some (L, xs)) 600000 7302250 RtL S) (hxs : ∀ j, rgI (xs j)) (hL : L ≤ 3072) (hc : c ≤ 600000) (hs : s ≤ 7302250) (i : Nat) (M : MM) (nx : S 18 [some (vR scr), some (vR 0), some (vR 55), some (vI ((i : Int) + 6))] [] (sh0, c, s) M) : S 1341 [some (vR scr), some (vR 0), some (vR 55), some (vI i)] [] (sh0, c, s) M := by
  refine wpx_ok hS bk163h (sp := sp163h) 60 1341 _ _ _ _ ?_
  simp only [LCM, B2, Bool.not_eq_false, Bool.not_eq_true, decide_eq_true_eq, decide_eq_false_iff_not, Int.not_lt, Int.not_le, CST, TN, WX, WA, WB, GS, LOC, BT163h, SP163h, CLS, FLD, ARR, CD, true_and, and_true, and_self, forall_const, true_implies, false_implies, implies_true, not_true_eq_false, not_false_eq_true, if_true, if_false, rgI, rgL, scr, swl, lkl, cats, cat, is2, List.drop_succ_cons, List.drop_zero, List.drop_nil, List.cons_append, List.nil_append, Option.toList_some, Option.toList_none, List.length_cons, List.length_nil, ne_eq, Classical.not_not, reduceCtorEq, Nat.reduceAdd, Nat.reduceSub, Nat.reduceMul, Nat.reduceLT, Nat.reduceLeDiff, Nat.reduceEqDiff, Nat.reduceBEq, Int.reduceToNat, Int.reduceLE, Int.reduceLT, Int.reduceEq, Int.reduceNeg, Int.reduceAdd, Int.reduceSub, Int.reduceMul, Int.toNat_natCast, Nat.zero_add, Int.add_zero, Nat.add_zero, ite_true, ite_false, Option.some.injEq, Nat.le_refl, or_true, true_or, or_false, false_or, if_pos, reduceIte, Nat.reduceGT, Int.lt_irrefl]
  exact nx
theorem lw_step {S : Nat → KK} {L c s : Nat} {xs : Nat → Int} (hS : Clo (Run 9) 163 (some (L, xs)) 600000 7302250 RtL S) (hxs : ∀ j, rgI (xs j)) (hL : L ≤ 3072) (hc : c ≤ 600000) (hs : s ≤ 7302250) (i : Nat) (hi : i + 6 ≤ L) (M : MM) (hI : INV M) (nx : ∀ M', INV M' → S 18 [some (vR scr), some (vR 0), some (vR 55), some (vI ((i : Int) + 6))] [] (sh0, c, s) M') : S 18 [some (vR scr), some (vR 0), some (vR 55), some (vI i)] [] (sh0, c, s) M := by
  have hL1 : L ≤ 100000 := by omega
  have hLa : -2147483648 ≤ (L : Int) - 6 := by omega
  have hLb : (L : Int) - 6 ≤ 2147483647 := by omega
  have hia : -2147483648 ≤ (i : Int) := by omega
  have hib : (i : Int) ≤ 2147483647 := by omega
  have hi0 : 0 ≤ (i : Int) := by omega
  have hi1 : (i : Int) < L := by omega
  have hb1 := (bAnd_rg (xs i) 31).1
  have hb2 := (bAnd_rg (xs i) 31).2
  have n1 : ∀ M', INV M' → S 1341 [some (vR scr), some (vR 0), some (vR 55), some (vI i)] [] (sh0, c, s) M' := fun M' h => lw_nx hS hxs hL hc hs i M' (nx M' h)
  refine wpx_ok hS bk163h (sp := sp163h) 60 18 _ _ _ _ ?_
  simp only [LCM, B2, Bool.not_eq_false, Bool.not_eq_true, decide_eq_true_eq, decide_eq_false_iff_not, Int.not_lt, Int.not_le, CST, TN, WX, WA, WB, GS, LOC, BT163h, SP163h, CLS, FLD, ARR, CD, true_and, and_true, and_self, forall_const, true_implies, false_implies, implies_true, not_true_eq_false, not_false_eq_true, if_true, if_false, rgI, rgL, scr, swl, lkl, cats, cat, is2, List.drop_succ_cons, List.drop_zero, List.drop_nil, List.cons_append, List.nil_append, Option.toList_some, Option.toList_none, List.length_cons, List.length_nil, ne_eq, Classical.not_not, reduceCtorEq, Nat.reduceAdd, Nat.reduceSub, Nat.reduceMul, Nat.reduceLT, Nat.reduceLeDiff, Nat.reduceEqDiff, Nat.reduceBEq, Int.reduceToNat, Int.reduceLE, Int.reduceLT, Int.reduceEq, Int.reduceNeg, Int.reduceAdd, Int.reduceSub, Int.reduceMul, Int.toNat_natCast, Nat.zero_add, Int.add_zero, Nat.add_zero, ite_true, ite_false, Option.some.injEq, Nat.le_refl, or_true, true_or, or_false, false_or, if_pos, reduceIte, Nat.reduceGT, Int.lt_irrefl, hL1, hLa, hLb, hia, hib, hi0, hi1, hb1, hb2]
  refine ⟨fun h => by omega, fun _ => ⟨fun _ => n1 M hI, fun _ => lc_0 hS hxs hL hc hs i hi M hI n1, fun _ => lc_1 hS hxs hL hc hs i hi M hI n1, fun _ => lc_2 hS hxs hL hc hs i hi M hI n1, fun _ => lc_3 hS hxs hL hc hs i hi M hI n1, fun _ => lc_4 hS hxs hL hc hs i hi M hI n1, fun _ => lc_5 hS hxs hL hc hs i hi M hI n1, fun _ => lc_6 hS hxs hL hc hs i hi M hI n1, fun _ => lc_7 hS hxs hL hc hs i hi M hI n1, fun _ => lc_8 hS hxs hL hc hs i hi M hI n1, fun _ => lc_9 hS hxs hL hc hs i hi M hI n1, fun _ => lc_10 hS hxs hL hc hs i hi M hI n1, fun _ => lc_11 hS hxs hL hc hs i hi M hI n1, fun _ => lc_12 hS hxs hL hc hs i hi M hI n1, fun _ => lc_13 hS hxs hL hc hs i hi M hI n1, fun _ => lc_14 hS hxs hL hc hs i hi M hI n1, fun _ => lc_15 hS hxs hL hc hs i hi M hI n1, fun _ => lc_16 hS hxs hL hc hs i hi M hI n1, fun _ => lc_17 hS hxs hL hc hs i hi M hI n1, fun _ => lc_18 hS hxs hL hc hs i hi M hI n1, fun _ => lc_19 hS hxs hL hc hs i hi M hI n1, fun _ => lc_20 hS hxs hL hc hs i hi M hI n1, fun _ => lc_21 hS hxs hL hc hs i hi M hI n1, fun _ => lc_22 hS hxs hL hc hs i hi M hI n1, fun _ => lc_23 hS hxs hL hc hs i hi M hI n1, fun _ => lc_24 hS hxs hL hc hs i hi M hI n1, fun _ => lc_25 hS hxs hL hc hs i hi M hI n1, fun _ => lc_26 hS hxs hL hc hs i hi M hI n1, fun _ => lc_27 hS hxs hL hc hs i hi M hI n1⟩⟩
theorem lw_loop {S : Nat → KK} {L c s : Nat} {xs : Nat → Int} (hS : Clo (Run 9) 163 (some (L, xs)) 600000 7302250 RtL S) (hxs : ∀ j, rgI (xs j)) (hL : L ≤ 3072) (hc : c ≤ 600000) (hs : s ≤ 7302250) : ∀ (m i : Nat) (M : MM), INV M → L < i + m → i ≤ L + 6 → S 18 [some (vR scr), some (vR 0), some (vR 55), some (vI i)] [] (sh0, c, s) M := by
  intro m
  induction m with
  | zero => intro i M hI hm h6; exact lw_end hS hxs hL hc hs i (by omega) (by omega) M
  | succ m ih =>
    intro i M hI hm h6
    by_cases h : i + 6 ≤ L
    · refine lw_step hS hxs hL hc hs i h M hI (fun M' h' => ?_)
      have := ih (i + 6) M' h' (by omega) (by omega)
      rw [show ((i + 6 : Nat) : Int) = (i : Int) + 6 by omega] at this
      exact this
    · exact lw_end hS hxs hL hc hs i (by omega) (by omega) M

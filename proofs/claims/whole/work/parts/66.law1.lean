/-! the law's loop -/
theorem lOr_rg (x y : Int) : rgL (lOr x y) := by
  unfold lOr rgL
  have h1 := (jN x ||| jN y).toInt_lt
  have h2 := (jN x ||| jN y).le_toInt
  omega
theorem kW {d' y n f pc c s mc ms : Nat} {X : XX} {args st rest : List AV} {ls : AL} {M : MM} {S : Nat → KK} {Rt : RR} {bt : Nat → BL} {sp : Nat → Bool} {Q : Option AV → MM → Prop} (hc : oQ d' y args M Q) (hd : d' ≤ 9) (hargs : (st.take n).reverse = args) (hrest : st.drop n = rest) (hn : n ≤ st.length) (hcat : cats rest ≤ 8) (hsp : sp pc = true) (h1 : c ≤ mc) (h2 : s ≤ ms) (hk : ∀ r M', Q r M' → S pc ls (r.toList ++ rest) (sh0, c, s) M') :
    wpc (Run 9) mc ms y n (wpl (Run 9) X mc ms (fun t => cond (sp t) (S t) (wpx (Run 9) X mc ms S Rt bt sp f t)) Rt [] pc) ls st (sh0, c, s) M := by
  subst hargs
  subst hrest
  refine ⟨hn, hcat, 0, 0, h1, h2, Run.mono d' 9 hd hc (fun r sh M' h => ?_)⟩
  obtain ⟨rfl, h⟩ := h
  refine ⟨Or.inl rfl, ?_⟩
  show cond (sp pc) (S pc) _ ls _ _ _
  rw [hsp]
  exact hk r M' h
def bt163c0 (pc : Nat) : BL := if pc = 160 then [(.aload 1, 0, 1), (.aload 0, 0, 1), (.iload 3, 0, 1), (.iconst 1, 0, 1), (.iadd, 0, 1), (.iaload, 0, 1), (.aload 0, 0, 1), (.iload 3, 0, 1), (.iconst 2, 0, 1), (.iadd, 0, 1), (.iaload, 0, 1), (.i2l, 0, 1), (.iconst 32, 0, 2), (.lshl, 0, 1), (.aload 0, 0, 1), (.iload 3, 0, 1), (.iconst 3, 0, 1), (.iadd, 0, 1), (.iaload, 0, 1), (.i2l, 0, 1), (.ldc2_w 0, 4294967295, 3), (.land, 0, 1), (.lor, 0, 1), (.invokevirtual 44, 3, 3)] else if pc = 189 then [(.aload 2, 0, 1), (.aload 0, 0, 1), (.iload 3, 0, 1), (.iconst 1, 0, 1), (.iadd, 0, 1), (.iaload, 0, 1), (.aload 0, 0, 1), (.iload 3, 0, 1), (.iconst 2, 0, 1), (.iadd, 0, 1), (.iaload, 0, 1), (.i2l, 0, 1), (.iconst 32, 0, 2), (.lshl, 0, 1), (.aload 0, 0, 1), (.iload 3, 0, 1), (.iconst 3, 0, 1), (.iadd, 0, 1), (.iaload, 0, 1), (.i2l, 0, 1), (.ldc2_w 0, 4294967295, 3), (.land, 0, 1), (.lor, 0, 1), (.invokevirtual 103, 3, 3)] else if pc = 218 then [(.if_icmp .eq 1341, 0, 3)] else if pc = 221 then [(.iconst 0, 0, 1), (.ireturn, 0, 1)] else []
def sp163c0 (pc : Nat) : Bool := [189, 218, 1341].contains pc
theorem BT163c0 : bt163c0 160 = [(.aload 1, 0, 1), (.aload 0, 0, 1), (.iload 3, 0, 1), (.iconst 1, 0, 1), (.iadd, 0, 1), (.iaload, 0, 1), (.aload 0, 0, 1), (.iload 3, 0, 1), (.iconst 2, 0, 1), (.iadd, 0, 1), (.iaload, 0, 1), (.i2l, 0, 1), (.iconst 32, 0, 2), (.lshl, 0, 1), (.aload 0, 0, 1), (.iload 3, 0, 1), (.iconst 3, 0, 1), (.iadd, 0, 1), (.iaload, 0, 1), (.i2l, 0, 1), (.ldc2_w 0, 4294967295, 3), (.land, 0, 1), (.lor, 0, 1), (.invokevirtual 44, 3, 3)] ∧ bt163c0 189 = [(.aload 2, 0, 1), (.aload 0, 0, 1), (.iload 3, 0, 1), (.iconst 1, 0, 1), (.iadd, 0, 1), (.iaload, 0, 1), (.aload 0, 0, 1), (.iload 3, 0, 1), (.iconst 2, 0, 1), (.iadd, 0, 1), (.iaload, 0, 1), (.i2l, 0, 1), (.iconst 32, 0, 2), (.lshl, 0, 1), (.aload 0, 0, 1), (.iload 3, 0, 1), (.iconst 3, 0, 1), (.iadd, 0, 1), (.iaload, 0, 1), (.i2l, 0, 1), (.ldc2_w 0, 4294967295, 3), (.land, 0, 1), (.lor, 0, 1), (.invokevirtual 103, 3, 3)] ∧ bt163c0 218 = [(.if_icmp .eq 1341, 0, 3)] ∧ bt163c0 221 = [(.iconst 0, 0, 1), (.ireturn, 0, 1)] ∧ True := ⟨rfl, rfl, rfl, rfl, trivial⟩
theorem SP163c0 : sp163c0 160 = false ∧ sp163c0 189 = true ∧ sp163c0 218 = true ∧ sp163c0 221 = false ∧ sp163c0 1341 = true ∧ True := ⟨rfl, rfl, rfl, rfl, rfl, trivial⟩
set_option maxRecDepth 100000 in
theorem bk163c0 : ∀ pc, blk 163 pc (bt163c0 pc) = true := fun pc => blk_if (by decide +kernel) (blk_if (by decide +kernel) (blk_if (by decide +kernel) (blk_if (by decide +kernel) (rfl))))
theorem lc_0 {S : Nat → KK} {L c s : Nat} {xs : Nat → Int} (hS : Clo (Run 9) 163 (some (L, xs)) 600000 7302250 RtL S) (hxs : ∀ j, rgI (xs j)) (hL : L ≤ 3072) (hc : c ≤ 600000) (hs : s ≤ 7302250) (i : Nat) (hi : i + 6 ≤ L) (M : MM) (hI : INV M) (nx : ∀ M', INV M' → S 1341 [some (vR scr), some (vR 0), some (vR 55), some (vI i)] [] (sh0, c, s) M') : S 160 [some (vR scr), some (vR 0), some (vR 55), some (vI i)] [] (sh0, c, s) M := by
  have hx1 : ∀ j, -2147483648 ≤ xs j := fun j => (hxs j).1
  have hx2 : ∀ j, xs j ≤ 2147483647 := fun j => (hxs j).2
  have hL1 : L ≤ 100000 := by omega
  have f1 : 0 ≤ (i : Int) + 1 := by omega
  have g1 : (i : Int) + 1 < L := by omega
  have t1 : ((i : Int) + 1).toNat = i + 1 := by omega
  have f2 : 0 ≤ (i : Int) + 2 := by omega
  have g2 : (i : Int) + 2 < L := by omega
  have t2 : ((i : Int) + 2).toNat = i + 2 := by omega
  have f3 : 0 ≤ (i : Int) + 3 := by omega
  have g3 : (i : Int) + 3 < L := by omega
  have t3 : ((i : Int) + 3).toNat = i + 3 := by omega
  have f4 : 0 ≤ (i : Int) + 4 := by omega
  have g4 : (i : Int) + 4 < L := by omega
  have t4 : ((i : Int) + 4).toNat = i + 4 := by omega
  have f5 : 0 ≤ (i : Int) + 5 := by omega
  have g5 : (i : Int) + 5 < L := by omega
  have t5 : ((i : Int) + 5).toNat = i + 5 := by omega
  refine wpx_ok hS bk163c0 (sp := sp163c0) 60 160 _ _ _ _ ?_
  simp only [LCM, B2, Bool.not_eq_false, Bool.not_eq_true, decide_eq_true_eq, decide_eq_false_iff_not, Int.not_lt, Int.not_le, CST, TN, WX, WA, WB, GS, LOC, BT163c0, SP163c0, CLS, FLD, ARR, CD, true_and, and_true, and_self, forall_const, true_implies, false_implies, implies_true, not_true_eq_false, not_false_eq_true, if_true, if_false, rgI, rgL, scr, swl, lkl, cats, cat, is2, List.drop_succ_cons, List.drop_zero, List.drop_nil, List.cons_append, List.nil_append, Option.toList_some, Option.toList_none, List.length_cons, List.length_nil, ne_eq, Classical.not_not, reduceCtorEq, Nat.reduceAdd, Nat.reduceSub, Nat.reduceMul, Nat.reduceLT, Nat.reduceLeDiff, Nat.reduceEqDiff, Nat.reduceBEq, Int.reduceToNat, Int.reduceLE, Int.reduceLT, Int.reduceEq, Int.reduceNeg, Int.reduceAdd, Int.reduceSub, Int.reduceMul, Int.toNat_natCast, Nat.zero_add, Int.add_zero, Nat.add_zero, ite_true, ite_false, Option.some.injEq, Nat.le_refl, or_true, true_or, or_false, false_or, if_pos, reduceIte, Nat.reduceGT, Int.lt_irrefl, hx1, hx2, hL1, f1, g1, t1, f2, g2, t2, f3, g3, t3, f4, g4, t4, f5, g5, t5]
  refine ⟨rcv_ok rfl own44 rfl, kW (p_write (xs (i + 1)) (lOr (lShl (xs (i + 2)) 32) (lAnd (xs (i + 3)) 4294967295)) (hxs _) M hI) (Nat.le_of_ble_eq_true rfl) rfl rfl (Nat.le_of_ble_eq_true rfl) (Nat.le_of_ble_eq_true rfl) rfl hc hs ?_⟩
  rintro r M1 ⟨v, rfl, hv, hz⟩
  have hv1 := hv.1
  have hv2 := hv.2
  show S 189 _ [Sum.inl v] _ M1
  refine wpx_ok hS bk163c0 (sp := sp163c0) 60 189 _ _ _ _ ?_
  simp only [LCM, B2, Bool.not_eq_false, Bool.not_eq_true, decide_eq_true_eq, decide_eq_false_iff_not, Int.not_lt, Int.not_le, CST, TN, WX, WA, WB, GS, LOC, BT163c0, SP163c0, CLS, FLD, ARR, CD, true_and, and_true, and_self, forall_const, true_implies, false_implies, implies_true, not_true_eq_false, not_false_eq_true, if_true, if_false, rgI, rgL, scr, swl, lkl, cats, cat, is2, List.drop_succ_cons, List.drop_zero, List.drop_nil, List.cons_append, List.nil_append, Option.toList_some, Option.toList_none, List.length_cons, List.length_nil, ne_eq, Classical.not_not, reduceCtorEq, Nat.reduceAdd, Nat.reduceSub, Nat.reduceMul, Nat.reduceLT, Nat.reduceLeDiff, Nat.reduceEqDiff, Nat.reduceBEq, Int.reduceToNat, Int.reduceLE, Int.reduceLT, Int.reduceEq, Int.reduceNeg, Int.reduceAdd, Int.reduceSub, Int.reduceMul, Int.toNat_natCast, Nat.zero_add, Int.add_zero, Nat.add_zero, ite_true, ite_false, Option.some.injEq, Nat.le_refl, or_true, true_or, or_false, false_or, if_pos, reduceIte, Nat.reduceGT, Int.lt_irrefl, hx1, hx2, hL1, f1, g1, t1, f2, g2, t2, f3, g3, t3, f4, g4, t4, f5, g5, t5]
  refine ⟨rcv_ok rfl own103 rfl, kW hz (Nat.le_of_ble_eq_true rfl) rfl rfl (Nat.le_of_ble_eq_true rfl) (Nat.le_of_ble_eq_true rfl) rfl hc hs ?_⟩
  rintro r2 M2 ⟨rfl, hI2⟩
  show S 218 _ [Sum.inl v, Sum.inl v] _ M2
  refine wpx_ok hS bk163c0 (sp := sp163c0) 60 218 _ _ _ _ ?_
  simp only [LCM, B2, Bool.not_eq_false, Bool.not_eq_true, decide_eq_true_eq, decide_eq_false_iff_not, Int.not_lt, Int.not_le, CST, TN, WX, WA, WB, GS, LOC, BT163c0, SP163c0, CLS, FLD, ARR, CD, true_and, and_true, and_self, forall_const, true_implies, false_implies, implies_true, not_true_eq_false, not_false_eq_true, if_true, if_false, rgI, rgL, scr, swl, lkl, cats, cat, is2, List.drop_succ_cons, List.drop_zero, List.drop_nil, List.cons_append, List.nil_append, Option.toList_some, Option.toList_none, List.length_cons, List.length_nil, ne_eq, Classical.not_not, reduceCtorEq, Nat.reduceAdd, Nat.reduceSub, Nat.reduceMul, Nat.reduceLT, Nat.reduceLeDiff, Nat.reduceEqDiff, Nat.reduceBEq, Int.reduceToNat, Int.reduceLE, Int.reduceLT, Int.reduceEq, Int.reduceNeg, Int.reduceAdd, Int.reduceSub, Int.reduceMul, Int.toNat_natCast, Nat.zero_add, Int.add_zero, Nat.add_zero, ite_true, ite_false, Option.some.injEq, Nat.le_refl, or_true, true_or, or_false, false_or, if_pos, reduceIte, Nat.reduceGT, Int.lt_irrefl, hv1, hv2]
  exact nx M2 hI2
def bt163c1 (pc : Nat) : BL := if pc = 223 then [(.aload 1, 0, 1), (.invokevirtual 45, 1, 3)] else if pc = 227 then [(.aload 2, 0, 1), (.invokevirtual 104, 1, 3)] else if pc = 231 then [(.if_icmp .eq 1341, 0, 3)] else if pc = 234 then [(.iconst 0, 0, 1), (.ireturn, 0, 1)] else []
def sp163c1 (pc : Nat) : Bool := [227, 231, 1341].contains pc
theorem BT163c1 : bt163c1 223 = [(.aload 1, 0, 1), (.invokevirtual 45, 1, 3)] ∧ bt163c1 227 = [(.aload 2, 0, 1), (.invokevirtual 104, 1, 3)] ∧ bt163c1 231 = [(.if_icmp .eq 1341, 0, 3)] ∧ bt163c1 234 = [(.iconst 0, 0, 1), (.ireturn, 0, 1)] ∧ True := ⟨rfl, rfl, rfl, rfl, trivial⟩
theorem SP163c1 : sp163c1 223 = false ∧ sp163c1 227 = true ∧ sp163c1 231 = true ∧ sp163c1 234 = false ∧ sp163c1 1341 = true ∧ True := ⟨rfl, rfl, rfl, rfl, rfl, trivial⟩
set_option maxRecDepth 100000 in
theorem bk163c1 : ∀ pc, blk 163 pc (bt163c1 pc) = true := fun pc => blk_if (by decide +kernel) (blk_if (by decide +kernel) (blk_if (by decide +kernel) (blk_if (by decide +kernel) (rfl))))
theorem lc_1 {S : Nat → KK} {L c s : Nat} {xs : Nat → Int} (hS : Clo (Run 9) 163 (some (L, xs)) 600000 7302250 RtL S) (hxs : ∀ j, rgI (xs j)) (hL : L ≤ 3072) (hc : c ≤ 600000) (hs : s ≤ 7302250) (i : Nat) (hi : i + 6 ≤ L) (M : MM) (hI : INV M) (nx : ∀ M', INV M' → S 1341 [some (vR scr), some (vR 0), some (vR 55), some (vI i)] [] (sh0, c, s) M') : S 223 [some (vR scr), some (vR 0), some (vR 55), some (vI i)] [] (sh0, c, s) M := by
  have hx1 : ∀ j, -2147483648 ≤ xs j := fun j => (hxs j).1
  have hx2 : ∀ j, xs j ≤ 2147483647 := fun j => (hxs j).2
  have hL1 : L ≤ 100000 := by omega
  have f1 : 0 ≤ (i : Int) + 1 := by omega
  have g1 : (i : Int) + 1 < L := by omega
  have t1 : ((i : Int) + 1).toNat = i + 1 := by omega
  have f2 : 0 ≤ (i : Int) + 2 := by omega
  have g2 : (i : Int) + 2 < L := by omega
  have t2 : ((i : Int) + 2).toNat = i + 2 := by omega
  have f3 : 0 ≤ (i : Int) + 3 := by omega
  have g3 : (i : Int) + 3 < L := by omega
  have t3 : ((i : Int) + 3).toNat = i + 3 := by omega
  have f4 : 0 ≤ (i : Int) + 4 := by omega
  have g4 : (i : Int) + 4 < L := by omega
  have t4 : ((i : Int) + 4).toNat = i + 4 := by omega
  have f5 : 0 ≤ (i : Int) + 5 := by omega
  have g5 : (i : Int) + 5 < L := by omega
  have t5 : ((i : Int) + 5).toNat = i + 5 := by omega
  refine wpx_ok hS bk163c1 (sp := sp163c1) 60 223 _ _ _ _ ?_
  simp only [LCM, B2, Bool.not_eq_false, Bool.not_eq_true, decide_eq_true_eq, decide_eq_false_iff_not, Int.not_lt, Int.not_le, CST, TN, WX, WA, WB, GS, LOC, BT163c1, SP163c1, CLS, FLD, ARR, CD, true_and, and_true, and_self, forall_const, true_implies, false_implies, implies_true, not_true_eq_false, not_false_eq_true, if_true, if_false, rgI, rgL, scr, swl, lkl, cats, cat, is2, List.drop_succ_cons, List.drop_zero, List.drop_nil, List.cons_append, List.nil_append, Option.toList_some, Option.toList_none, List.length_cons, List.length_nil, ne_eq, Classical.not_not, reduceCtorEq, Nat.reduceAdd, Nat.reduceSub, Nat.reduceMul, Nat.reduceLT, Nat.reduceLeDiff, Nat.reduceEqDiff, Nat.reduceBEq, Int.reduceToNat, Int.reduceLE, Int.reduceLT, Int.reduceEq, Int.reduceNeg, Int.reduceAdd, Int.reduceSub, Int.reduceMul, Int.toNat_natCast, Nat.zero_add, Int.add_zero, Nat.add_zero, ite_true, ite_false, Option.some.injEq, Nat.le_refl, or_true, true_or, or_false, false_or, if_pos, reduceIte, Nat.reduceGT, Int.lt_irrefl, hx1, hx2, hL1, f1, g1, t1, f2, g2, t2, f3, g3, t3, f4, g4, t4, f5, g5, t5]
  refine ⟨rcv_ok rfl own45 rfl, kW (p_wipe M hI) (Nat.le_of_ble_eq_true rfl) rfl rfl (Nat.le_of_ble_eq_true rfl) (Nat.le_of_ble_eq_true rfl) rfl hc hs ?_⟩
  rintro r M1 ⟨v, rfl, hv, hz⟩
  have hv1 := hv.1
  have hv2 := hv.2
  show S 227 _ [Sum.inl v] _ M1
  refine wpx_ok hS bk163c1 (sp := sp163c1) 60 227 _ _ _ _ ?_
  simp only [LCM, B2, Bool.not_eq_false, Bool.not_eq_true, decide_eq_true_eq, decide_eq_false_iff_not, Int.not_lt, Int.not_le, CST, TN, WX, WA, WB, GS, LOC, BT163c1, SP163c1, CLS, FLD, ARR, CD, true_and, and_true, and_self, forall_const, true_implies, false_implies, implies_true, not_true_eq_false, not_false_eq_true, if_true, if_false, rgI, rgL, scr, swl, lkl, cats, cat, is2, List.drop_succ_cons, List.drop_zero, List.drop_nil, List.cons_append, List.nil_append, Option.toList_some, Option.toList_none, List.length_cons, List.length_nil, ne_eq, Classical.not_not, reduceCtorEq, Nat.reduceAdd, Nat.reduceSub, Nat.reduceMul, Nat.reduceLT, Nat.reduceLeDiff, Nat.reduceEqDiff, Nat.reduceBEq, Int.reduceToNat, Int.reduceLE, Int.reduceLT, Int.reduceEq, Int.reduceNeg, Int.reduceAdd, Int.reduceSub, Int.reduceMul, Int.toNat_natCast, Nat.zero_add, Int.add_zero, Nat.add_zero, ite_true, ite_false, Option.some.injEq, Nat.le_refl, or_true, true_or, or_false, false_or, if_pos, reduceIte, Nat.reduceGT, Int.lt_irrefl, hx1, hx2, hL1, f1, g1, t1, f2, g2, t2, f3, g3, t3, f4, g4, t4, f5, g5, t5]
  refine ⟨rcv_ok rfl own104 rfl, kW hz (Nat.le_of_ble_eq_true rfl) rfl rfl (Nat.le_of_ble_eq_true rfl) (Nat.le_of_ble_eq_true rfl) rfl hc hs ?_⟩
  rintro r2 M2 ⟨rfl, hI2⟩
  show S 231 _ [Sum.inl v, Sum.inl v] _ M2
  refine wpx_ok hS bk163c1 (sp := sp163c1) 60 231 _ _ _ _ ?_
  simp only [LCM, B2, Bool.not_eq_false, Bool.not_eq_true, decide_eq_true_eq, decide_eq_false_iff_not, Int.not_lt, Int.not_le, CST, TN, WX, WA, WB, GS, LOC, BT163c1, SP163c1, CLS, FLD, ARR, CD, true_and, and_true, and_self, forall_const, true_implies, false_implies, implies_true, not_true_eq_false, not_false_eq_true, if_true, if_false, rgI, rgL, scr, swl, lkl, cats, cat, is2, List.drop_succ_cons, List.drop_zero, List.drop_nil, List.cons_append, List.nil_append, Option.toList_some, Option.toList_none, List.length_cons, List.length_nil, ne_eq, Classical.not_not, reduceCtorEq, Nat.reduceAdd, Nat.reduceSub, Nat.reduceMul, Nat.reduceLT, Nat.reduceLeDiff, Nat.reduceEqDiff, Nat.reduceBEq, Int.reduceToNat, Int.reduceLE, Int.reduceLT, Int.reduceEq, Int.reduceNeg, Int.reduceAdd, Int.reduceSub, Int.reduceMul, Int.toNat_natCast, Nat.zero_add, Int.add_zero, Nat.add_zero, ite_true, ite_false, Option.some.injEq, Nat.le_refl, or_true, true_or, or_false, false_or, if_pos, reduceIte, Nat.reduceGT, Int.lt_irrefl, hv1, hv2]
  exact nx M2 hI2
def bt163c2 (pc : Nat) : BL := if pc = 236 then [(.aload 1, 0, 1), (.invokevirtual 46, 1, 3)] else if pc = 240 then [(.aload 2, 0, 1), (.invokevirtual 111, 1, 3)] else if pc = 244 then [(.if_icmp .eq 1341, 0, 3)] else if pc = 247 then [(.iconst 0, 0, 1), (.ireturn, 0, 1)] else []
def sp163c2 (pc : Nat) : Bool := [240, 244, 1341].contains pc
theorem BT163c2 : bt163c2 236 = [(.aload 1, 0, 1), (.invokevirtual 46, 1, 3)] ∧ bt163c2 240 = [(.aload 2, 0, 1), (.invokevirtual 111, 1, 3)] ∧ bt163c2 244 = [(.if_icmp .eq 1341, 0, 3)] ∧ bt163c2 247 = [(.iconst 0, 0, 1), (.ireturn, 0, 1)] ∧ True := ⟨rfl, rfl, rfl, rfl, trivial⟩
theorem SP163c2 : sp163c2 236 = false ∧ sp163c2 240 = true ∧ sp163c2 244 = true ∧ sp163c2 247 = false ∧ sp163c2 1341 = true ∧ True := ⟨rfl, rfl, rfl, rfl, rfl, trivial⟩
set_option maxRecDepth 100000 in
theorem bk163c2 : ∀ pc, blk 163 pc (bt163c2 pc) = true := fun pc => blk_if (by decide +kernel) (blk_if (by decide +kernel) (blk_if (by decide +kernel) (blk_if (by decide +kernel) (rfl))))
theorem lc_2 {S : Nat → KK} {L c s : Nat} {xs : Nat → Int} (hS : Clo (Run 9) 163 (some (L, xs)) 600000 7302250 RtL S) (hxs : ∀ j, rgI (xs j)) (hL : L ≤ 3072) (hc : c ≤ 600000) (hs : s ≤ 7302250) (i : Nat) (hi : i + 6 ≤ L) (M : MM) (hI : INV M) (nx : ∀ M', INV M' → S 1341 [some (vR scr), some (vR 0), some (vR 55), some (vI i)] [] (sh0, c, s) M') : S 236 [some (vR scr), some (vR 0), some (vR 55), some (vI i)] [] (sh0, c, s) M := by
  have hx1 : ∀ j, -2147483648 ≤ xs j := fun j => (hxs j).1
  have hx2 : ∀ j, xs j ≤ 2147483647 := fun j => (hxs j).2
  have hL1 : L ≤ 100000 := by omega
  have f1 : 0 ≤ (i : Int) + 1 := by omega
  have g1 : (i : Int) + 1 < L := by omega
  have t1 : ((i : Int) + 1).toNat = i + 1 := by omega
  have f2 : 0 ≤ (i : Int) + 2 := by omega
  have g2 : (i : Int) + 2 < L := by omega
  have t2 : ((i : Int) + 2).toNat = i + 2 := by omega
  have f3 : 0 ≤ (i : Int) + 3 := by omega
  have g3 : (i : Int) + 3 < L := by omega
  have t3 : ((i : Int) + 3).toNat = i + 3 := by omega
  have f4 : 0 ≤ (i : Int) + 4 := by omega
  have g4 : (i : Int) + 4 < L := by omega
  have t4 : ((i : Int) + 4).toNat = i + 4 := by omega
  have f5 : 0 ≤ (i : Int) + 5 := by omega
  have g5 : (i : Int) + 5 < L := by omega
  have t5 : ((i : Int) + 5).toNat = i + 5 := by omega
  refine wpx_ok hS bk163c2 (sp := sp163c2) 60 236 _ _ _ _ ?_
  simp only [LCM, B2, Bool.not_eq_false, Bool.not_eq_true, decide_eq_true_eq, decide_eq_false_iff_not, Int.not_lt, Int.not_le, CST, TN, WX, WA, WB, GS, LOC, BT163c2, SP163c2, CLS, FLD, ARR, CD, true_and, and_true, and_self, forall_const, true_implies, false_implies, implies_true, not_true_eq_false, not_false_eq_true, if_true, if_false, rgI, rgL, scr, swl, lkl, cats, cat, is2, List.drop_succ_cons, List.drop_zero, List.drop_nil, List.cons_append, List.nil_append, Option.toList_some, Option.toList_none, List.length_cons, List.length_nil, ne_eq, Classical.not_not, reduceCtorEq, Nat.reduceAdd, Nat.reduceSub, Nat.reduceMul, Nat.reduceLT, Nat.reduceLeDiff, Nat.reduceEqDiff, Nat.reduceBEq, Int.reduceToNat, Int.reduceLE, Int.reduceLT, Int.reduceEq, Int.reduceNeg, Int.reduceAdd, Int.reduceSub, Int.reduceMul, Int.toNat_natCast, Nat.zero_add, Int.add_zero, Nat.add_zero, ite_true, ite_false, Option.some.injEq, Nat.le_refl, or_true, true_or, or_false, false_or, if_pos, reduceIte, Nat.reduceGT, Int.lt_irrefl, hx1, hx2, hL1, f1, g1, t1, f2, g2, t2, f3, g3, t3, f4, g4, t4, f5, g5, t5]
  refine ⟨rcv_ok rfl own46 rfl, kW (p_fault M hI) (Nat.le_of_ble_eq_true rfl) rfl rfl (Nat.le_of_ble_eq_true rfl) (Nat.le_of_ble_eq_true rfl) rfl hc hs ?_⟩
  rintro r M1 ⟨v, rfl, hv, hz⟩
  have hv1 := hv.1
  have hv2 := hv.2
  show S 240 _ [Sum.inl v] _ M1
  refine wpx_ok hS bk163c2 (sp := sp163c2) 60 240 _ _ _ _ ?_
  simp only [LCM, B2, Bool.not_eq_false, Bool.not_eq_true, decide_eq_true_eq, decide_eq_false_iff_not, Int.not_lt, Int.not_le, CST, TN, WX, WA, WB, GS, LOC, BT163c2, SP163c2, CLS, FLD, ARR, CD, true_and, and_true, and_self, forall_const, true_implies, false_implies, implies_true, not_true_eq_false, not_false_eq_true, if_true, if_false, rgI, rgL, scr, swl, lkl, cats, cat, is2, List.drop_succ_cons, List.drop_zero, List.drop_nil, List.cons_append, List.nil_append, Option.toList_some, Option.toList_none, List.length_cons, List.length_nil, ne_eq, Classical.not_not, reduceCtorEq, Nat.reduceAdd, Nat.reduceSub, Nat.reduceMul, Nat.reduceLT, Nat.reduceLeDiff, Nat.reduceEqDiff, Nat.reduceBEq, Int.reduceToNat, Int.reduceLE, Int.reduceLT, Int.reduceEq, Int.reduceNeg, Int.reduceAdd, Int.reduceSub, Int.reduceMul, Int.toNat_natCast, Nat.zero_add, Int.add_zero, Nat.add_zero, ite_true, ite_false, Option.some.injEq, Nat.le_refl, or_true, true_or, or_false, false_or, if_pos, reduceIte, Nat.reduceGT, Int.lt_irrefl, hx1, hx2, hL1, f1, g1, t1, f2, g2, t2, f3, g3, t3, f4, g4, t4, f5, g5, t5]
  refine ⟨rcv_ok rfl own111 rfl, kW hz (Nat.le_of_ble_eq_true rfl) rfl rfl (Nat.le_of_ble_eq_true rfl) (Nat.le_of_ble_eq_true rfl) rfl hc hs ?_⟩
  rintro r2 M2 ⟨rfl, hI2⟩
  show S 244 _ [Sum.inl v, Sum.inl v] _ M2
  refine wpx_ok hS bk163c2 (sp := sp163c2) 60 244 _ _ _ _ ?_
  simp only [LCM, B2, Bool.not_eq_false, Bool.not_eq_true, decide_eq_true_eq, decide_eq_false_iff_not, Int.not_lt, Int.not_le, CST, TN, WX, WA, WB, GS, LOC, BT163c2, SP163c2, CLS, FLD, ARR, CD, true_and, and_true, and_self, forall_const, true_implies, false_implies, implies_true, not_true_eq_false, not_false_eq_true, if_true, if_false, rgI, rgL, scr, swl, lkl, cats, cat, is2, List.drop_succ_cons, List.drop_zero, List.drop_nil, List.cons_append, List.nil_append, Option.toList_some, Option.toList_none, List.length_cons, List.length_nil, ne_eq, Classical.not_not, reduceCtorEq, Nat.reduceAdd, Nat.reduceSub, Nat.reduceMul, Nat.reduceLT, Nat.reduceLeDiff, Nat.reduceEqDiff, Nat.reduceBEq, Int.reduceToNat, Int.reduceLE, Int.reduceLT, Int.reduceEq, Int.reduceNeg, Int.reduceAdd, Int.reduceSub, Int.reduceMul, Int.toNat_natCast, Nat.zero_add, Int.add_zero, Nat.add_zero, ite_true, ite_false, Option.some.injEq, Nat.le_refl, or_true, true_or, or_false, false_or, if_pos, reduceIte, Nat.reduceGT, Int.lt_irrefl, hv1, hv2]
  exact nx M2 hI2
def bt163c3 (pc : Nat) : BL := if pc = 249 then [(.aload 1, 0, 1), (.invokevirtual 47, 1, 3)] else if pc = 253 then [(.aload 2, 0, 1), (.invokevirtual 112, 1, 3)] else if pc = 257 then [(.if_icmp .eq 1341, 0, 3)] else if pc = 260 then [(.iconst 0, 0, 1), (.ireturn, 0, 1)] else []
def sp163c3 (pc : Nat) : Bool := [253, 257, 1341].contains pc
theorem BT163c3 : bt163c3 249 = [(.aload 1, 0, 1), (.invokevirtual 47, 1, 3)] ∧ bt163c3 253 = [(.aload 2, 0, 1), (.invokevirtual 112, 1, 3)] ∧ bt163c3 257 = [(.if_icmp .eq 1341, 0, 3)] ∧ bt163c3 260 = [(.iconst 0, 0, 1), (.ireturn, 0, 1)] ∧ True := ⟨rfl, rfl, rfl, rfl, trivial⟩
theorem SP163c3 : sp163c3 249 = false ∧ sp163c3 253 = true ∧ sp163c3 257 = true ∧ sp163c3 260 = false ∧ sp163c3 1341 = true ∧ True := ⟨rfl, rfl, rfl, rfl, rfl, trivial⟩
set_option maxRecDepth 100000 in
theorem bk163c3 : ∀ pc, blk 163 pc (bt163c3 pc) = true := fun pc => blk_if (by decide +kernel) (blk_if (by decide +kernel) (blk_if (by decide +kernel) (blk_if (by decide +kernel) (rfl))))
theorem lc_3 {S : Nat → KK} {L c s : Nat} {xs : Nat → Int} (hS : Clo (Run 9) 163 (some (L, xs)) 600000 7302250 RtL S) (hxs : ∀ j, rgI (xs j)) (hL : L ≤ 3072) (hc : c ≤ 600000) (hs : s ≤ 7302250) (i : Nat) (hi : i + 6 ≤ L) (M : MM) (hI : INV M) (nx : ∀ M', INV M' → S 1341 [some (vR scr), some (vR 0), some (vR 55), some (vI i)] [] (sh0, c, s) M') : S 249 [some (vR scr), some (vR 0), some (vR 55), some (vI i)] [] (sh0, c, s) M := by
  have hx1 : ∀ j, -2147483648 ≤ xs j := fun j => (hxs j).1
  have hx2 : ∀ j, xs j ≤ 2147483647 := fun j => (hxs j).2
  have hL1 : L ≤ 100000 := by omega
  have f1 : 0 ≤ (i : Int) + 1 := by omega
  have g1 : (i : Int) + 1 < L := by omega
  have t1 : ((i : Int) + 1).toNat = i + 1 := by omega
  have f2 : 0 ≤ (i : Int) + 2 := by omega
  have g2 : (i : Int) + 2 < L := by omega
  have t2 : ((i : Int) + 2).toNat = i + 2 := by omega
  have f3 : 0 ≤ (i : Int) + 3 := by omega
  have g3 : (i : Int) + 3 < L := by omega
  have t3 : ((i : Int) + 3).toNat = i + 3 := by omega
  have f4 : 0 ≤ (i : Int) + 4 := by omega
  have g4 : (i : Int) + 4 < L := by omega
  have t4 : ((i : Int) + 4).toNat = i + 4 := by omega
  have f5 : 0 ≤ (i : Int) + 5 := by omega
  have g5 : (i : Int) + 5 < L := by omega
  have t5 : ((i : Int) + 5).toNat = i + 5 := by omega
  refine wpx_ok hS bk163c3 (sp := sp163c3) 60 249 _ _ _ _ ?_
  simp only [LCM, B2, Bool.not_eq_false, Bool.not_eq_true, decide_eq_true_eq, decide_eq_false_iff_not, Int.not_lt, Int.not_le, CST, TN, WX, WA, WB, GS, LOC, BT163c3, SP163c3, CLS, FLD, ARR, CD, true_and, and_true, and_self, forall_const, true_implies, false_implies, implies_true, not_true_eq_false, not_false_eq_true, if_true, if_false, rgI, rgL, scr, swl, lkl, cats, cat, is2, List.drop_succ_cons, List.drop_zero, List.drop_nil, List.cons_append, List.nil_append, Option.toList_some, Option.toList_none, List.length_cons, List.length_nil, ne_eq, Classical.not_not, reduceCtorEq, Nat.reduceAdd, Nat.reduceSub, Nat.reduceMul, Nat.reduceLT, Nat.reduceLeDiff, Nat.reduceEqDiff, Nat.reduceBEq, Int.reduceToNat, Int.reduceLE, Int.reduceLT, Int.reduceEq, Int.reduceNeg, Int.reduceAdd, Int.reduceSub, Int.reduceMul, Int.toNat_natCast, Nat.zero_add, Int.add_zero, Nat.add_zero, ite_true, ite_false, Option.some.injEq, Nat.le_refl, or_true, true_or, or_false, false_or, if_pos, reduceIte, Nat.reduceGT, Int.lt_irrefl, hx1, hx2, hL1, f1, g1, t1, f2, g2, t2, f3, g3, t3, f4, g4, t4, f5, g5, t5]
  refine ⟨rcv_ok rfl own47 rfl, kW (p_lay M hI) (Nat.le_of_ble_eq_true rfl) rfl rfl (Nat.le_of_ble_eq_true rfl) (Nat.le_of_ble_eq_true rfl) rfl hc hs ?_⟩
  rintro r M1 ⟨v, rfl, hv, hz⟩
  have hv1 := hv.1
  have hv2 := hv.2
  show S 253 _ [Sum.inl v] _ M1
  refine wpx_ok hS bk163c3 (sp := sp163c3) 60 253 _ _ _ _ ?_
  simp only [LCM, B2, Bool.not_eq_false, Bool.not_eq_true, decide_eq_true_eq, decide_eq_false_iff_not, Int.not_lt, Int.not_le, CST, TN, WX, WA, WB, GS, LOC, BT163c3, SP163c3, CLS, FLD, ARR, CD, true_and, and_true, and_self, forall_const, true_implies, false_implies, implies_true, not_true_eq_false, not_false_eq_true, if_true, if_false, rgI, rgL, scr, swl, lkl, cats, cat, is2, List.drop_succ_cons, List.drop_zero, List.drop_nil, List.cons_append, List.nil_append, Option.toList_some, Option.toList_none, List.length_cons, List.length_nil, ne_eq, Classical.not_not, reduceCtorEq, Nat.reduceAdd, Nat.reduceSub, Nat.reduceMul, Nat.reduceLT, Nat.reduceLeDiff, Nat.reduceEqDiff, Nat.reduceBEq, Int.reduceToNat, Int.reduceLE, Int.reduceLT, Int.reduceEq, Int.reduceNeg, Int.reduceAdd, Int.reduceSub, Int.reduceMul, Int.toNat_natCast, Nat.zero_add, Int.add_zero, Nat.add_zero, ite_true, ite_false, Option.some.injEq, Nat.le_refl, or_true, true_or, or_false, false_or, if_pos, reduceIte, Nat.reduceGT, Int.lt_irrefl, hx1, hx2, hL1, f1, g1, t1, f2, g2, t2, f3, g3, t3, f4, g4, t4, f5, g5, t5]
  refine ⟨rcv_ok rfl own112 rfl, kW hz (Nat.le_of_ble_eq_true rfl) rfl rfl (Nat.le_of_ble_eq_true rfl) (Nat.le_of_ble_eq_true rfl) rfl hc hs ?_⟩
  rintro r2 M2 ⟨rfl, hI2⟩
  show S 257 _ [Sum.inl v, Sum.inl v] _ M2
  refine wpx_ok hS bk163c3 (sp := sp163c3) 60 257 _ _ _ _ ?_
  simp only [LCM, B2, Bool.not_eq_false, Bool.not_eq_true, decide_eq_true_eq, decide_eq_false_iff_not, Int.not_lt, Int.not_le, CST, TN, WX, WA, WB, GS, LOC, BT163c3, SP163c3, CLS, FLD, ARR, CD, true_and, and_true, and_self, forall_const, true_implies, false_implies, implies_true, not_true_eq_false, not_false_eq_true, if_true, if_false, rgI, rgL, scr, swl, lkl, cats, cat, is2, List.drop_succ_cons, List.drop_zero, List.drop_nil, List.cons_append, List.nil_append, Option.toList_some, Option.toList_none, List.length_cons, List.length_nil, ne_eq, Classical.not_not, reduceCtorEq, Nat.reduceAdd, Nat.reduceSub, Nat.reduceMul, Nat.reduceLT, Nat.reduceLeDiff, Nat.reduceEqDiff, Nat.reduceBEq, Int.reduceToNat, Int.reduceLE, Int.reduceLT, Int.reduceEq, Int.reduceNeg, Int.reduceAdd, Int.reduceSub, Int.reduceMul, Int.toNat_natCast, Nat.zero_add, Int.add_zero, Nat.add_zero, ite_true, ite_false, Option.some.injEq, Nat.le_refl, or_true, true_or, or_false, false_or, if_pos, reduceIte, Nat.reduceGT, Int.lt_irrefl, hv1, hv2]
  exact nx M2 hI2
def bt163c4 (pc : Nat) : BL := if pc = 262 then [(.aload 1, 0, 1), (.aload 0, 0, 1), (.iload 3, 0, 1), (.iconst 1, 0, 1), (.iadd, 0, 1), (.iaload, 0, 1), (.aload 0, 0, 1), (.iload 3, 0, 1), (.iconst 2, 0, 1), (.iadd, 0, 1), (.iaload, 0, 1), (.invokevirtual 48, 3, 3)] else if pc = 276 then [(.aload 2, 0, 1), (.aload 0, 0, 1), (.iload 3, 0, 1), (.iconst 1, 0, 1), (.iadd, 0, 1), (.iaload, 0, 1), (.aload 0, 0, 1), (.iload 3, 0, 1), (.iconst 2, 0, 1), (.iadd, 0, 1), (.iaload, 0, 1), (.invokevirtual 116, 3, 3)] else if pc = 290 then [(.if_icmp .eq 1341, 0, 3)] else if pc = 293 then [(.iconst 0, 0, 1), (.ireturn, 0, 1)] else []
def sp163c4 (pc : Nat) : Bool := [276, 290, 1341].contains pc
theorem BT163c4 : bt163c4 262 = [(.aload 1, 0, 1), (.aload 0, 0, 1), (.iload 3, 0, 1), (.iconst 1, 0, 1), (.iadd, 0, 1), (.iaload, 0, 1), (.aload 0, 0, 1), (.iload 3, 0, 1), (.iconst 2, 0, 1), (.iadd, 0, 1), (.iaload, 0, 1), (.invokevirtual 48, 3, 3)] ∧ bt163c4 276 = [(.aload 2, 0, 1), (.aload 0, 0, 1), (.iload 3, 0, 1), (.iconst 1, 0, 1), (.iadd, 0, 1), (.iaload, 0, 1), (.aload 0, 0, 1), (.iload 3, 0, 1), (.iconst 2, 0, 1), (.iadd, 0, 1), (.iaload, 0, 1), (.invokevirtual 116, 3, 3)] ∧ bt163c4 290 = [(.if_icmp .eq 1341, 0, 3)] ∧ bt163c4 293 = [(.iconst 0, 0, 1), (.ireturn, 0, 1)] ∧ True := ⟨rfl, rfl, rfl, rfl, trivial⟩
theorem SP163c4 : sp163c4 262 = false ∧ sp163c4 276 = true ∧ sp163c4 290 = true ∧ sp163c4 293 = false ∧ sp163c4 1341 = true ∧ True := ⟨rfl, rfl, rfl, rfl, rfl, trivial⟩
set_option maxRecDepth 100000 in
theorem bk163c4 : ∀ pc, blk 163 pc (bt163c4 pc) = true := fun pc => blk_if (by decide +kernel) (blk_if (by decide +kernel) (blk_if (by decide +kernel) (blk_if (by decide +kernel) (rfl))))
theorem lc_4 {S : Nat → KK} {L c s : Nat} {xs : Nat → Int} (hS : Clo (Run 9) 163 (some (L, xs)) 600000 7302250 RtL S) (hxs : ∀ j, rgI (xs j)) (hL : L ≤ 3072) (hc : c ≤ 600000) (hs : s ≤ 7302250) (i : Nat) (hi : i + 6 ≤ L) (M : MM) (hI : INV M) (nx : ∀ M', INV M' → S 1341 [some (vR scr), some (vR 0), some (vR 55), some (vI i)] [] (sh0, c, s) M') : S 262 [some (vR scr), some (vR 0), some (vR 55), some (vI i)] [] (sh0, c, s) M := by
  have hx1 : ∀ j, -2147483648 ≤ xs j := fun j => (hxs j).1
  have hx2 : ∀ j, xs j ≤ 2147483647 := fun j => (hxs j).2
  have hL1 : L ≤ 100000 := by omega
  have f1 : 0 ≤ (i : Int) + 1 := by omega
  have g1 : (i : Int) + 1 < L := by omega
  have t1 : ((i : Int) + 1).toNat = i + 1 := by omega
  have f2 : 0 ≤ (i : Int) + 2 := by omega
  have g2 : (i : Int) + 2 < L := by omega
  have t2 : ((i : Int) + 2).toNat = i + 2 := by omega
  have f3 : 0 ≤ (i : Int) + 3 := by omega
  have g3 : (i : Int) + 3 < L := by omega
  have t3 : ((i : Int) + 3).toNat = i + 3 := by omega
  have f4 : 0 ≤ (i : Int) + 4 := by omega
  have g4 : (i : Int) + 4 < L := by omega
  have t4 : ((i : Int) + 4).toNat = i + 4 := by omega
  have f5 : 0 ≤ (i : Int) + 5 := by omega
  have g5 : (i : Int) + 5 < L := by omega
  have t5 : ((i : Int) + 5).toNat = i + 5 := by omega
  refine wpx_ok hS bk163c4 (sp := sp163c4) 60 262 _ _ _ _ ?_
  simp only [LCM, B2, Bool.not_eq_false, Bool.not_eq_true, decide_eq_true_eq, decide_eq_false_iff_not, Int.not_lt, Int.not_le, CST, TN, WX, WA, WB, GS, LOC, BT163c4, SP163c4, CLS, FLD, ARR, CD, true_and, and_true, and_self, forall_const, true_implies, false_implies, implies_true, not_true_eq_false, not_false_eq_true, if_true, if_false, rgI, rgL, scr, swl, lkl, cats, cat, is2, List.drop_succ_cons, List.drop_zero, List.drop_nil, List.cons_append, List.nil_append, Option.toList_some, Option.toList_none, List.length_cons, List.length_nil, ne_eq, Classical.not_not, reduceCtorEq, Nat.reduceAdd, Nat.reduceSub, Nat.reduceMul, Nat.reduceLT, Nat.reduceLeDiff, Nat.reduceEqDiff, Nat.reduceBEq, Int.reduceToNat, Int.reduceLE, Int.reduceLT, Int.reduceEq, Int.reduceNeg, Int.reduceAdd, Int.reduceSub, Int.reduceMul, Int.toNat_natCast, Nat.zero_add, Int.add_zero, Nat.add_zero, ite_true, ite_false, Option.some.injEq, Nat.le_refl, or_true, true_or, or_false, false_or, if_pos, reduceIte, Nat.reduceGT, Int.lt_irrefl, hx1, hx2, hL1, f1, g1, t1, f2, g2, t2, f3, g3, t3, f4, g4, t4, f5, g5, t5]
  refine ⟨rcv_ok rfl own48 rfl, kW (p_house (xs (i + 1)) (xs (i + 2)) (hxs _) (hxs _) M hI) (Nat.le_of_ble_eq_true rfl) rfl rfl (Nat.le_of_ble_eq_true rfl) (Nat.le_of_ble_eq_true rfl) rfl hc hs ?_⟩
  rintro r M1 ⟨v, rfl, hv, hz⟩
  have hv1 := hv.1
  have hv2 := hv.2
  show S 276 _ [Sum.inl v] _ M1
  refine wpx_ok hS bk163c4 (sp := sp163c4) 60 276 _ _ _ _ ?_
  simp only [LCM, B2, Bool.not_eq_false, Bool.not_eq_true, decide_eq_true_eq, decide_eq_false_iff_not, Int.not_lt, Int.not_le, CST, TN, WX, WA, WB, GS, LOC, BT163c4, SP163c4, CLS, FLD, ARR, CD, true_and, and_true, and_self, forall_const, true_implies, false_implies, implies_true, not_true_eq_false, not_false_eq_true, if_true, if_false, rgI, rgL, scr, swl, lkl, cats, cat, is2, List.drop_succ_cons, List.drop_zero, List.drop_nil, List.cons_append, List.nil_append, Option.toList_some, Option.toList_none, List.length_cons, List.length_nil, ne_eq, Classical.not_not, reduceCtorEq, Nat.reduceAdd, Nat.reduceSub, Nat.reduceMul, Nat.reduceLT, Nat.reduceLeDiff, Nat.reduceEqDiff, Nat.reduceBEq, Int.reduceToNat, Int.reduceLE, Int.reduceLT, Int.reduceEq, Int.reduceNeg, Int.reduceAdd, Int.reduceSub, Int.reduceMul, Int.toNat_natCast, Nat.zero_add, Int.add_zero, Nat.add_zero, ite_true, ite_false, Option.some.injEq, Nat.le_refl, or_true, true_or, or_false, false_or, if_pos, reduceIte, Nat.reduceGT, Int.lt_irrefl, hx1, hx2, hL1, f1, g1, t1, f2, g2, t2, f3, g3, t3, f4, g4, t4, f5, g5, t5]
  refine ⟨rcv_ok rfl own116 rfl, kW hz (Nat.le_of_ble_eq_true rfl) rfl rfl (Nat.le_of_ble_eq_true rfl) (Nat.le_of_ble_eq_true rfl) rfl hc hs ?_⟩
  rintro r2 M2 ⟨rfl, hI2⟩
  show S 290 _ [Sum.inl v, Sum.inl v] _ M2
  refine wpx_ok hS bk163c4 (sp := sp163c4) 60 290 _ _ _ _ ?_
  simp only [LCM, B2, Bool.not_eq_false, Bool.not_eq_true, decide_eq_true_eq, decide_eq_false_iff_not, Int.not_lt, Int.not_le, CST, TN, WX, WA, WB, GS, LOC, BT163c4, SP163c4, CLS, FLD, ARR, CD, true_and, and_true, and_self, forall_const, true_implies, false_implies, implies_true, not_true_eq_false, not_false_eq_true, if_true, if_false, rgI, rgL, scr, swl, lkl, cats, cat, is2, List.drop_succ_cons, List.drop_zero, List.drop_nil, List.cons_append, List.nil_append, Option.toList_some, Option.toList_none, List.length_cons, List.length_nil, ne_eq, Classical.not_not, reduceCtorEq, Nat.reduceAdd, Nat.reduceSub, Nat.reduceMul, Nat.reduceLT, Nat.reduceLeDiff, Nat.reduceEqDiff, Nat.reduceBEq, Int.reduceToNat, Int.reduceLE, Int.reduceLT, Int.reduceEq, Int.reduceNeg, Int.reduceAdd, Int.reduceSub, Int.reduceMul, Int.toNat_natCast, Nat.zero_add, Int.add_zero, Nat.add_zero, ite_true, ite_false, Option.some.injEq, Nat.le_refl, or_true, true_or, or_false, false_or, if_pos, reduceIte, Nat.reduceGT, Int.lt_irrefl, hv1, hv2]
  exact nx M2 hI2
def bt163c5 (pc : Nat) : BL := if pc = 295 then [(.aload 1, 0, 1), (.aload 0, 0, 1), (.iload 3, 0, 1), (.iconst 1, 0, 1), (.iadd, 0, 1), (.iaload, 0, 1), (.i2l, 0, 1), (.iconst 32, 0, 2), (.lshl, 0, 1), (.aload 0, 0, 1), (.iload 3, 0, 1), (.iconst 2, 0, 1), (.iadd, 0, 1), (.iaload, 0, 1), (.i2l, 0, 1), (.ldc2_w 0, 4294967295, 3), (.land, 0, 1), (.lor, 0, 1), (.invokevirtual 49, 2, 3)] else if pc = 319 then [(.aload 2, 0, 1), (.aload 0, 0, 1), (.iload 3, 0, 1), (.iconst 1, 0, 1), (.iadd, 0, 1), (.iaload, 0, 1), (.i2l, 0, 1), (.iconst 32, 0, 2), (.lshl, 0, 1), (.aload 0, 0, 1), (.iload 3, 0, 1), (.iconst 2, 0, 1), (.iadd, 0, 1), (.iaload, 0, 1), (.i2l, 0, 1), (.ldc2_w 0, 4294967295, 3), (.land, 0, 1), (.lor, 0, 1), (.invokevirtual 123, 2, 3)] else if pc = 343 then [(.if_icmp .eq 1341, 0, 3)] else if pc = 346 then [(.iconst 0, 0, 1), (.ireturn, 0, 1)] else []
def sp163c5 (pc : Nat) : Bool := [319, 343, 1341].contains pc
theorem BT163c5 : bt163c5 295 = [(.aload 1, 0, 1), (.aload 0, 0, 1), (.iload 3, 0, 1), (.iconst 1, 0, 1), (.iadd, 0, 1), (.iaload, 0, 1), (.i2l, 0, 1), (.iconst 32, 0, 2), (.lshl, 0, 1), (.aload 0, 0, 1), (.iload 3, 0, 1), (.iconst 2, 0, 1), (.iadd, 0, 1), (.iaload, 0, 1), (.i2l, 0, 1), (.ldc2_w 0, 4294967295, 3), (.land, 0, 1), (.lor, 0, 1), (.invokevirtual 49, 2, 3)] ∧ bt163c5 319 = [(.aload 2, 0, 1), (.aload 0, 0, 1), (.iload 3, 0, 1), (.iconst 1, 0, 1), (.iadd, 0, 1), (.iaload, 0, 1), (.i2l, 0, 1), (.iconst 32, 0, 2), (.lshl, 0, 1), (.aload 0, 0, 1), (.iload 3, 0, 1), (.iconst 2, 0, 1), (.iadd, 0, 1), (.iaload, 0, 1), (.i2l, 0, 1), (.ldc2_w 0, 4294967295, 3), (.land, 0, 1), (.lor, 0, 1), (.invokevirtual 123, 2, 3)] ∧ bt163c5 343 = [(.if_icmp .eq 1341, 0, 3)] ∧ bt163c5 346 = [(.iconst 0, 0, 1), (.ireturn, 0, 1)] ∧ True := ⟨rfl, rfl, rfl, rfl, trivial⟩
theorem SP163c5 : sp163c5 295 = false ∧ sp163c5 319 = true ∧ sp163c5 343 = true ∧ sp163c5 346 = false ∧ sp163c5 1341 = true ∧ True := ⟨rfl, rfl, rfl, rfl, rfl, trivial⟩
set_option maxRecDepth 100000 in
theorem bk163c5 : ∀ pc, blk 163 pc (bt163c5 pc) = true := fun pc => blk_if (by decide +kernel) (blk_if (by decide +kernel) (blk_if (by decide +kernel) (blk_if (by decide +kernel) (rfl))))
theorem lc_5 {S : Nat → KK} {L c s : Nat} {xs : Nat → Int} (hS : Clo (Run 9) 163 (some (L, xs)) 600000 7302250 RtL S) (hxs : ∀ j, rgI (xs j)) (hL : L ≤ 3072) (hc : c ≤ 600000) (hs : s ≤ 7302250) (i : Nat) (hi : i + 6 ≤ L) (M : MM) (hI : INV M) (nx : ∀ M', INV M' → S 1341 [some (vR scr), some (vR 0), some (vR 55), some (vI i)] [] (sh0, c, s) M') : S 295 [some (vR scr), some (vR 0), some (vR 55), some (vI i)] [] (sh0, c, s) M := by
  have hx1 : ∀ j, -2147483648 ≤ xs j := fun j => (hxs j).1
  have hx2 : ∀ j, xs j ≤ 2147483647 := fun j => (hxs j).2
  have hL1 : L ≤ 100000 := by omega
  have f1 : 0 ≤ (i : Int) + 1 := by omega
  have g1 : (i : Int) + 1 < L := by omega
  have t1 : ((i : Int) + 1).toNat = i + 1 := by omega
  have f2 : 0 ≤ (i : Int) + 2 := by omega
  have g2 : (i : Int) + 2 < L := by omega
  have t2 : ((i : Int) + 2).toNat = i + 2 := by omega
  have f3 : 0 ≤ (i : Int) + 3 := by omega
  have g3 : (i : Int) + 3 < L := by omega
  have t3 : ((i : Int) + 3).toNat = i + 3 := by omega
  have f4 : 0 ≤ (i : Int) + 4 := by omega
  have g4 : (i : Int) + 4 < L := by omega
  have t4 : ((i : Int) + 4).toNat = i + 4 := by omega
  have f5 : 0 ≤ (i : Int) + 5 := by omega
  have g5 : (i : Int) + 5 < L := by omega
  have t5 : ((i : Int) + 5).toNat = i + 5 := by omega
  refine wpx_ok hS bk163c5 (sp := sp163c5) 60 295 _ _ _ _ ?_
  simp only [LCM, B2, Bool.not_eq_false, Bool.not_eq_true, decide_eq_true_eq, decide_eq_false_iff_not, Int.not_lt, Int.not_le, CST, TN, WX, WA, WB, GS, LOC, BT163c5, SP163c5, CLS, FLD, ARR, CD, true_and, and_true, and_self, forall_const, true_implies, false_implies, implies_true, not_true_eq_false, not_false_eq_true, if_true, if_false, rgI, rgL, scr, swl, lkl, cats, cat, is2, List.drop_succ_cons, List.drop_zero, List.drop_nil, List.cons_append, List.nil_append, Option.toList_some, Option.toList_none, List.length_cons, List.length_nil, ne_eq, Classical.not_not, reduceCtorEq, Nat.reduceAdd, Nat.reduceSub, Nat.reduceMul, Nat.reduceLT, Nat.reduceLeDiff, Nat.reduceEqDiff, Nat.reduceBEq, Int.reduceToNat, Int.reduceLE, Int.reduceLT, Int.reduceEq, Int.reduceNeg, Int.reduceAdd, Int.reduceSub, Int.reduceMul, Int.toNat_natCast, Nat.zero_add, Int.add_zero, Nat.add_zero, ite_true, ite_false, Option.some.injEq, Nat.le_refl, or_true, true_or, or_false, false_or, if_pos, reduceIte, Nat.reduceGT, Int.lt_irrefl, hx1, hx2, hL1, f1, g1, t1, f2, g2, t2, f3, g3, t3, f4, g4, t4, f5, g5, t5]
  refine ⟨rcv_ok rfl own49 rfl, kW (p_up (lOr (lShl (xs (i + 1)) 32) (lAnd (xs (i + 2)) 4294967295)) (lOr_rg _ _) M hI) (Nat.le_of_ble_eq_true rfl) rfl rfl (Nat.le_of_ble_eq_true rfl) (Nat.le_of_ble_eq_true rfl) rfl hc hs ?_⟩
  rintro r M1 ⟨v, rfl, hv, hz⟩
  have hv1 := hv.1
  have hv2 := hv.2
  show S 319 _ [Sum.inl v] _ M1
  refine wpx_ok hS bk163c5 (sp := sp163c5) 60 319 _ _ _ _ ?_
  simp only [LCM, B2, Bool.not_eq_false, Bool.not_eq_true, decide_eq_true_eq, decide_eq_false_iff_not, Int.not_lt, Int.not_le, CST, TN, WX, WA, WB, GS, LOC, BT163c5, SP163c5, CLS, FLD, ARR, CD, true_and, and_true, and_self, forall_const, true_implies, false_implies, implies_true, not_true_eq_false, not_false_eq_true, if_true, if_false, rgI, rgL, scr, swl, lkl, cats, cat, is2, List.drop_succ_cons, List.drop_zero, List.drop_nil, List.cons_append, List.nil_append, Option.toList_some, Option.toList_none, List.length_cons, List.length_nil, ne_eq, Classical.not_not, reduceCtorEq, Nat.reduceAdd, Nat.reduceSub, Nat.reduceMul, Nat.reduceLT, Nat.reduceLeDiff, Nat.reduceEqDiff, Nat.reduceBEq, Int.reduceToNat, Int.reduceLE, Int.reduceLT, Int.reduceEq, Int.reduceNeg, Int.reduceAdd, Int.reduceSub, Int.reduceMul, Int.toNat_natCast, Nat.zero_add, Int.add_zero, Nat.add_zero, ite_true, ite_false, Option.some.injEq, Nat.le_refl, or_true, true_or, or_false, false_or, if_pos, reduceIte, Nat.reduceGT, Int.lt_irrefl, hx1, hx2, hL1, f1, g1, t1, f2, g2, t2, f3, g3, t3, f4, g4, t4, f5, g5, t5]
  refine ⟨rcv_ok rfl own123 rfl, kW hz (Nat.le_of_ble_eq_true rfl) rfl rfl (Nat.le_of_ble_eq_true rfl) (Nat.le_of_ble_eq_true rfl) rfl hc hs ?_⟩
  rintro r2 M2 ⟨rfl, hI2⟩
  show S 343 _ [Sum.inl v, Sum.inl v] _ M2
  refine wpx_ok hS bk163c5 (sp := sp163c5) 60 343 _ _ _ _ ?_
  simp only [LCM, B2, Bool.not_eq_false, Bool.not_eq_true, decide_eq_true_eq, decide_eq_false_iff_not, Int.not_lt, Int.not_le, CST, TN, WX, WA, WB, GS, LOC, BT163c5, SP163c5, CLS, FLD, ARR, CD, true_and, and_true, and_self, forall_const, true_implies, false_implies, implies_true, not_true_eq_false, not_false_eq_true, if_true, if_false, rgI, rgL, scr, swl, lkl, cats, cat, is2, List.drop_succ_cons, List.drop_zero, List.drop_nil, List.cons_append, List.nil_append, Option.toList_some, Option.toList_none, List.length_cons, List.length_nil, ne_eq, Classical.not_not, reduceCtorEq, Nat.reduceAdd, Nat.reduceSub, Nat.reduceMul, Nat.reduceLT, Nat.reduceLeDiff, Nat.reduceEqDiff, Nat.reduceBEq, Int.reduceToNat, Int.reduceLE, Int.reduceLT, Int.reduceEq, Int.reduceNeg, Int.reduceAdd, Int.reduceSub, Int.reduceMul, Int.toNat_natCast, Nat.zero_add, Int.add_zero, Nat.add_zero, ite_true, ite_false, Option.some.injEq, Nat.le_refl, or_true, true_or, or_false, false_or, if_pos, reduceIte, Nat.reduceGT, Int.lt_irrefl, hv1, hv2]
  exact nx M2 hI2
def bt163c6 (pc : Nat) : BL := if pc = 348 then [(.aload 1, 0, 1), (.aload 0, 0, 1), (.iload 3, 0, 1), (.iconst 1, 0, 1), (.iadd, 0, 1), (.iaload, 0, 1), (.aload 0, 0, 1), (.iload 3, 0, 1), (.iconst 2, 0, 1), (.iadd, 0, 1), (.iaload, 0, 1), (.i2l, 0, 1), (.iconst 32, 0, 2), (.lshl, 0, 1), (.aload 0, 0, 1), (.iload 3, 0, 1), (.iconst 3, 0, 1), (.iadd, 0, 1), (.iaload, 0, 1), (.i2l, 0, 1), (.ldc2_w 0, 4294967295, 3), (.land, 0, 1), (.lor, 0, 1), (.invokevirtual 50, 3, 3)] else if pc = 377 then [(.aload 2, 0, 1), (.aload 0, 0, 1), (.iload 3, 0, 1), (.iconst 1, 0, 1), (.iadd, 0, 1), (.iaload, 0, 1), (.aload 0, 0, 1), (.iload 3, 0, 1), (.iconst 2, 0, 1), (.iadd, 0, 1), (.iaload, 0, 1), (.i2l, 0, 1), (.iconst 32, 0, 2), (.lshl, 0, 1), (.aload 0, 0, 1), (.iload 3, 0, 1), (.iconst 3, 0, 1), (.iadd, 0, 1), (.iaload, 0, 1), (.i2l, 0, 1), (.ldc2_w 0, 4294967295, 3), (.land, 0, 1), (.lor, 0, 1), (.invokevirtual 124, 3, 3)] else if pc = 406 then [(.if_icmp .eq 1341, 0, 3)] else if pc = 409 then [(.iconst 0, 0, 1), (.ireturn, 0, 1)] else []
def sp163c6 (pc : Nat) : Bool := [377, 406, 1341].contains pc
theorem BT163c6 : bt163c6 348 = [(.aload 1, 0, 1), (.aload 0, 0, 1), (.iload 3, 0, 1), (.iconst 1, 0, 1), (.iadd, 0, 1), (.iaload, 0, 1), (.aload 0, 0, 1), (.iload 3, 0, 1), (.iconst 2, 0, 1), (.iadd, 0, 1), (.iaload, 0, 1), (.i2l, 0, 1), (.iconst 32, 0, 2), (.lshl, 0, 1), (.aload 0, 0, 1), (.iload 3, 0, 1), (.iconst 3, 0, 1), (.iadd, 0, 1), (.iaload, 0, 1), (.i2l, 0, 1), (.ldc2_w 0, 4294967295, 3), (.land, 0, 1), (.lor, 0, 1), (.invokevirtual 50, 3, 3)] ∧ bt163c6 377 = [(.aload 2, 0, 1), (.aload 0, 0, 1), (.iload 3, 0, 1), (.iconst 1, 0, 1), (.iadd, 0, 1), (.iaload, 0, 1), (.aload 0, 0, 1), (.iload 3, 0, 1), (.iconst 2, 0, 1), (.iadd, 0, 1), (.iaload, 0, 1), (.i2l, 0, 1), (.iconst 32, 0, 2), (.lshl, 0, 1), (.aload 0, 0, 1), (.iload 3, 0, 1), (.iconst 3, 0, 1), (.iadd, 0, 1), (.iaload, 0, 1), (.i2l, 0, 1), (.ldc2_w 0, 4294967295, 3), (.land, 0, 1), (.lor, 0, 1), (.invokevirtual 124, 3, 3)] ∧ bt163c6 406 = [(.if_icmp .eq 1341, 0, 3)] ∧ bt163c6 409 = [(.iconst 0, 0, 1), (.ireturn, 0, 1)] ∧ True := ⟨rfl, rfl, rfl, rfl, trivial⟩
theorem SP163c6 : sp163c6 348 = false ∧ sp163c6 377 = true ∧ sp163c6 406 = true ∧ sp163c6 409 = false ∧ sp163c6 1341 = true ∧ True := ⟨rfl, rfl, rfl, rfl, rfl, trivial⟩
set_option maxRecDepth 100000 in
theorem bk163c6 : ∀ pc, blk 163 pc (bt163c6 pc) = true := fun pc => blk_if (by decide +kernel) (blk_if (by decide +kernel) (blk_if (by decide +kernel) (blk_if (by decide +kernel) (rfl))))
theorem lc_6 {S : Nat → KK} {L c s : Nat} {xs : Nat → Int} (hS : Clo (Run 9) 163 (some (L, xs)) 600000 7302250 RtL S) (hxs : ∀ j, rgI (xs j)) (hL : L ≤ 3072) (hc : c ≤ 600000) (hs : s ≤ 7302250) (i : Nat) (hi : i + 6 ≤ L) (M : MM) (hI : INV M) (nx : ∀ M', INV M' → S 1341 [some (vR scr), some (vR 0), some (vR 55), some (vI i)] [] (sh0, c, s) M') : S 348 [some (vR scr), some (vR 0), some (vR 55), some (vI i)] [] (sh0, c, s) M := by
  have hx1 : ∀ j, -2147483648 ≤ xs j := fun j => (hxs j).1
  have hx2 : ∀ j, xs j ≤ 2147483647 := fun j => (hxs j).2
  have hL1 : L ≤ 100000 := by omega
  have f1 : 0 ≤ (i : Int) + 1 := by omega
  have g1 : (i : Int) + 1 < L := by omega
  have t1 : ((i : Int) + 1).toNat = i + 1 := by omega
  have f2 : 0 ≤ (i : Int) + 2 := by omega
  have g2 : (i : Int) + 2 < L := by omega
  have t2 : ((i : Int) + 2).toNat = i + 2 := by omega
  have f3 : 0 ≤ (i : Int) + 3 := by omega
  have g3 : (i : Int) + 3 < L := by omega
  have t3 : ((i : Int) + 3).toNat = i + 3 := by omega
  have f4 : 0 ≤ (i : Int) + 4 := by omega
  have g4 : (i : Int) + 4 < L := by omega
  have t4 : ((i : Int) + 4).toNat = i + 4 := by omega
  have f5 : 0 ≤ (i : Int) + 5 := by omega
  have g5 : (i : Int) + 5 < L := by omega
  have t5 : ((i : Int) + 5).toNat = i + 5 := by omega
  refine wpx_ok hS bk163c6 (sp := sp163c6) 60 348 _ _ _ _ ?_
  simp only [LCM, B2, Bool.not_eq_false, Bool.not_eq_true, decide_eq_true_eq, decide_eq_false_iff_not, Int.not_lt, Int.not_le, CST, TN, WX, WA, WB, GS, LOC, BT163c6, SP163c6, CLS, FLD, ARR, CD, true_and, and_true, and_self, forall_const, true_implies, false_implies, implies_true, not_true_eq_false, not_false_eq_true, if_true, if_false, rgI, rgL, scr, swl, lkl, cats, cat, is2, List.drop_succ_cons, List.drop_zero, List.drop_nil, List.cons_append, List.nil_append, Option.toList_some, Option.toList_none, List.length_cons, List.length_nil, ne_eq, Classical.not_not, reduceCtorEq, Nat.reduceAdd, Nat.reduceSub, Nat.reduceMul, Nat.reduceLT, Nat.reduceLeDiff, Nat.reduceEqDiff, Nat.reduceBEq, Int.reduceToNat, Int.reduceLE, Int.reduceLT, Int.reduceEq, Int.reduceNeg, Int.reduceAdd, Int.reduceSub, Int.reduceMul, Int.toNat_natCast, Nat.zero_add, Int.add_zero, Nat.add_zero, ite_true, ite_false, Option.some.injEq, Nat.le_refl, or_true, true_or, or_false, false_or, if_pos, reduceIte, Nat.reduceGT, Int.lt_irrefl, hx1, hx2, hL1, f1, g1, t1, f2, g2, t2, f3, g3, t3, f4, g4, t4, f5, g5, t5]
  refine ⟨rcv_ok rfl own50 rfl, kW (p_hands (xs (i + 1)) (lOr (lShl (xs (i + 2)) 32) (lAnd (xs (i + 3)) 4294967295)) (hxs _) (lOr_rg _ _) M hI) (Nat.le_of_ble_eq_true rfl) rfl rfl (Nat.le_of_ble_eq_true rfl) (Nat.le_of_ble_eq_true rfl) rfl hc hs ?_⟩
  rintro r M1 ⟨v, rfl, hv, hz⟩
  have hv1 := hv.1
  have hv2 := hv.2
  show S 377 _ [Sum.inl v] _ M1
  refine wpx_ok hS bk163c6 (sp := sp163c6) 60 377 _ _ _ _ ?_
  simp only [LCM, B2, Bool.not_eq_false, Bool.not_eq_true, decide_eq_true_eq, decide_eq_false_iff_not, Int.not_lt, Int.not_le, CST, TN, WX, WA, WB, GS, LOC, BT163c6, SP163c6, CLS, FLD, ARR, CD, true_and, and_true, and_self, forall_const, true_implies, false_implies, implies_true, not_true_eq_false, not_false_eq_true, if_true, if_false, rgI, rgL, scr, swl, lkl, cats, cat, is2, List.drop_succ_cons, List.drop_zero, List.drop_nil, List.cons_append, List.nil_append, Option.toList_some, Option.toList_none, List.length_cons, List.length_nil, ne_eq, Classical.not_not, reduceCtorEq, Nat.reduceAdd, Nat.reduceSub, Nat.reduceMul, Nat.reduceLT, Nat.reduceLeDiff, Nat.reduceEqDiff, Nat.reduceBEq, Int.reduceToNat, Int.reduceLE, Int.reduceLT, Int.reduceEq, Int.reduceNeg, Int.reduceAdd, Int.reduceSub, Int.reduceMul, Int.toNat_natCast, Nat.zero_add, Int.add_zero, Nat.add_zero, ite_true, ite_false, Option.some.injEq, Nat.le_refl, or_true, true_or, or_false, false_or, if_pos, reduceIte, Nat.reduceGT, Int.lt_irrefl, hx1, hx2, hL1, f1, g1, t1, f2, g2, t2, f3, g3, t3, f4, g4, t4, f5, g5, t5]
  refine ⟨rcv_ok rfl own124 rfl, kW hz (Nat.le_of_ble_eq_true rfl) rfl rfl (Nat.le_of_ble_eq_true rfl) (Nat.le_of_ble_eq_true rfl) rfl hc hs ?_⟩
  rintro r2 M2 ⟨rfl, hI2⟩
  show S 406 _ [Sum.inl v, Sum.inl v] _ M2
  refine wpx_ok hS bk163c6 (sp := sp163c6) 60 406 _ _ _ _ ?_
  simp only [LCM, B2, Bool.not_eq_false, Bool.not_eq_true, decide_eq_true_eq, decide_eq_false_iff_not, Int.not_lt, Int.not_le, CST, TN, WX, WA, WB, GS, LOC, BT163c6, SP163c6, CLS, FLD, ARR, CD, true_and, and_true, and_self, forall_const, true_implies, false_implies, implies_true, not_true_eq_false, not_false_eq_true, if_true, if_false, rgI, rgL, scr, swl, lkl, cats, cat, is2, List.drop_succ_cons, List.drop_zero, List.drop_nil, List.cons_append, List.nil_append, Option.toList_some, Option.toList_none, List.length_cons, List.length_nil, ne_eq, Classical.not_not, reduceCtorEq, Nat.reduceAdd, Nat.reduceSub, Nat.reduceMul, Nat.reduceLT, Nat.reduceLeDiff, Nat.reduceEqDiff, Nat.reduceBEq, Int.reduceToNat, Int.reduceLE, Int.reduceLT, Int.reduceEq, Int.reduceNeg, Int.reduceAdd, Int.reduceSub, Int.reduceMul, Int.toNat_natCast, Nat.zero_add, Int.add_zero, Nat.add_zero, ite_true, ite_false, Option.some.injEq, Nat.le_refl, or_true, true_or, or_false, false_or, if_pos, reduceIte, Nat.reduceGT, Int.lt_irrefl, hv1, hv2]
  exact nx M2 hI2
def bt163c7 (pc : Nat) : BL := if pc = 411 then [(.aload 1, 0, 1), (.aload 0, 0, 1), (.iload 3, 0, 1), (.iconst 1, 0, 1), (.iadd, 0, 1), (.iaload, 0, 1), (.i2l, 0, 1), (.iconst 32, 0, 2), (.lshl, 0, 1), (.aload 0, 0, 1), (.iload 3, 0, 1), (.iconst 2, 0, 1), (.iadd, 0, 1), (.iaload, 0, 1), (.i2l, 0, 1), (.ldc2_w 0, 4294967295, 3), (.land, 0, 1), (.lor, 0, 1), (.aload 0, 0, 1), (.iload 3, 0, 1), (.iconst 3, 0, 1), (.iadd, 0, 1), (.iaload, 0, 1), (.invokevirtual 51, 3, 3)] else if pc = 440 then [(.aload 2, 0, 1), (.aload 0, 0, 1), (.iload 3, 0, 1), (.iconst 1, 0, 1), (.iadd, 0, 1), (.iaload, 0, 1), (.i2l, 0, 1), (.iconst 32, 0, 2), (.lshl, 0, 1), (.aload 0, 0, 1), (.iload 3, 0, 1), (.iconst 2, 0, 1), (.iadd, 0, 1), (.iaload, 0, 1), (.i2l, 0, 1), (.ldc2_w 0, 4294967295, 3), (.land, 0, 1), (.lor, 0, 1), (.aload 0, 0, 1), (.iload 3, 0, 1), (.iconst 3, 0, 1), (.iadd, 0, 1), (.iaload, 0, 1), (.invokevirtual 127, 3, 3)] else if pc = 469 then [(.lcmp, 0, 1), (.ifCond .eq 1341, 0, 3)] else if pc = 473 then [(.iconst 0, 0, 1), (.ireturn, 0, 1)] else []
def sp163c7 (pc : Nat) : Bool := [440, 469, 1341].contains pc
theorem BT163c7 : bt163c7 411 = [(.aload 1, 0, 1), (.aload 0, 0, 1), (.iload 3, 0, 1), (.iconst 1, 0, 1), (.iadd, 0, 1), (.iaload, 0, 1), (.i2l, 0, 1), (.iconst 32, 0, 2), (.lshl, 0, 1), (.aload 0, 0, 1), (.iload 3, 0, 1), (.iconst 2, 0, 1), (.iadd, 0, 1), (.iaload, 0, 1), (.i2l, 0, 1), (.ldc2_w 0, 4294967295, 3), (.land, 0, 1), (.lor, 0, 1), (.aload 0, 0, 1), (.iload 3, 0, 1), (.iconst 3, 0, 1), (.iadd, 0, 1), (.iaload, 0, 1), (.invokevirtual 51, 3, 3)] ∧ bt163c7 440 = [(.aload 2, 0, 1), (.aload 0, 0, 1), (.iload 3, 0, 1), (.iconst 1, 0, 1), (.iadd, 0, 1), (.iaload, 0, 1), (.i2l, 0, 1), (.iconst 32, 0, 2), (.lshl, 0, 1), (.aload 0, 0, 1), (.iload 3, 0, 1), (.iconst 2, 0, 1), (.iadd, 0, 1), (.iaload, 0, 1), (.i2l, 0, 1), (.ldc2_w 0, 4294967295, 3), (.land, 0, 1), (.lor, 0, 1), (.aload 0, 0, 1), (.iload 3, 0, 1), (.iconst 3, 0, 1), (.iadd, 0, 1), (.iaload, 0, 1), (.invokevirtual 127, 3, 3)] ∧ bt163c7 469 = [(.lcmp, 0, 1), (.ifCond .eq 1341, 0, 3)] ∧ bt163c7 473 = [(.iconst 0, 0, 1), (.ireturn, 0, 1)] ∧ True := ⟨rfl, rfl, rfl, rfl, trivial⟩
theorem SP163c7 : sp163c7 411 = false ∧ sp163c7 440 = true ∧ sp163c7 469 = true ∧ sp163c7 473 = false ∧ sp163c7 1341 = true ∧ True := ⟨rfl, rfl, rfl, rfl, rfl, trivial⟩
set_option maxRecDepth 100000 in
theorem bk163c7 : ∀ pc, blk 163 pc (bt163c7 pc) = true := fun pc => blk_if (by decide +kernel) (blk_if (by decide +kernel) (blk_if (by decide +kernel) (blk_if (by decide +kernel) (rfl))))
theorem lc_7 {S : Nat → KK} {L c s : Nat} {xs : Nat → Int} (hS : Clo (Run 9) 163 (some (L, xs)) 600000 7302250 RtL S) (hxs : ∀ j, rgI (xs j)) (hL : L ≤ 3072) (hc : c ≤ 600000) (hs : s ≤ 7302250) (i : Nat) (hi : i + 6 ≤ L) (M : MM) (hI : INV M) (nx : ∀ M', INV M' → S 1341 [some (vR scr), some (vR 0), some (vR 55), some (vI i)] [] (sh0, c, s) M') : S 411 [some (vR scr), some (vR 0), some (vR 55), some (vI i)] [] (sh0, c, s) M := by
  have hx1 : ∀ j, -2147483648 ≤ xs j := fun j => (hxs j).1
  have hx2 : ∀ j, xs j ≤ 2147483647 := fun j => (hxs j).2
  have hL1 : L ≤ 100000 := by omega
  have f1 : 0 ≤ (i : Int) + 1 := by omega
  have g1 : (i : Int) + 1 < L := by omega
  have t1 : ((i : Int) + 1).toNat = i + 1 := by omega
  have f2 : 0 ≤ (i : Int) + 2 := by omega
  have g2 : (i : Int) + 2 < L := by omega
  have t2 : ((i : Int) + 2).toNat = i + 2 := by omega
  have f3 : 0 ≤ (i : Int) + 3 := by omega
  have g3 : (i : Int) + 3 < L := by omega
  have t3 : ((i : Int) + 3).toNat = i + 3 := by omega
  have f4 : 0 ≤ (i : Int) + 4 := by omega
  have g4 : (i : Int) + 4 < L := by omega
  have t4 : ((i : Int) + 4).toNat = i + 4 := by omega
  have f5 : 0 ≤ (i : Int) + 5 := by omega
  have g5 : (i : Int) + 5 < L := by omega
  have t5 : ((i : Int) + 5).toNat = i + 5 := by omega
  refine wpx_ok hS bk163c7 (sp := sp163c7) 60 411 _ _ _ _ ?_
  simp only [LCM, B2, Bool.not_eq_false, Bool.not_eq_true, decide_eq_true_eq, decide_eq_false_iff_not, Int.not_lt, Int.not_le, CST, TN, WX, WA, WB, GS, LOC, BT163c7, SP163c7, CLS, FLD, ARR, CD, true_and, and_true, and_self, forall_const, true_implies, false_implies, implies_true, not_true_eq_false, not_false_eq_true, if_true, if_false, rgI, rgL, scr, swl, lkl, cats, cat, is2, List.drop_succ_cons, List.drop_zero, List.drop_nil, List.cons_append, List.nil_append, Option.toList_some, Option.toList_none, List.length_cons, List.length_nil, ne_eq, Classical.not_not, reduceCtorEq, Nat.reduceAdd, Nat.reduceSub, Nat.reduceMul, Nat.reduceLT, Nat.reduceLeDiff, Nat.reduceEqDiff, Nat.reduceBEq, Int.reduceToNat, Int.reduceLE, Int.reduceLT, Int.reduceEq, Int.reduceNeg, Int.reduceAdd, Int.reduceSub, Int.reduceMul, Int.toNat_natCast, Nat.zero_add, Int.add_zero, Nat.add_zero, ite_true, ite_false, Option.some.injEq, Nat.le_refl, or_true, true_or, or_false, false_or, if_pos, reduceIte, Nat.reduceGT, Int.lt_irrefl, hx1, hx2, hL1, f1, g1, t1, f2, g2, t2, f3, g3, t3, f4, g4, t4, f5, g5, t5]
  refine ⟨rcv_ok rfl own51 rfl, kW (p_judge (lOr (lShl (xs (i + 1)) 32) (lAnd (xs (i + 2)) 4294967295)) (xs (i + 3)) (lOr_rg _ _) (hxs _) M hI) (Nat.le_of_ble_eq_true rfl) rfl rfl (Nat.le_of_ble_eq_true rfl) (Nat.le_of_ble_eq_true rfl) rfl hc hs ?_⟩
  rintro r M1 ⟨v, rfl, hv, hz⟩
  have hv1 := hv.1
  have hv2 := hv.2
  show S 440 _ [Sum.inr (Sum.inl v)] _ M1
  refine wpx_ok hS bk163c7 (sp := sp163c7) 60 440 _ _ _ _ ?_
  simp only [LCM, B2, Bool.not_eq_false, Bool.not_eq_true, decide_eq_true_eq, decide_eq_false_iff_not, Int.not_lt, Int.not_le, CST, TN, WX, WA, WB, GS, LOC, BT163c7, SP163c7, CLS, FLD, ARR, CD, true_and, and_true, and_self, forall_const, true_implies, false_implies, implies_true, not_true_eq_false, not_false_eq_true, if_true, if_false, rgI, rgL, scr, swl, lkl, cats, cat, is2, List.drop_succ_cons, List.drop_zero, List.drop_nil, List.cons_append, List.nil_append, Option.toList_some, Option.toList_none, List.length_cons, List.length_nil, ne_eq, Classical.not_not, reduceCtorEq, Nat.reduceAdd, Nat.reduceSub, Nat.reduceMul, Nat.reduceLT, Nat.reduceLeDiff, Nat.reduceEqDiff, Nat.reduceBEq, Int.reduceToNat, Int.reduceLE, Int.reduceLT, Int.reduceEq, Int.reduceNeg, Int.reduceAdd, Int.reduceSub, Int.reduceMul, Int.toNat_natCast, Nat.zero_add, Int.add_zero, Nat.add_zero, ite_true, ite_false, Option.some.injEq, Nat.le_refl, or_true, true_or, or_false, false_or, if_pos, reduceIte, Nat.reduceGT, Int.lt_irrefl, hx1, hx2, hL1, f1, g1, t1, f2, g2, t2, f3, g3, t3, f4, g4, t4, f5, g5, t5]
  refine ⟨rcv_ok rfl own127 rfl, kW hz (Nat.le_of_ble_eq_true rfl) rfl rfl (Nat.le_of_ble_eq_true rfl) (Nat.le_of_ble_eq_true rfl) rfl hc hs ?_⟩
  rintro r2 M2 ⟨rfl, hI2⟩
  show S 469 _ [Sum.inr (Sum.inl v), Sum.inr (Sum.inl v)] _ M2
  refine wpx_ok hS bk163c7 (sp := sp163c7) 60 469 _ _ _ _ ?_
  simp only [LCM, B2, Bool.not_eq_false, Bool.not_eq_true, decide_eq_true_eq, decide_eq_false_iff_not, Int.not_lt, Int.not_le, CST, TN, WX, WA, WB, GS, LOC, BT163c7, SP163c7, CLS, FLD, ARR, CD, true_and, and_true, and_self, forall_const, true_implies, false_implies, implies_true, not_true_eq_false, not_false_eq_true, if_true, if_false, rgI, rgL, scr, swl, lkl, cats, cat, is2, List.drop_succ_cons, List.drop_zero, List.drop_nil, List.cons_append, List.nil_append, Option.toList_some, Option.toList_none, List.length_cons, List.length_nil, ne_eq, Classical.not_not, reduceCtorEq, Nat.reduceAdd, Nat.reduceSub, Nat.reduceMul, Nat.reduceLT, Nat.reduceLeDiff, Nat.reduceEqDiff, Nat.reduceBEq, Int.reduceToNat, Int.reduceLE, Int.reduceLT, Int.reduceEq, Int.reduceNeg, Int.reduceAdd, Int.reduceSub, Int.reduceMul, Int.toNat_natCast, Nat.zero_add, Int.add_zero, Nat.add_zero, ite_true, ite_false, Option.some.injEq, Nat.le_refl, or_true, true_or, or_false, false_or, if_pos, reduceIte, Nat.reduceGT, Int.lt_irrefl, hv1, hv2]
  exact nx M2 hI2
def bt163c8 (pc : Nat) : BL := if pc = 475 then [(.aload 1, 0, 1), (.aload 0, 0, 1), (.iload 3, 0, 1), (.iconst 1, 0, 1), (.iadd, 0, 1), (.iaload, 0, 1), (.invokevirtual 52, 2, 3)] else if pc = 484 then [(.aload 2, 0, 1), (.aload 0, 0, 1), (.iload 3, 0, 1), (.iconst 1, 0, 1), (.iadd, 0, 1), (.iaload, 0, 1), (.invokevirtual 128, 2, 3)] else if pc = 493 then [(.if_icmp .eq 1341, 0, 3)] else if pc = 496 then [(.iconst 0, 0, 1), (.ireturn, 0, 1)] else []
def sp163c8 (pc : Nat) : Bool := [484, 493, 1341].contains pc
theorem BT163c8 : bt163c8 475 = [(.aload 1, 0, 1), (.aload 0, 0, 1), (.iload 3, 0, 1), (.iconst 1, 0, 1), (.iadd, 0, 1), (.iaload, 0, 1), (.invokevirtual 52, 2, 3)] ∧ bt163c8 484 = [(.aload 2, 0, 1), (.aload 0, 0, 1), (.iload 3, 0, 1), (.iconst 1, 0, 1), (.iadd, 0, 1), (.iaload, 0, 1), (.invokevirtual 128, 2, 3)] ∧ bt163c8 493 = [(.if_icmp .eq 1341, 0, 3)] ∧ bt163c8 496 = [(.iconst 0, 0, 1), (.ireturn, 0, 1)] ∧ True := ⟨rfl, rfl, rfl, rfl, trivial⟩
theorem SP163c8 : sp163c8 475 = false ∧ sp163c8 484 = true ∧ sp163c8 493 = true ∧ sp163c8 496 = false ∧ sp163c8 1341 = true ∧ True := ⟨rfl, rfl, rfl, rfl, rfl, trivial⟩
set_option maxRecDepth 100000 in
theorem bk163c8 : ∀ pc, blk 163 pc (bt163c8 pc) = true := fun pc => blk_if (by decide +kernel) (blk_if (by decide +kernel) (blk_if (by decide +kernel) (blk_if (by decide +kernel) (rfl))))
theorem lc_8 {S : Nat → KK} {L c s : Nat} {xs : Nat → Int} (hS : Clo (Run 9) 163 (some (L, xs)) 600000 7302250 RtL S) (hxs : ∀ j, rgI (xs j)) (hL : L ≤ 3072) (hc : c ≤ 600000) (hs : s ≤ 7302250) (i : Nat) (hi : i + 6 ≤ L) (M : MM) (hI : INV M) (nx : ∀ M', INV M' → S 1341 [some (vR scr), some (vR 0), some (vR 55), some (vI i)] [] (sh0, c, s) M') : S 475 [some (vR scr), some (vR 0), some (vR 55), some (vI i)] [] (sh0, c, s) M := by
  have hx1 : ∀ j, -2147483648 ≤ xs j := fun j => (hxs j).1
  have hx2 : ∀ j, xs j ≤ 2147483647 := fun j => (hxs j).2
  have hL1 : L ≤ 100000 := by omega
  have f1 : 0 ≤ (i : Int) + 1 := by omega
  have g1 : (i : Int) + 1 < L := by omega
  have t1 : ((i : Int) + 1).toNat = i + 1 := by omega
  have f2 : 0 ≤ (i : Int) + 2 := by omega
  have g2 : (i : Int) + 2 < L := by omega
  have t2 : ((i : Int) + 2).toNat = i + 2 := by omega
  have f3 : 0 ≤ (i : Int) + 3 := by omega
  have g3 : (i : Int) + 3 < L := by omega
  have t3 : ((i : Int) + 3).toNat = i + 3 := by omega
  have f4 : 0 ≤ (i : Int) + 4 := by omega
  have g4 : (i : Int) + 4 < L := by omega
  have t4 : ((i : Int) + 4).toNat = i + 4 := by omega
  have f5 : 0 ≤ (i : Int) + 5 := by omega
  have g5 : (i : Int) + 5 < L := by omega
  have t5 : ((i : Int) + 5).toNat = i + 5 := by omega
  refine wpx_ok hS bk163c8 (sp := sp163c8) 60 475 _ _ _ _ ?_
  simp only [LCM, B2, Bool.not_eq_false, Bool.not_eq_true, decide_eq_true_eq, decide_eq_false_iff_not, Int.not_lt, Int.not_le, CST, TN, WX, WA, WB, GS, LOC, BT163c8, SP163c8, CLS, FLD, ARR, CD, true_and, and_true, and_self, forall_const, true_implies, false_implies, implies_true, not_true_eq_false, not_false_eq_true, if_true, if_false, rgI, rgL, scr, swl, lkl, cats, cat, is2, List.drop_succ_cons, List.drop_zero, List.drop_nil, List.cons_append, List.nil_append, Option.toList_some, Option.toList_none, List.length_cons, List.length_nil, ne_eq, Classical.not_not, reduceCtorEq, Nat.reduceAdd, Nat.reduceSub, Nat.reduceMul, Nat.reduceLT, Nat.reduceLeDiff, Nat.reduceEqDiff, Nat.reduceBEq, Int.reduceToNat, Int.reduceLE, Int.reduceLT, Int.reduceEq, Int.reduceNeg, Int.reduceAdd, Int.reduceSub, Int.reduceMul, Int.toNat_natCast, Nat.zero_add, Int.add_zero, Nat.add_zero, ite_true, ite_false, Option.some.injEq, Nat.le_refl, or_true, true_or, or_false, false_or, if_pos, reduceIte, Nat.reduceGT, Int.lt_irrefl, hx1, hx2, hL1, f1, g1, t1, f2, g2, t2, f3, g3, t3, f4, g4, t4, f5, g5, t5]
  refine ⟨rcv_ok rfl own52 rfl, kW (p_still (xs (i + 1)) (hxs _) M hI) (Nat.le_of_ble_eq_true rfl) rfl rfl (Nat.le_of_ble_eq_true rfl) (Nat.le_of_ble_eq_true rfl) rfl hc hs ?_⟩
  rintro r M1 ⟨v, rfl, hv, hz⟩
  have hv1 := hv.1
  have hv2 := hv.2
  show S 484 _ [Sum.inl v] _ M1
  refine wpx_ok hS bk163c8 (sp := sp163c8) 60 484 _ _ _ _ ?_
  simp only [LCM, B2, Bool.not_eq_false, Bool.not_eq_true, decide_eq_true_eq, decide_eq_false_iff_not, Int.not_lt, Int.not_le, CST, TN, WX, WA, WB, GS, LOC, BT163c8, SP163c8, CLS, FLD, ARR, CD, true_and, and_true, and_self, forall_const, true_implies, false_implies, implies_true, not_true_eq_false, not_false_eq_true, if_true, if_false, rgI, rgL, scr, swl, lkl, cats, cat, is2, List.drop_succ_cons, List.drop_zero, List.drop_nil, List.cons_append, List.nil_append, Option.toList_some, Option.toList_none, List.length_cons, List.length_nil, ne_eq, Classical.not_not, reduceCtorEq, Nat.reduceAdd, Nat.reduceSub, Nat.reduceMul, Nat.reduceLT, Nat.reduceLeDiff, Nat.reduceEqDiff, Nat.reduceBEq, Int.reduceToNat, Int.reduceLE, Int.reduceLT, Int.reduceEq, Int.reduceNeg, Int.reduceAdd, Int.reduceSub, Int.reduceMul, Int.toNat_natCast, Nat.zero_add, Int.add_zero, Nat.add_zero, ite_true, ite_false, Option.some.injEq, Nat.le_refl, or_true, true_or, or_false, false_or, if_pos, reduceIte, Nat.reduceGT, Int.lt_irrefl, hx1, hx2, hL1, f1, g1, t1, f2, g2, t2, f3, g3, t3, f4, g4, t4, f5, g5, t5]
  refine ⟨rcv_ok rfl own128 rfl, kW hz (Nat.le_of_ble_eq_true rfl) rfl rfl (Nat.le_of_ble_eq_true rfl) (Nat.le_of_ble_eq_true rfl) rfl hc hs ?_⟩
  rintro r2 M2 ⟨rfl, hI2⟩
  show S 493 _ [Sum.inl v, Sum.inl v] _ M2
  refine wpx_ok hS bk163c8 (sp := sp163c8) 60 493 _ _ _ _ ?_
  simp only [LCM, B2, Bool.not_eq_false, Bool.not_eq_true, decide_eq_true_eq, decide_eq_false_iff_not, Int.not_lt, Int.not_le, CST, TN, WX, WA, WB, GS, LOC, BT163c8, SP163c8, CLS, FLD, ARR, CD, true_and, and_true, and_self, forall_const, true_implies, false_implies, implies_true, not_true_eq_false, not_false_eq_true, if_true, if_false, rgI, rgL, scr, swl, lkl, cats, cat, is2, List.drop_succ_cons, List.drop_zero, List.drop_nil, List.cons_append, List.nil_append, Option.toList_some, Option.toList_none, List.length_cons, List.length_nil, ne_eq, Classical.not_not, reduceCtorEq, Nat.reduceAdd, Nat.reduceSub, Nat.reduceMul, Nat.reduceLT, Nat.reduceLeDiff, Nat.reduceEqDiff, Nat.reduceBEq, Int.reduceToNat, Int.reduceLE, Int.reduceLT, Int.reduceEq, Int.reduceNeg, Int.reduceAdd, Int.reduceSub, Int.reduceMul, Int.toNat_natCast, Nat.zero_add, Int.add_zero, Nat.add_zero, ite_true, ite_false, Option.some.injEq, Nat.le_refl, or_true, true_or, or_false, false_or, if_pos, reduceIte, Nat.reduceGT, Int.lt_irrefl, hv1, hv2]
  exact nx M2 hI2
def bt163c9 (pc : Nat) : BL := if pc = 498 then [(.aload 1, 0, 1), (.aload 0, 0, 1), (.iload 3, 0, 1), (.iconst 1, 0, 1), (.iadd, 0, 1), (.iaload, 0, 1), (.aload 0, 0, 1), (.iload 3, 0, 1), (.iconst 2, 0, 1), (.iadd, 0, 1), (.iaload, 0, 1), (.i2l, 0, 1), (.iconst 32, 0, 2), (.lshl, 0, 1), (.aload 0, 0, 1), (.iload 3, 0, 1), (.iconst 3, 0, 1), (.iadd, 0, 1), (.iaload, 0, 1), (.i2l, 0, 1), (.ldc2_w 0, 4294967295, 3), (.land, 0, 1), (.lor, 0, 1), (.invokevirtual 53, 3, 3)] else if pc = 527 then [(.aload 2, 0, 1), (.aload 0, 0, 1), (.iload 3, 0, 1), (.iconst 1, 0, 1), (.iadd, 0, 1), (.iaload, 0, 1), (.aload 0, 0, 1), (.iload 3, 0, 1), (.iconst 2, 0, 1), (.iadd, 0, 1), (.iaload, 0, 1), (.i2l, 0, 1), (.iconst 32, 0, 2), (.lshl, 0, 1), (.aload 0, 0, 1), (.iload 3, 0, 1), (.iconst 3, 0, 1), (.iadd, 0, 1), (.iaload, 0, 1), (.i2l, 0, 1), (.ldc2_w 0, 4294967295, 3), (.land, 0, 1), (.lor, 0, 1), (.invokevirtual 131, 3, 3)] else if pc = 556 then [(.lcmp, 0, 1), (.ifCond .eq 1341, 0, 3)] else if pc = 560 then [(.iconst 0, 0, 1), (.ireturn, 0, 1)] else []
def sp163c9 (pc : Nat) : Bool := [527, 556, 1341].contains pc
theorem BT163c9 : bt163c9 498 = [(.aload 1, 0, 1), (.aload 0, 0, 1), (.iload 3, 0, 1), (.iconst 1, 0, 1), (.iadd, 0, 1), (.iaload, 0, 1), (.aload 0, 0, 1), (.iload 3, 0, 1), (.iconst 2, 0, 1), (.iadd, 0, 1), (.iaload, 0, 1), (.i2l, 0, 1), (.iconst 32, 0, 2), (.lshl, 0, 1), (.aload 0, 0, 1), (.iload 3, 0, 1), (.iconst 3, 0, 1), (.iadd, 0, 1), (.iaload, 0, 1), (.i2l, 0, 1), (.ldc2_w 0, 4294967295, 3), (.land, 0, 1), (.lor, 0, 1), (.invokevirtual 53, 3, 3)] ∧ bt163c9 527 = [(.aload 2, 0, 1), (.aload 0, 0, 1), (.iload 3, 0, 1), (.iconst 1, 0, 1), (.iadd, 0, 1), (.iaload, 0, 1), (.aload 0, 0, 1), (.iload 3, 0, 1), (.iconst 2, 0, 1), (.iadd, 0, 1), (.iaload, 0, 1), (.i2l, 0, 1), (.iconst 32, 0, 2), (.lshl, 0, 1), (.aload 0, 0, 1), (.iload 3, 0, 1), (.iconst 3, 0, 1), (.iadd, 0, 1), (.iaload, 0, 1), (.i2l, 0, 1), (.ldc2_w 0, 4294967295, 3), (.land, 0, 1), (.lor, 0, 1), (.invokevirtual 131, 3, 3)] ∧ bt163c9 556 = [(.lcmp, 0, 1), (.ifCond .eq 1341, 0, 3)] ∧ bt163c9 560 = [(.iconst 0, 0, 1), (.ireturn, 0, 1)] ∧ True := ⟨rfl, rfl, rfl, rfl, trivial⟩
theorem SP163c9 : sp163c9 498 = false ∧ sp163c9 527 = true ∧ sp163c9 556 = true ∧ sp163c9 560 = false ∧ sp163c9 1341 = true ∧ True := ⟨rfl, rfl, rfl, rfl, rfl, trivial⟩
set_option maxRecDepth 100000 in
theorem bk163c9 : ∀ pc, blk 163 pc (bt163c9 pc) = true := fun pc => blk_if (by decide +kernel) (blk_if (by decide +kernel) (blk_if (by decide +kernel) (blk_if (by decide +kernel) (rfl))))
theorem lc_9 {S : Nat → KK} {L c s : Nat} {xs : Nat → Int} (hS : Clo (Run 9) 163 (some (L, xs)) 600000 7302250 RtL S) (hxs : ∀ j, rgI (xs j)) (hL : L ≤ 3072) (hc : c ≤ 600000) (hs : s ≤ 7302250) (i : Nat) (hi : i + 6 ≤ L) (M : MM) (hI : INV M) (nx : ∀ M', INV M' → S 1341 [some (vR scr), some (vR 0), some (vR 55), some (vI i)] [] (sh0, c, s) M') : S 498 [some (vR scr), some (vR 0), some (vR 55), some (vI i)] [] (sh0, c, s) M := by
  have hx1 : ∀ j, -2147483648 ≤ xs j := fun j => (hxs j).1
  have hx2 : ∀ j, xs j ≤ 2147483647 := fun j => (hxs j).2
  have hL1 : L ≤ 100000 := by omega
  have f1 : 0 ≤ (i : Int) + 1 := by omega
  have g1 : (i : Int) + 1 < L := by omega
  have t1 : ((i : Int) + 1).toNat = i + 1 := by omega
  have f2 : 0 ≤ (i : Int) + 2 := by omega
  have g2 : (i : Int) + 2 < L := by omega
  have t2 : ((i : Int) + 2).toNat = i + 2 := by omega
  have f3 : 0 ≤ (i : Int) + 3 := by omega
  have g3 : (i : Int) + 3 < L := by omega
  have t3 : ((i : Int) + 3).toNat = i + 3 := by omega
  have f4 : 0 ≤ (i : Int) + 4 := by omega
  have g4 : (i : Int) + 4 < L := by omega
  have t4 : ((i : Int) + 4).toNat = i + 4 := by omega
  have f5 : 0 ≤ (i : Int) + 5 := by omega
  have g5 : (i : Int) + 5 < L := by omega
  have t5 : ((i : Int) + 5).toNat = i + 5 := by omega
  refine wpx_ok hS bk163c9 (sp := sp163c9) 60 498 _ _ _ _ ?_
  simp only [LCM, B2, Bool.not_eq_false, Bool.not_eq_true, decide_eq_true_eq, decide_eq_false_iff_not, Int.not_lt, Int.not_le, CST, TN, WX, WA, WB, GS, LOC, BT163c9, SP163c9, CLS, FLD, ARR, CD, true_and, and_true, and_self, forall_const, true_implies, false_implies, implies_true, not_true_eq_false, not_false_eq_true, if_true, if_false, rgI, rgL, scr, swl, lkl, cats, cat, is2, List.drop_succ_cons, List.drop_zero, List.drop_nil, List.cons_append, List.nil_append, Option.toList_some, Option.toList_none, List.length_cons, List.length_nil, ne_eq, Classical.not_not, reduceCtorEq, Nat.reduceAdd, Nat.reduceSub, Nat.reduceMul, Nat.reduceLT, Nat.reduceLeDiff, Nat.reduceEqDiff, Nat.reduceBEq, Int.reduceToNat, Int.reduceLE, Int.reduceLT, Int.reduceEq, Int.reduceNeg, Int.reduceAdd, Int.reduceSub, Int.reduceMul, Int.toNat_natCast, Nat.zero_add, Int.add_zero, Nat.add_zero, ite_true, ite_false, Option.some.injEq, Nat.le_refl, or_true, true_or, or_false, false_or, if_pos, reduceIte, Nat.reduceGT, Int.lt_irrefl, hx1, hx2, hL1, f1, g1, t1, f2, g2, t2, f3, g3, t3, f4, g4, t4, f5, g5, t5]
  refine ⟨rcv_ok rfl own53 rfl, kW (p_together (xs (i + 1)) (lOr (lShl (xs (i + 2)) 32) (lAnd (xs (i + 3)) 4294967295)) (hxs _) (lOr_rg _ _) M hI) (Nat.le_of_ble_eq_true rfl) rfl rfl (Nat.le_of_ble_eq_true rfl) (Nat.le_of_ble_eq_true rfl) rfl hc hs ?_⟩
  rintro r M1 ⟨v, rfl, hv, hz⟩
  have hv1 := hv.1
  have hv2 := hv.2
  show S 527 _ [Sum.inr (Sum.inl v)] _ M1
  refine wpx_ok hS bk163c9 (sp := sp163c9) 60 527 _ _ _ _ ?_
  simp only [LCM, B2, Bool.not_eq_false, Bool.not_eq_true, decide_eq_true_eq, decide_eq_false_iff_not, Int.not_lt, Int.not_le, CST, TN, WX, WA, WB, GS, LOC, BT163c9, SP163c9, CLS, FLD, ARR, CD, true_and, and_true, and_self, forall_const, true_implies, false_implies, implies_true, not_true_eq_false, not_false_eq_true, if_true, if_false, rgI, rgL, scr, swl, lkl, cats, cat, is2, List.drop_succ_cons, List.drop_zero, List.drop_nil, List.cons_append, List.nil_append, Option.toList_some, Option.toList_none, List.length_cons, List.length_nil, ne_eq, Classical.not_not, reduceCtorEq, Nat.reduceAdd, Nat.reduceSub, Nat.reduceMul, Nat.reduceLT, Nat.reduceLeDiff, Nat.reduceEqDiff, Nat.reduceBEq, Int.reduceToNat, Int.reduceLE, Int.reduceLT, Int.reduceEq, Int.reduceNeg, Int.reduceAdd, Int.reduceSub, Int.reduceMul, Int.toNat_natCast, Nat.zero_add, Int.add_zero, Nat.add_zero, ite_true, ite_false, Option.some.injEq, Nat.le_refl, or_true, true_or, or_false, false_or, if_pos, reduceIte, Nat.reduceGT, Int.lt_irrefl, hx1, hx2, hL1, f1, g1, t1, f2, g2, t2, f3, g3, t3, f4, g4, t4, f5, g5, t5]
  refine ⟨rcv_ok rfl own131 rfl, kW hz (Nat.le_of_ble_eq_true rfl) rfl rfl (Nat.le_of_ble_eq_true rfl) (Nat.le_of_ble_eq_true rfl) rfl hc hs ?_⟩
  rintro r2 M2 ⟨rfl, hI2⟩
  show S 556 _ [Sum.inr (Sum.inl v), Sum.inr (Sum.inl v)] _ M2
  refine wpx_ok hS bk163c9 (sp := sp163c9) 60 556 _ _ _ _ ?_
  simp only [LCM, B2, Bool.not_eq_false, Bool.not_eq_true, decide_eq_true_eq, decide_eq_false_iff_not, Int.not_lt, Int.not_le, CST, TN, WX, WA, WB, GS, LOC, BT163c9, SP163c9, CLS, FLD, ARR, CD, true_and, and_true, and_self, forall_const, true_implies, false_implies, implies_true, not_true_eq_false, not_false_eq_true, if_true, if_false, rgI, rgL, scr, swl, lkl, cats, cat, is2, List.drop_succ_cons, List.drop_zero, List.drop_nil, List.cons_append, List.nil_append, Option.toList_some, Option.toList_none, List.length_cons, List.length_nil, ne_eq, Classical.not_not, reduceCtorEq, Nat.reduceAdd, Nat.reduceSub, Nat.reduceMul, Nat.reduceLT, Nat.reduceLeDiff, Nat.reduceEqDiff, Nat.reduceBEq, Int.reduceToNat, Int.reduceLE, Int.reduceLT, Int.reduceEq, Int.reduceNeg, Int.reduceAdd, Int.reduceSub, Int.reduceMul, Int.toNat_natCast, Nat.zero_add, Int.add_zero, Nat.add_zero, ite_true, ite_false, Option.some.injEq, Nat.le_refl, or_true, true_or, or_false, false_or, if_pos, reduceIte, Nat.reduceGT, Int.lt_irrefl, hv1, hv2]
  exact nx M2 hI2
def bt163c10 (pc : Nat) : BL := if pc = 562 then [(.aload 1, 0, 1), (.aload 0, 0, 1), (.iload 3, 0, 1), (.iconst 1, 0, 1), (.iadd, 0, 1), (.iaload, 0, 1), (.aload 0, 0, 1), (.iload 3, 0, 1), (.iconst 2, 0, 1), (.iadd, 0, 1), (.iaload, 0, 1), (.i2l, 0, 1), (.iconst 32, 0, 2), (.lshl, 0, 1), (.aload 0, 0, 1), (.iload 3, 0, 1), (.iconst 3, 0, 1), (.iadd, 0, 1), (.iaload, 0, 1), (.i2l, 0, 1), (.ldc2_w 0, 4294967295, 3), (.land, 0, 1), (.lor, 0, 1), (.aload 0, 0, 1), (.iload 3, 0, 1), (.iconst 4, 0, 1), (.iadd, 0, 1), (.iaload, 0, 1), (.i2l, 0, 1), (.iconst 32, 0, 2), (.lshl, 0, 1), (.aload 0, 0, 1), (.iload 3, 0, 1), (.iconst 5, 0, 1), (.iadd, 0, 1), (.iaload, 0, 1), (.i2l, 0, 1), (.ldc2_w 0, 4294967295, 3), (.land, 0, 1), (.lor, 0, 1), (.invokevirtual 54, 4, 3)] else if pc = 611 then [(.aload 2, 0, 1), (.aload 0, 0, 1), (.iload 3, 0, 1), (.iconst 1, 0, 1), (.iadd, 0, 1), (.iaload, 0, 1), (.aload 0, 0, 1), (.iload 3, 0, 1), (.iconst 2, 0, 1), (.iadd, 0, 1), (.iaload, 0, 1), (.i2l, 0, 1), (.iconst 32, 0, 2), (.lshl, 0, 1), (.aload 0, 0, 1), (.iload 3, 0, 1), (.iconst 3, 0, 1), (.iadd, 0, 1), (.iaload, 0, 1), (.i2l, 0, 1), (.ldc2_w 0, 4294967295, 3), (.land, 0, 1), (.lor, 0, 1), (.aload 0, 0, 1), (.iload 3, 0, 1), (.iconst 4, 0, 1), (.iadd, 0, 1), (.iaload, 0, 1), (.i2l, 0, 1), (.iconst 32, 0, 2), (.lshl, 0, 1), (.aload 0, 0, 1), (.iload 3, 0, 1), (.iconst 5, 0, 1), (.iadd, 0, 1), (.iaload, 0, 1), (.i2l, 0, 1), (.ldc2_w 0, 4294967295, 3), (.land, 0, 1), (.lor, 0, 1), (.invokevirtual 132, 4, 3)] else if pc = 660 then [(.lcmp, 0, 1), (.ifCond .eq 1341, 0, 3)] else if pc = 664 then [(.iconst 0, 0, 1), (.ireturn, 0, 1)] else []
def sp163c10 (pc : Nat) : Bool := [611, 660, 1341].contains pc
theorem BT163c10 : bt163c10 562 = [(.aload 1, 0, 1), (.aload 0, 0, 1), (.iload 3, 0, 1), (.iconst 1, 0, 1), (.iadd, 0, 1), (.iaload, 0, 1), (.aload 0, 0, 1), (.iload 3, 0, 1), (.iconst 2, 0, 1), (.iadd, 0, 1), (.iaload, 0, 1), (.i2l, 0, 1), (.iconst 32, 0, 2), (.lshl, 0, 1), (.aload 0, 0, 1), (.iload 3, 0, 1), (.iconst 3, 0, 1), (.iadd, 0, 1), (.iaload, 0, 1), (.i2l, 0, 1), (.ldc2_w 0, 4294967295, 3), (.land, 0, 1), (.lor, 0, 1), (.aload 0, 0, 1), (.iload 3, 0, 1), (.iconst 4, 0, 1), (.iadd, 0, 1), (.iaload, 0, 1), (.i2l, 0, 1), (.iconst 32, 0, 2), (.lshl, 0, 1), (.aload 0, 0, 1), (.iload 3, 0, 1), (.iconst 5, 0, 1), (.iadd, 0, 1), (.iaload, 0, 1), (.i2l, 0, 1), (.ldc2_w 0, 4294967295, 3), (.land, 0, 1), (.lor, 0, 1), (.invokevirtual 54, 4, 3)] ∧ bt163c10 611 = [(.aload 2, 0, 1), (.aload 0, 0, 1), (.iload 3, 0, 1), (.iconst 1, 0, 1), (.iadd, 0, 1), (.iaload, 0, 1), (.aload 0, 0, 1), (.iload 3, 0, 1), (.iconst 2, 0, 1), (.iadd, 0, 1), (.iaload, 0, 1), (.i2l, 0, 1), (.iconst 32, 0, 2), (.lshl, 0, 1), (.aload 0, 0, 1), (.iload 3, 0, 1), (.iconst 3, 0, 1), (.iadd, 0, 1), (.iaload, 0, 1), (.i2l, 0, 1), (.ldc2_w 0, 4294967295, 3), (.land, 0, 1), (.lor, 0, 1), (.aload 0, 0, 1), (.iload 3, 0, 1), (.iconst 4, 0, 1), (.iadd, 0, 1), (.iaload, 0, 1), (.i2l, 0, 1), (.iconst 32, 0, 2), (.lshl, 0, 1), (.aload 0, 0, 1), (.iload 3, 0, 1), (.iconst 5, 0, 1), (.iadd, 0, 1), (.iaload, 0, 1), (.i2l, 0, 1), (.ldc2_w 0, 4294967295, 3), (.land, 0, 1), (.lor, 0, 1), (.invokevirtual 132, 4, 3)] ∧ bt163c10 660 = [(.lcmp, 0, 1), (.ifCond .eq 1341, 0, 3)] ∧ bt163c10 664 = [(.iconst 0, 0, 1), (.ireturn, 0, 1)] ∧ True := ⟨rfl, rfl, rfl, rfl, trivial⟩
theorem SP163c10 : sp163c10 562 = false ∧ sp163c10 611 = true ∧ sp163c10 660 = true ∧ sp163c10 664 = false ∧ sp163c10 1341 = true ∧ True := ⟨rfl, rfl, rfl, rfl, rfl, trivial⟩
set_option maxRecDepth 100000 in
theorem bk163c10 : ∀ pc, blk 163 pc (bt163c10 pc) = true := fun pc => blk_if (by decide +kernel) (blk_if (by decide +kernel) (blk_if (by decide +kernel) (blk_if (by decide +kernel) (rfl))))
theorem lc_10 {S : Nat → KK} {L c s : Nat} {xs : Nat → Int} (hS : Clo (Run 9) 163 (some (L, xs)) 600000 7302250 RtL S) (hxs : ∀ j, rgI (xs j)) (hL : L ≤ 3072) (hc : c ≤ 600000) (hs : s ≤ 7302250) (i : Nat) (hi : i + 6 ≤ L) (M : MM) (hI : INV M) (nx : ∀ M', INV M' → S 1341 [some (vR scr), some (vR 0), some (vR 55), some (vI i)] [] (sh0, c, s) M') : S 562 [some (vR scr), some (vR 0), some (vR 55), some (vI i)] [] (sh0, c, s) M := by
  have hx1 : ∀ j, -2147483648 ≤ xs j := fun j => (hxs j).1
  have hx2 : ∀ j, xs j ≤ 2147483647 := fun j => (hxs j).2
  have hL1 : L ≤ 100000 := by omega
  have f1 : 0 ≤ (i : Int) + 1 := by omega
  have g1 : (i : Int) + 1 < L := by omega
  have t1 : ((i : Int) + 1).toNat = i + 1 := by omega
  have f2 : 0 ≤ (i : Int) + 2 := by omega
  have g2 : (i : Int) + 2 < L := by omega
  have t2 : ((i : Int) + 2).toNat = i + 2 := by omega
  have f3 : 0 ≤ (i : Int) + 3 := by omega
  have g3 : (i : Int) + 3 < L := by omega
  have t3 : ((i : Int) + 3).toNat = i + 3 := by omega
  have f4 : 0 ≤ (i : Int) + 4 := by omega
  have g4 : (i : Int) + 4 < L := by omega
  have t4 : ((i : Int) + 4).toNat = i + 4 := by omega
  have f5 : 0 ≤ (i : Int) + 5 := by omega
  have g5 : (i : Int) + 5 < L := by omega
  have t5 : ((i : Int) + 5).toNat = i + 5 := by omega
  refine wpx_ok hS bk163c10 (sp := sp163c10) 60 562 _ _ _ _ ?_
  simp only [LCM, B2, Bool.not_eq_false, Bool.not_eq_true, decide_eq_true_eq, decide_eq_false_iff_not, Int.not_lt, Int.not_le, CST, TN, WX, WA, WB, GS, LOC, BT163c10, SP163c10, CLS, FLD, ARR, CD, true_and, and_true, and_self, forall_const, true_implies, false_implies, implies_true, not_true_eq_false, not_false_eq_true, if_true, if_false, rgI, rgL, scr, swl, lkl, cats, cat, is2, List.drop_succ_cons, List.drop_zero, List.drop_nil, List.cons_append, List.nil_append, Option.toList_some, Option.toList_none, List.length_cons, List.length_nil, ne_eq, Classical.not_not, reduceCtorEq, Nat.reduceAdd, Nat.reduceSub, Nat.reduceMul, Nat.reduceLT, Nat.reduceLeDiff, Nat.reduceEqDiff, Nat.reduceBEq, Int.reduceToNat, Int.reduceLE, Int.reduceLT, Int.reduceEq, Int.reduceNeg, Int.reduceAdd, Int.reduceSub, Int.reduceMul, Int.toNat_natCast, Nat.zero_add, Int.add_zero, Nat.add_zero, ite_true, ite_false, Option.some.injEq, Nat.le_refl, or_true, true_or, or_false, false_or, if_pos, reduceIte, Nat.reduceGT, Int.lt_irrefl, hx1, hx2, hL1, f1, g1, t1, f2, g2, t2, f3, g3, t3, f4, g4, t4, f5, g5, t5]
  refine ⟨rcv_ok rfl own54 rfl, kW (p_often (xs (i + 1)) (lOr (lShl (xs (i + 2)) 32) (lAnd (xs (i + 3)) 4294967295)) (lOr (lShl (xs (i + 4)) 32) (lAnd (xs (i + 5)) 4294967295)) (hxs _) (lOr_rg _ _) (lOr_rg _ _) M hI) (Nat.le_of_ble_eq_true rfl) rfl rfl (Nat.le_of_ble_eq_true rfl) (Nat.le_of_ble_eq_true rfl) rfl hc hs ?_⟩
  rintro r M1 ⟨v, rfl, hv, hz⟩
  have hv1 := hv.1
  have hv2 := hv.2
  show S 611 _ [Sum.inr (Sum.inl v)] _ M1
  refine wpx_ok hS bk163c10 (sp := sp163c10) 60 611 _ _ _ _ ?_
  simp only [LCM, B2, Bool.not_eq_false, Bool.not_eq_true, decide_eq_true_eq, decide_eq_false_iff_not, Int.not_lt, Int.not_le, CST, TN, WX, WA, WB, GS, LOC, BT163c10, SP163c10, CLS, FLD, ARR, CD, true_and, and_true, and_self, forall_const, true_implies, false_implies, implies_true, not_true_eq_false, not_false_eq_true, if_true, if_false, rgI, rgL, scr, swl, lkl, cats, cat, is2, List.drop_succ_cons, List.drop_zero, List.drop_nil, List.cons_append, List.nil_append, Option.toList_some, Option.toList_none, List.length_cons, List.length_nil, ne_eq, Classical.not_not, reduceCtorEq, Nat.reduceAdd, Nat.reduceSub, Nat.reduceMul, Nat.reduceLT, Nat.reduceLeDiff, Nat.reduceEqDiff, Nat.reduceBEq, Int.reduceToNat, Int.reduceLE, Int.reduceLT, Int.reduceEq, Int.reduceNeg, Int.reduceAdd, Int.reduceSub, Int.reduceMul, Int.toNat_natCast, Nat.zero_add, Int.add_zero, Nat.add_zero, ite_true, ite_false, Option.some.injEq, Nat.le_refl, or_true, true_or, or_false, false_or, if_pos, reduceIte, Nat.reduceGT, Int.lt_irrefl, hx1, hx2, hL1, f1, g1, t1, f2, g2, t2, f3, g3, t3, f4, g4, t4, f5, g5, t5]
  refine ⟨rcv_ok rfl own132 rfl, kW hz (Nat.le_of_ble_eq_true rfl) rfl rfl (Nat.le_of_ble_eq_true rfl) (Nat.le_of_ble_eq_true rfl) rfl hc hs ?_⟩
  rintro r2 M2 ⟨rfl, hI2⟩
  show S 660 _ [Sum.inr (Sum.inl v), Sum.inr (Sum.inl v)] _ M2
  refine wpx_ok hS bk163c10 (sp := sp163c10) 60 660 _ _ _ _ ?_
  simp only [LCM, B2, Bool.not_eq_false, Bool.not_eq_true, decide_eq_true_eq, decide_eq_false_iff_not, Int.not_lt, Int.not_le, CST, TN, WX, WA, WB, GS, LOC, BT163c10, SP163c10, CLS, FLD, ARR, CD, true_and, and_true, and_self, forall_const, true_implies, false_implies, implies_true, not_true_eq_false, not_false_eq_true, if_true, if_false, rgI, rgL, scr, swl, lkl, cats, cat, is2, List.drop_succ_cons, List.drop_zero, List.drop_nil, List.cons_append, List.nil_append, Option.toList_some, Option.toList_none, List.length_cons, List.length_nil, ne_eq, Classical.not_not, reduceCtorEq, Nat.reduceAdd, Nat.reduceSub, Nat.reduceMul, Nat.reduceLT, Nat.reduceLeDiff, Nat.reduceEqDiff, Nat.reduceBEq, Int.reduceToNat, Int.reduceLE, Int.reduceLT, Int.reduceEq, Int.reduceNeg, Int.reduceAdd, Int.reduceSub, Int.reduceMul, Int.toNat_natCast, Nat.zero_add, Int.add_zero, Nat.add_zero, ite_true, ite_false, Option.some.injEq, Nat.le_refl, or_true, true_or, or_false, false_or, if_pos, reduceIte, Nat.reduceGT, Int.lt_irrefl, hv1, hv2]
  exact nx M2 hI2
def bt163c11 (pc : Nat) : BL := if pc = 666 then [(.aload 1, 0, 1), (.aload 0, 0, 1), (.iload 3, 0, 1), (.iconst 1, 0, 1), (.iadd, 0, 1), (.iaload, 0, 1), (.invokevirtual 55, 2, 3)] else if pc = 675 then [(.aload 2, 0, 1), (.aload 0, 0, 1), (.iload 3, 0, 1), (.iconst 1, 0, 1), (.iadd, 0, 1), (.iaload, 0, 1), (.invokevirtual 133, 2, 3)] else if pc = 684 then [(.if_icmp .eq 1341, 0, 3)] else if pc = 687 then [(.iconst 0, 0, 1), (.ireturn, 0, 1)] else []
def sp163c11 (pc : Nat) : Bool := [675, 684, 1341].contains pc
theorem BT163c11 : bt163c11 666 = [(.aload 1, 0, 1), (.aload 0, 0, 1), (.iload 3, 0, 1), (.iconst 1, 0, 1), (.iadd, 0, 1), (.iaload, 0, 1), (.invokevirtual 55, 2, 3)] ∧ bt163c11 675 = [(.aload 2, 0, 1), (.aload 0, 0, 1), (.iload 3, 0, 1), (.iconst 1, 0, 1), (.iadd, 0, 1), (.iaload, 0, 1), (.invokevirtual 133, 2, 3)] ∧ bt163c11 684 = [(.if_icmp .eq 1341, 0, 3)] ∧ bt163c11 687 = [(.iconst 0, 0, 1), (.ireturn, 0, 1)] ∧ True := ⟨rfl, rfl, rfl, rfl, trivial⟩
theorem SP163c11 : sp163c11 666 = false ∧ sp163c11 675 = true ∧ sp163c11 684 = true ∧ sp163c11 687 = false ∧ sp163c11 1341 = true ∧ True := ⟨rfl, rfl, rfl, rfl, rfl, trivial⟩
set_option maxRecDepth 100000 in
theorem bk163c11 : ∀ pc, blk 163 pc (bt163c11 pc) = true := fun pc => blk_if (by decide +kernel) (blk_if (by decide +kernel) (blk_if (by decide +kernel) (blk_if (by decide +kernel) (rfl))))
theorem lc_11 {S : Nat → KK} {L c s : Nat} {xs : Nat → Int} (hS : Clo (Run 9) 163 (some (L, xs)) 600000 7302250 RtL S) (hxs : ∀ j, rgI (xs j)) (hL : L ≤ 3072) (hc : c ≤ 600000) (hs : s ≤ 7302250) (i : Nat) (hi : i + 6 ≤ L) (M : MM) (hI : INV M) (nx : ∀ M', INV M' → S 1341 [some (vR scr), some (vR 0), some (vR 55), some (vI i)] [] (sh0, c, s) M') : S 666 [some (vR scr), some (vR 0), some (vR 55), some (vI i)] [] (sh0, c, s) M := by
  have hx1 : ∀ j, -2147483648 ≤ xs j := fun j => (hxs j).1
  have hx2 : ∀ j, xs j ≤ 2147483647 := fun j => (hxs j).2
  have hL1 : L ≤ 100000 := by omega
  have f1 : 0 ≤ (i : Int) + 1 := by omega
  have g1 : (i : Int) + 1 < L := by omega
  have t1 : ((i : Int) + 1).toNat = i + 1 := by omega
  have f2 : 0 ≤ (i : Int) + 2 := by omega
  have g2 : (i : Int) + 2 < L := by omega
  have t2 : ((i : Int) + 2).toNat = i + 2 := by omega
  have f3 : 0 ≤ (i : Int) + 3 := by omega
  have g3 : (i : Int) + 3 < L := by omega
  have t3 : ((i : Int) + 3).toNat = i + 3 := by omega
  have f4 : 0 ≤ (i : Int) + 4 := by omega
  have g4 : (i : Int) + 4 < L := by omega
  have t4 : ((i : Int) + 4).toNat = i + 4 := by omega
  have f5 : 0 ≤ (i : Int) + 5 := by omega
  have g5 : (i : Int) + 5 < L := by omega
  have t5 : ((i : Int) + 5).toNat = i + 5 := by omega
  refine wpx_ok hS bk163c11 (sp := sp163c11) 60 666 _ _ _ _ ?_
  simp only [LCM, B2, Bool.not_eq_false, Bool.not_eq_true, decide_eq_true_eq, decide_eq_false_iff_not, Int.not_lt, Int.not_le, CST, TN, WX, WA, WB, GS, LOC, BT163c11, SP163c11, CLS, FLD, ARR, CD, true_and, and_true, and_self, forall_const, true_implies, false_implies, implies_true, not_true_eq_false, not_false_eq_true, if_true, if_false, rgI, rgL, scr, swl, lkl, cats, cat, is2, List.drop_succ_cons, List.drop_zero, List.drop_nil, List.cons_append, List.nil_append, Option.toList_some, Option.toList_none, List.length_cons, List.length_nil, ne_eq, Classical.not_not, reduceCtorEq, Nat.reduceAdd, Nat.reduceSub, Nat.reduceMul, Nat.reduceLT, Nat.reduceLeDiff, Nat.reduceEqDiff, Nat.reduceBEq, Int.reduceToNat, Int.reduceLE, Int.reduceLT, Int.reduceEq, Int.reduceNeg, Int.reduceAdd, Int.reduceSub, Int.reduceMul, Int.toNat_natCast, Nat.zero_add, Int.add_zero, Nat.add_zero, ite_true, ite_false, Option.some.injEq, Nat.le_refl, or_true, true_or, or_false, false_or, if_pos, reduceIte, Nat.reduceGT, Int.lt_irrefl, hx1, hx2, hL1, f1, g1, t1, f2, g2, t2, f3, g3, t3, f4, g4, t4, f5, g5, t5]
  refine ⟨rcv_ok rfl own55 rfl, kW (p_longest (xs (i + 1)) (hxs _) M hI) (Nat.le_of_ble_eq_true rfl) rfl rfl (Nat.le_of_ble_eq_true rfl) (Nat.le_of_ble_eq_true rfl) rfl hc hs ?_⟩
  rintro r M1 ⟨v, rfl, hv, hz⟩
  have hv1 := hv.1
  have hv2 := hv.2
  show S 675 _ [Sum.inl v] _ M1
  refine wpx_ok hS bk163c11 (sp := sp163c11) 60 675 _ _ _ _ ?_
  simp only [LCM, B2, Bool.not_eq_false, Bool.not_eq_true, decide_eq_true_eq, decide_eq_false_iff_not, Int.not_lt, Int.not_le, CST, TN, WX, WA, WB, GS, LOC, BT163c11, SP163c11, CLS, FLD, ARR, CD, true_and, and_true, and_self, forall_const, true_implies, false_implies, implies_true, not_true_eq_false, not_false_eq_true, if_true, if_false, rgI, rgL, scr, swl, lkl, cats, cat, is2, List.drop_succ_cons, List.drop_zero, List.drop_nil, List.cons_append, List.nil_append, Option.toList_some, Option.toList_none, List.length_cons, List.length_nil, ne_eq, Classical.not_not, reduceCtorEq, Nat.reduceAdd, Nat.reduceSub, Nat.reduceMul, Nat.reduceLT, Nat.reduceLeDiff, Nat.reduceEqDiff, Nat.reduceBEq, Int.reduceToNat, Int.reduceLE, Int.reduceLT, Int.reduceEq, Int.reduceNeg, Int.reduceAdd, Int.reduceSub, Int.reduceMul, Int.toNat_natCast, Nat.zero_add, Int.add_zero, Nat.add_zero, ite_true, ite_false, Option.some.injEq, Nat.le_refl, or_true, true_or, or_false, false_or, if_pos, reduceIte, Nat.reduceGT, Int.lt_irrefl, hx1, hx2, hL1, f1, g1, t1, f2, g2, t2, f3, g3, t3, f4, g4, t4, f5, g5, t5]
  refine ⟨rcv_ok rfl own133 rfl, kW hz (Nat.le_of_ble_eq_true rfl) rfl rfl (Nat.le_of_ble_eq_true rfl) (Nat.le_of_ble_eq_true rfl) rfl hc hs ?_⟩
  rintro r2 M2 ⟨rfl, hI2⟩
  show S 684 _ [Sum.inl v, Sum.inl v] _ M2
  refine wpx_ok hS bk163c11 (sp := sp163c11) 60 684 _ _ _ _ ?_
  simp only [LCM, B2, Bool.not_eq_false, Bool.not_eq_true, decide_eq_true_eq, decide_eq_false_iff_not, Int.not_lt, Int.not_le, CST, TN, WX, WA, WB, GS, LOC, BT163c11, SP163c11, CLS, FLD, ARR, CD, true_and, and_true, and_self, forall_const, true_implies, false_implies, implies_true, not_true_eq_false, not_false_eq_true, if_true, if_false, rgI, rgL, scr, swl, lkl, cats, cat, is2, List.drop_succ_cons, List.drop_zero, List.drop_nil, List.cons_append, List.nil_append, Option.toList_some, Option.toList_none, List.length_cons, List.length_nil, ne_eq, Classical.not_not, reduceCtorEq, Nat.reduceAdd, Nat.reduceSub, Nat.reduceMul, Nat.reduceLT, Nat.reduceLeDiff, Nat.reduceEqDiff, Nat.reduceBEq, Int.reduceToNat, Int.reduceLE, Int.reduceLT, Int.reduceEq, Int.reduceNeg, Int.reduceAdd, Int.reduceSub, Int.reduceMul, Int.toNat_natCast, Nat.zero_add, Int.add_zero, Nat.add_zero, ite_true, ite_false, Option.some.injEq, Nat.le_refl, or_true, true_or, or_false, false_or, if_pos, reduceIte, Nat.reduceGT, Int.lt_irrefl, hv1, hv2]
  exact nx M2 hI2
def bt163c12 (pc : Nat) : BL := if pc = 689 then [(.aload 1, 0, 1), (.aload 0, 0, 1), (.iload 3, 0, 1), (.iconst 1, 0, 1), (.iadd, 0, 1), (.iaload, 0, 1), (.aload 0, 0, 1), (.iload 3, 0, 1), (.iconst 2, 0, 1), (.iadd, 0, 1), (.iaload, 0, 1), (.i2l, 0, 1), (.iconst 32, 0, 2), (.lshl, 0, 1), (.aload 0, 0, 1), (.iload 3, 0, 1), (.iconst 3, 0, 1), (.iadd, 0, 1), (.iaload, 0, 1), (.i2l, 0, 1), (.ldc2_w 0, 4294967295, 3), (.land, 0, 1), (.lor, 0, 1), (.invokevirtual 56, 3, 3)] else if pc = 718 then [(.aload 2, 0, 1), (.aload 0, 0, 1), (.iload 3, 0, 1), (.iconst 1, 0, 1), (.iadd, 0, 1), (.iaload, 0, 1), (.aload 0, 0, 1), (.iload 3, 0, 1), (.iconst 2, 0, 1), (.iadd, 0, 1), (.iaload, 0, 1), (.i2l, 0, 1), (.iconst 32, 0, 2), (.lshl, 0, 1), (.aload 0, 0, 1), (.iload 3, 0, 1), (.iconst 3, 0, 1), (.iadd, 0, 1), (.iaload, 0, 1), (.i2l, 0, 1), (.ldc2_w 0, 4294967295, 3), (.land, 0, 1), (.lor, 0, 1), (.invokevirtual 134, 3, 3)] else if pc = 747 then [(.lcmp, 0, 1), (.ifCond .eq 1341, 0, 3)] else if pc = 751 then [(.iconst 0, 0, 1), (.ireturn, 0, 1)] else []
def sp163c12 (pc : Nat) : Bool := [718, 747, 1341].contains pc
theorem BT163c12 : bt163c12 689 = [(.aload 1, 0, 1), (.aload 0, 0, 1), (.iload 3, 0, 1), (.iconst 1, 0, 1), (.iadd, 0, 1), (.iaload, 0, 1), (.aload 0, 0, 1), (.iload 3, 0, 1), (.iconst 2, 0, 1), (.iadd, 0, 1), (.iaload, 0, 1), (.i2l, 0, 1), (.iconst 32, 0, 2), (.lshl, 0, 1), (.aload 0, 0, 1), (.iload 3, 0, 1), (.iconst 3, 0, 1), (.iadd, 0, 1), (.iaload, 0, 1), (.i2l, 0, 1), (.ldc2_w 0, 4294967295, 3), (.land, 0, 1), (.lor, 0, 1), (.invokevirtual 56, 3, 3)] ∧ bt163c12 718 = [(.aload 2, 0, 1), (.aload 0, 0, 1), (.iload 3, 0, 1), (.iconst 1, 0, 1), (.iadd, 0, 1), (.iaload, 0, 1), (.aload 0, 0, 1), (.iload 3, 0, 1), (.iconst 2, 0, 1), (.iadd, 0, 1), (.iaload, 0, 1), (.i2l, 0, 1), (.iconst 32, 0, 2), (.lshl, 0, 1), (.aload 0, 0, 1), (.iload 3, 0, 1), (.iconst 3, 0, 1), (.iadd, 0, 1), (.iaload, 0, 1), (.i2l, 0, 1), (.ldc2_w 0, 4294967295, 3), (.land, 0, 1), (.lor, 0, 1), (.invokevirtual 134, 3, 3)] ∧ bt163c12 747 = [(.lcmp, 0, 1), (.ifCond .eq 1341, 0, 3)] ∧ bt163c12 751 = [(.iconst 0, 0, 1), (.ireturn, 0, 1)] ∧ True := ⟨rfl, rfl, rfl, rfl, trivial⟩
theorem SP163c12 : sp163c12 689 = false ∧ sp163c12 718 = true ∧ sp163c12 747 = true ∧ sp163c12 751 = false ∧ sp163c12 1341 = true ∧ True := ⟨rfl, rfl, rfl, rfl, rfl, trivial⟩
set_option maxRecDepth 100000 in
theorem bk163c12 : ∀ pc, blk 163 pc (bt163c12 pc) = true := fun pc => blk_if (by decide +kernel) (blk_if (by decide +kernel) (blk_if (by decide +kernel) (blk_if (by decide +kernel) (rfl))))
theorem lc_12 {S : Nat → KK} {L c s : Nat} {xs : Nat → Int} (hS : Clo (Run 9) 163 (some (L, xs)) 600000 7302250 RtL S) (hxs : ∀ j, rgI (xs j)) (hL : L ≤ 3072) (hc : c ≤ 600000) (hs : s ≤ 7302250) (i : Nat) (hi : i + 6 ≤ L) (M : MM) (hI : INV M) (nx : ∀ M', INV M' → S 1341 [some (vR scr), some (vR 0), some (vR 55), some (vI i)] [] (sh0, c, s) M') : S 689 [some (vR scr), some (vR 0), some (vR 55), some (vI i)] [] (sh0, c, s) M := by
  have hx1 : ∀ j, -2147483648 ≤ xs j := fun j => (hxs j).1
  have hx2 : ∀ j, xs j ≤ 2147483647 := fun j => (hxs j).2
  have hL1 : L ≤ 100000 := by omega
  have f1 : 0 ≤ (i : Int) + 1 := by omega
  have g1 : (i : Int) + 1 < L := by omega
  have t1 : ((i : Int) + 1).toNat = i + 1 := by omega
  have f2 : 0 ≤ (i : Int) + 2 := by omega
  have g2 : (i : Int) + 2 < L := by omega
  have t2 : ((i : Int) + 2).toNat = i + 2 := by omega
  have f3 : 0 ≤ (i : Int) + 3 := by omega
  have g3 : (i : Int) + 3 < L := by omega
  have t3 : ((i : Int) + 3).toNat = i + 3 := by omega
  have f4 : 0 ≤ (i : Int) + 4 := by omega
  have g4 : (i : Int) + 4 < L := by omega
  have t4 : ((i : Int) + 4).toNat = i + 4 := by omega
  have f5 : 0 ≤ (i : Int) + 5 := by omega
  have g5 : (i : Int) + 5 < L := by omega
  have t5 : ((i : Int) + 5).toNat = i + 5 := by omega
  refine wpx_ok hS bk163c12 (sp := sp163c12) 60 689 _ _ _ _ ?_
  simp only [LCM, B2, Bool.not_eq_false, Bool.not_eq_true, decide_eq_true_eq, decide_eq_false_iff_not, Int.not_lt, Int.not_le, CST, TN, WX, WA, WB, GS, LOC, BT163c12, SP163c12, CLS, FLD, ARR, CD, true_and, and_true, and_self, forall_const, true_implies, false_implies, implies_true, not_true_eq_false, not_false_eq_true, if_true, if_false, rgI, rgL, scr, swl, lkl, cats, cat, is2, List.drop_succ_cons, List.drop_zero, List.drop_nil, List.cons_append, List.nil_append, Option.toList_some, Option.toList_none, List.length_cons, List.length_nil, ne_eq, Classical.not_not, reduceCtorEq, Nat.reduceAdd, Nat.reduceSub, Nat.reduceMul, Nat.reduceLT, Nat.reduceLeDiff, Nat.reduceEqDiff, Nat.reduceBEq, Int.reduceToNat, Int.reduceLE, Int.reduceLT, Int.reduceEq, Int.reduceNeg, Int.reduceAdd, Int.reduceSub, Int.reduceMul, Int.toNat_natCast, Nat.zero_add, Int.add_zero, Nat.add_zero, ite_true, ite_false, Option.some.injEq, Nat.le_refl, or_true, true_or, or_false, false_or, if_pos, reduceIte, Nat.reduceGT, Int.lt_irrefl, hx1, hx2, hL1, f1, g1, t1, f2, g2, t2, f3, g3, t3, f4, g4, t4, f5, g5, t5]
  refine ⟨rcv_ok rfl own56 rfl, kW (p_street (xs (i + 1)) (lOr (lShl (xs (i + 2)) 32) (lAnd (xs (i + 3)) 4294967295)) (hxs _) (lOr_rg _ _) M hI) (Nat.le_of_ble_eq_true rfl) rfl rfl (Nat.le_of_ble_eq_true rfl) (Nat.le_of_ble_eq_true rfl) rfl hc hs ?_⟩
  rintro r M1 ⟨v, rfl, hv, hz⟩
  have hv1 := hv.1
  have hv2 := hv.2
  show S 718 _ [Sum.inr (Sum.inl v)] _ M1
  refine wpx_ok hS bk163c12 (sp := sp163c12) 60 718 _ _ _ _ ?_
  simp only [LCM, B2, Bool.not_eq_false, Bool.not_eq_true, decide_eq_true_eq, decide_eq_false_iff_not, Int.not_lt, Int.not_le, CST, TN, WX, WA, WB, GS, LOC, BT163c12, SP163c12, CLS, FLD, ARR, CD, true_and, and_true, and_self, forall_const, true_implies, false_implies, implies_true, not_true_eq_false, not_false_eq_true, if_true, if_false, rgI, rgL, scr, swl, lkl, cats, cat, is2, List.drop_succ_cons, List.drop_zero, List.drop_nil, List.cons_append, List.nil_append, Option.toList_some, Option.toList_none, List.length_cons, List.length_nil, ne_eq, Classical.not_not, reduceCtorEq, Nat.reduceAdd, Nat.reduceSub, Nat.reduceMul, Nat.reduceLT, Nat.reduceLeDiff, Nat.reduceEqDiff, Nat.reduceBEq, Int.reduceToNat, Int.reduceLE, Int.reduceLT, Int.reduceEq, Int.reduceNeg, Int.reduceAdd, Int.reduceSub, Int.reduceMul, Int.toNat_natCast, Nat.zero_add, Int.add_zero, Nat.add_zero, ite_true, ite_false, Option.some.injEq, Nat.le_refl, or_true, true_or, or_false, false_or, if_pos, reduceIte, Nat.reduceGT, Int.lt_irrefl, hx1, hx2, hL1, f1, g1, t1, f2, g2, t2, f3, g3, t3, f4, g4, t4, f5, g5, t5]
  refine ⟨rcv_ok rfl own134 rfl, kW hz (Nat.le_of_ble_eq_true rfl) rfl rfl (Nat.le_of_ble_eq_true rfl) (Nat.le_of_ble_eq_true rfl) rfl hc hs ?_⟩
  rintro r2 M2 ⟨rfl, hI2⟩
  show S 747 _ [Sum.inr (Sum.inl v), Sum.inr (Sum.inl v)] _ M2
  refine wpx_ok hS bk163c12 (sp := sp163c12) 60 747 _ _ _ _ ?_
  simp only [LCM, B2, Bool.not_eq_false, Bool.not_eq_true, decide_eq_true_eq, decide_eq_false_iff_not, Int.not_lt, Int.not_le, CST, TN, WX, WA, WB, GS, LOC, BT163c12, SP163c12, CLS, FLD, ARR, CD, true_and, and_true, and_self, forall_const, true_implies, false_implies, implies_true, not_true_eq_false, not_false_eq_true, if_true, if_false, rgI, rgL, scr, swl, lkl, cats, cat, is2, List.drop_succ_cons, List.drop_zero, List.drop_nil, List.cons_append, List.nil_append, Option.toList_some, Option.toList_none, List.length_cons, List.length_nil, ne_eq, Classical.not_not, reduceCtorEq, Nat.reduceAdd, Nat.reduceSub, Nat.reduceMul, Nat.reduceLT, Nat.reduceLeDiff, Nat.reduceEqDiff, Nat.reduceBEq, Int.reduceToNat, Int.reduceLE, Int.reduceLT, Int.reduceEq, Int.reduceNeg, Int.reduceAdd, Int.reduceSub, Int.reduceMul, Int.toNat_natCast, Nat.zero_add, Int.add_zero, Nat.add_zero, ite_true, ite_false, Option.some.injEq, Nat.le_refl, or_true, true_or, or_false, false_or, if_pos, reduceIte, Nat.reduceGT, Int.lt_irrefl, hv1, hv2]
  exact nx M2 hI2
def bt163c13 (pc : Nat) : BL := if pc = 753 then [(.aload 1, 0, 1), (.aload 0, 0, 1), (.iload 3, 0, 1), (.iconst 1, 0, 1), (.iadd, 0, 1), (.iaload, 0, 1), (.invokevirtual 57, 2, 3)] else if pc = 762 then [(.aload 2, 0, 1), (.aload 0, 0, 1), (.iload 3, 0, 1), (.iconst 1, 0, 1), (.iadd, 0, 1), (.iaload, 0, 1), (.invokevirtual 136, 2, 3)] else if pc = 771 then [(.if_icmp .eq 1341, 0, 3)] else if pc = 774 then [(.iconst 0, 0, 1), (.ireturn, 0, 1)] else []
def sp163c13 (pc : Nat) : Bool := [762, 771, 1341].contains pc
theorem BT163c13 : bt163c13 753 = [(.aload 1, 0, 1), (.aload 0, 0, 1), (.iload 3, 0, 1), (.iconst 1, 0, 1), (.iadd, 0, 1), (.iaload, 0, 1), (.invokevirtual 57, 2, 3)] ∧ bt163c13 762 = [(.aload 2, 0, 1), (.aload 0, 0, 1), (.iload 3, 0, 1), (.iconst 1, 0, 1), (.iadd, 0, 1), (.iaload, 0, 1), (.invokevirtual 136, 2, 3)] ∧ bt163c13 771 = [(.if_icmp .eq 1341, 0, 3)] ∧ bt163c13 774 = [(.iconst 0, 0, 1), (.ireturn, 0, 1)] ∧ True := ⟨rfl, rfl, rfl, rfl, trivial⟩
theorem SP163c13 : sp163c13 753 = false ∧ sp163c13 762 = true ∧ sp163c13 771 = true ∧ sp163c13 774 = false ∧ sp163c13 1341 = true ∧ True := ⟨rfl, rfl, rfl, rfl, rfl, trivial⟩
set_option maxRecDepth 100000 in
theorem bk163c13 : ∀ pc, blk 163 pc (bt163c13 pc) = true := fun pc => blk_if (by decide +kernel) (blk_if (by decide +kernel) (blk_if (by decide +kernel) (blk_if (by decide +kernel) (rfl))))
theorem lc_13 {S : Nat → KK} {L c s : Nat} {xs : Nat → Int} (hS : Clo (Run 9) 163 (some (L, xs)) 600000 7302250 RtL S) (hxs : ∀ j, rgI (xs j)) (hL : L ≤ 3072) (hc : c ≤ 600000) (hs : s ≤ 7302250) (i : Nat) (hi : i + 6 ≤ L) (M : MM) (hI : INV M) (nx : ∀ M', INV M' → S 1341 [some (vR scr), some (vR 0), some (vR 55), some (vI i)] [] (sh0, c, s) M') : S 753 [some (vR scr), some (vR 0), some (vR 55), some (vI i)] [] (sh0, c, s) M := by
  have hx1 : ∀ j, -2147483648 ≤ xs j := fun j => (hxs j).1
  have hx2 : ∀ j, xs j ≤ 2147483647 := fun j => (hxs j).2
  have hL1 : L ≤ 100000 := by omega
  have f1 : 0 ≤ (i : Int) + 1 := by omega
  have g1 : (i : Int) + 1 < L := by omega
  have t1 : ((i : Int) + 1).toNat = i + 1 := by omega
  have f2 : 0 ≤ (i : Int) + 2 := by omega
  have g2 : (i : Int) + 2 < L := by omega
  have t2 : ((i : Int) + 2).toNat = i + 2 := by omega
  have f3 : 0 ≤ (i : Int) + 3 := by omega
  have g3 : (i : Int) + 3 < L := by omega
  have t3 : ((i : Int) + 3).toNat = i + 3 := by omega
  have f4 : 0 ≤ (i : Int) + 4 := by omega
  have g4 : (i : Int) + 4 < L := by omega
  have t4 : ((i : Int) + 4).toNat = i + 4 := by omega
  have f5 : 0 ≤ (i : Int) + 5 := by omega
  have g5 : (i : Int) + 5 < L := by omega
  have t5 : ((i : Int) + 5).toNat = i + 5 := by omega
  refine wpx_ok hS bk163c13 (sp := sp163c13) 60 753 _ _ _ _ ?_
  simp only [LCM, B2, Bool.not_eq_false, Bool.not_eq_true, decide_eq_true_eq, decide_eq_false_iff_not, Int.not_lt, Int.not_le, CST, TN, WX, WA, WB, GS, LOC, BT163c13, SP163c13, CLS, FLD, ARR, CD, true_and, and_true, and_self, forall_const, true_implies, false_implies, implies_true, not_true_eq_false, not_false_eq_true, if_true, if_false, rgI, rgL, scr, swl, lkl, cats, cat, is2, List.drop_succ_cons, List.drop_zero, List.drop_nil, List.cons_append, List.nil_append, Option.toList_some, Option.toList_none, List.length_cons, List.length_nil, ne_eq, Classical.not_not, reduceCtorEq, Nat.reduceAdd, Nat.reduceSub, Nat.reduceMul, Nat.reduceLT, Nat.reduceLeDiff, Nat.reduceEqDiff, Nat.reduceBEq, Int.reduceToNat, Int.reduceLE, Int.reduceLT, Int.reduceEq, Int.reduceNeg, Int.reduceAdd, Int.reduceSub, Int.reduceMul, Int.toNat_natCast, Nat.zero_add, Int.add_zero, Nat.add_zero, ite_true, ite_false, Option.some.injEq, Nat.le_refl, or_true, true_or, or_false, false_or, if_pos, reduceIte, Nat.reduceGT, Int.lt_irrefl, hx1, hx2, hL1, f1, g1, t1, f2, g2, t2, f3, g3, t3, f4, g4, t4, f5, g5, t5]
  refine ⟨rcv_ok rfl own57 rfl, kW (p_same (xs (i + 1)) (hxs _) M hI) (Nat.le_of_ble_eq_true rfl) rfl rfl (Nat.le_of_ble_eq_true rfl) (Nat.le_of_ble_eq_true rfl) rfl hc hs ?_⟩
  rintro r M1 ⟨v, rfl, hv, hz⟩
  have hv1 := hv.1
  have hv2 := hv.2
  show S 762 _ [Sum.inl v] _ M1
  refine wpx_ok hS bk163c13 (sp := sp163c13) 60 762 _ _ _ _ ?_
  simp only [LCM, B2, Bool.not_eq_false, Bool.not_eq_true, decide_eq_true_eq, decide_eq_false_iff_not, Int.not_lt, Int.not_le, CST, TN, WX, WA, WB, GS, LOC, BT163c13, SP163c13, CLS, FLD, ARR, CD, true_and, and_true, and_self, forall_const, true_implies, false_implies, implies_true, not_true_eq_false, not_false_eq_true, if_true, if_false, rgI, rgL, scr, swl, lkl, cats, cat, is2, List.drop_succ_cons, List.drop_zero, List.drop_nil, List.cons_append, List.nil_append, Option.toList_some, Option.toList_none, List.length_cons, List.length_nil, ne_eq, Classical.not_not, reduceCtorEq, Nat.reduceAdd, Nat.reduceSub, Nat.reduceMul, Nat.reduceLT, Nat.reduceLeDiff, Nat.reduceEqDiff, Nat.reduceBEq, Int.reduceToNat, Int.reduceLE, Int.reduceLT, Int.reduceEq, Int.reduceNeg, Int.reduceAdd, Int.reduceSub, Int.reduceMul, Int.toNat_natCast, Nat.zero_add, Int.add_zero, Nat.add_zero, ite_true, ite_false, Option.some.injEq, Nat.le_refl, or_true, true_or, or_false, false_or, if_pos, reduceIte, Nat.reduceGT, Int.lt_irrefl, hx1, hx2, hL1, f1, g1, t1, f2, g2, t2, f3, g3, t3, f4, g4, t4, f5, g5, t5]
  refine ⟨rcv_ok rfl own136 rfl, kW hz (Nat.le_of_ble_eq_true rfl) rfl rfl (Nat.le_of_ble_eq_true rfl) (Nat.le_of_ble_eq_true rfl) rfl hc hs ?_⟩
  rintro r2 M2 ⟨rfl, hI2⟩
  show S 771 _ [Sum.inl v, Sum.inl v] _ M2
  refine wpx_ok hS bk163c13 (sp := sp163c13) 60 771 _ _ _ _ ?_
  simp only [LCM, B2, Bool.not_eq_false, Bool.not_eq_true, decide_eq_true_eq, decide_eq_false_iff_not, Int.not_lt, Int.not_le, CST, TN, WX, WA, WB, GS, LOC, BT163c13, SP163c13, CLS, FLD, ARR, CD, true_and, and_true, and_self, forall_const, true_implies, false_implies, implies_true, not_true_eq_false, not_false_eq_true, if_true, if_false, rgI, rgL, scr, swl, lkl, cats, cat, is2, List.drop_succ_cons, List.drop_zero, List.drop_nil, List.cons_append, List.nil_append, Option.toList_some, Option.toList_none, List.length_cons, List.length_nil, ne_eq, Classical.not_not, reduceCtorEq, Nat.reduceAdd, Nat.reduceSub, Nat.reduceMul, Nat.reduceLT, Nat.reduceLeDiff, Nat.reduceEqDiff, Nat.reduceBEq, Int.reduceToNat, Int.reduceLE, Int.reduceLT, Int.reduceEq, Int.reduceNeg, Int.reduceAdd, Int.reduceSub, Int.reduceMul, Int.toNat_natCast, Nat.zero_add, Int.add_zero, Nat.add_zero, ite_true, ite_false, Option.some.injEq, Nat.le_refl, or_true, true_or, or_false, false_or, if_pos, reduceIte, Nat.reduceGT, Int.lt_irrefl, hv1, hv2]
  exact nx M2 hI2

/-! the component's reader takes an item -/
theorem x_isWeekLength (d : Int) (M : MM) (hd : rgI d) : oI 1 14 [vI d] M (b2i (decide (2 ≤ d ∧ d ≤ 12))) := by
  unfold rgI at hd
  refine go14 (fun S hS => ?_)
  refine wpx_ok hS bk14 (sp := sp14) 60 0 _ _ _ _ ?_
  simp only [LCM, B2, Bool.not_eq_false, Bool.not_eq_true, decide_eq_true_eq, decide_eq_false_iff_not, Int.not_lt, Int.not_le, CST, TN, WX, WA, WB, GS, LOC, BT14, SP14, CLS, FLD, ARR, CD, true_and, and_true, and_self, forall_const, true_implies, false_implies, implies_true, not_true_eq_false, not_false_eq_true, if_true, if_false, rgI, rgL, scr, swl, lkl, cats, cat, is2, List.drop_succ_cons, List.drop_zero, List.drop_nil, List.cons_append, List.nil_append, Option.toList_some, Option.toList_none, List.length_cons, List.length_nil, ne_eq, Classical.not_not, reduceCtorEq, Nat.reduceAdd, Nat.reduceSub, Nat.reduceMul, Nat.reduceLT, Nat.reduceLeDiff, Nat.reduceEqDiff, Nat.reduceBEq, Int.reduceToNat, Int.reduceLE, Int.reduceLT, Int.reduceEq, Int.reduceNeg, Int.reduceAdd, Int.reduceSub, Int.reduceMul, Int.toNat_natCast, Nat.zero_add, Int.add_zero, Nat.add_zero, ite_true, ite_false, Option.some.injEq, Nat.le_refl, or_true, true_or, or_false, false_or, if_pos, reduceIte, Nat.reduceGT]
  refine ⟨hd, fun h => ?_, fun h => ⟨hd, fun h1 => ?_, fun h1 => ?_⟩⟩
  · exact rt14 (by decide) ⟨rfl, by rw [decide_eq_false (by omega)]; rfl, rfl⟩
  · exact rt14 (by decide) ⟨rfl, by rw [decide_eq_false (by omega)]; rfl, rfl⟩
  · exact rt14 (by decide) ⟨rfl, by rw [decide_eq_true (by omega)]; rfl, rfl⟩
theorem x_numbersOf (l : Int) (M : MM) (hl : rgI l) : oI 1 10 [vI l] M (prt l) := by
  unfold rgI at hl
  refine go10 (fun S hS => ?_)
  refine wpx_ok hS bk10 (sp := sp10) 60 0 _ _ _ _ ?_
  simp only [LCM, B2, Bool.not_eq_false, Bool.not_eq_true, decide_eq_true_eq, decide_eq_false_iff_not, Int.not_lt, Int.not_le, CST, TN, WX, WA, WB, GS, LOC, BT10, SP10, CLS, FLD, ARR, CD, true_and, and_true, and_self, forall_const, true_implies, false_implies, implies_true, not_true_eq_false, not_false_eq_true, if_true, if_false, rgI, rgL, scr, swl, lkl, cats, cat, is2, List.drop_succ_cons, List.drop_zero, List.drop_nil, List.cons_append, List.nil_append, Option.toList_some, Option.toList_none, List.length_cons, List.length_nil, ne_eq, Classical.not_not, reduceCtorEq, Nat.reduceAdd, Nat.reduceSub, Nat.reduceMul, Nat.reduceLT, Nat.reduceLeDiff, Nat.reduceEqDiff, Nat.reduceBEq, Int.reduceToNat, Int.reduceLE, Int.reduceLT, Int.reduceEq, Int.reduceNeg, Int.reduceAdd, Int.reduceSub, Int.reduceMul, Int.toNat_natCast, Nat.zero_add, Int.add_zero, Nat.add_zero, ite_true, ite_false, Option.some.injEq, Nat.le_refl, or_true, true_or, or_false, false_or, if_pos, reduceIte, Nat.reduceGT]
  refine ⟨hl, fun h1 => ?_, fun h1 => ⟨fun h2 => ?_, fun h2 => ⟨fun h3 => ?_, fun h3 => ⟨fun h4 => ?_, fun h4 => ⟨fun h5 => ?_, fun h5 => ?_⟩⟩⟩⟩⟩
  · subst h1; exact rt10 ⟨rfl, rfl, rfl⟩
  · subst h2; exact rt10 ⟨rfl, rfl, rfl⟩
  · subst h3; exact rt10 ⟨rfl, rfl, rfl⟩
  · subst h4; exact rt10 ⟨rfl, rfl, rfl⟩
  · subst h5; exact rt10 ⟨rfl, rfl, rfl⟩
  · exact rt10 ⟨rfl, by unfold prt; rw [if_neg h2, if_neg h3, if_neg h5, if_neg (by omega)]; rfl, rfl⟩
theorem x_isFigure (tx : Nat → Int) (n p : Nat) (M : MM) (hn4 : n ≤ 400) (hb : ∀ k, -128 ≤ tx k ∧ tx k ≤ 127) (hx : ∀ k, k < n → M 1 k = tx k) (hp : p ≤ 1000) : oI 1 11 [vR 1, vI n, vI p] M (b2i (fig tx n p)) := by
  have hbp := hb p
  refine go11 (fun S hS => ?_)
  by_cases hpn : p < n
  · refine wpx_ok hS bk11 (sp := sp11) 60 0 _ _ _ _ ?_
    simp only [LCM, B2, Bool.not_eq_false, Bool.not_eq_true, decide_eq_true_eq, decide_eq_false_iff_not, Int.not_lt, Int.not_le, CST, TN, WX, WA, WB, GS, LOC, BT11, SP11, CLS, FLD, ARR, CD, true_and, and_true, and_self, forall_const, true_implies, false_implies, implies_true, not_true_eq_false, not_false_eq_true, if_true, if_false, rgI, rgL, scr, swl, lkl, cats, cat, is2, List.drop_succ_cons, List.drop_zero, List.drop_nil, List.cons_append, List.nil_append, Option.toList_some, Option.toList_none, List.length_cons, List.length_nil, ne_eq, Classical.not_not, reduceCtorEq, Nat.reduceAdd, Nat.reduceSub, Nat.reduceMul, Nat.reduceLT, Nat.reduceLeDiff, Nat.reduceEqDiff, Nat.reduceBEq, Int.reduceToNat, Int.reduceLE, Int.reduceLT, Int.reduceEq, Int.reduceNeg, Int.reduceAdd, Int.reduceSub, Int.reduceMul, Int.toNat_natCast, Nat.zero_add, Int.add_zero, Nat.add_zero, ite_true, ite_false, Option.some.injEq, Nat.le_refl, or_true, true_or, or_false, false_or, if_pos, reduceIte, Nat.reduceGT]
    rw [hx p hpn]
    refine ⟨by omega, fun h => by omega, fun h => ⟨by omega, by omega, fun h1 => ?_, fun h1 => ⟨by omega, by omega, fun h2 => ?_, fun h2 => ?_⟩⟩⟩
    · exact rt11 (by decide) ⟨rfl, by unfold fig; rw [decide_eq_false (by omega)]; rfl, rfl⟩
    · exact rt11 (by decide) ⟨rfl, by unfold fig; rw [decide_eq_false (by omega)]; rfl, rfl⟩
    · exact rt11 (by decide) ⟨rfl, by unfold fig; rw [decide_eq_true (by omega)]; rfl, rfl⟩
  · refine wpx_ok hS bk11 (sp := sp11) 60 0 _ _ _ _ ?_
    simp only [LCM, B2, Bool.not_eq_false, Bool.not_eq_true, decide_eq_true_eq, decide_eq_false_iff_not, Int.not_lt, Int.not_le, CST, TN, WX, WA, WB, GS, LOC, BT11, SP11, CLS, FLD, ARR, CD, true_and, and_true, and_self, forall_const, true_implies, false_implies, implies_true, not_true_eq_false, not_false_eq_true, if_true, if_false, rgI, rgL, scr, swl, lkl, cats, cat, is2, List.drop_succ_cons, List.drop_zero, List.drop_nil, List.cons_append, List.nil_append, Option.toList_some, Option.toList_none, List.length_cons, List.length_nil, ne_eq, Classical.not_not, reduceCtorEq, Nat.reduceAdd, Nat.reduceSub, Nat.reduceMul, Nat.reduceLT, Nat.reduceLeDiff, Nat.reduceEqDiff, Nat.reduceBEq, Int.reduceToNat, Int.reduceLE, Int.reduceLT, Int.reduceEq, Int.reduceNeg, Int.reduceAdd, Int.reduceSub, Int.reduceMul, Int.toNat_natCast, Nat.zero_add, Int.add_zero, Nat.add_zero, ite_true, ite_false, Option.some.injEq, Nat.le_refl, or_true, true_or, or_false, false_or, if_pos, reduceIte, Nat.reduceGT]
    refine ⟨by omega, fun h => ?_, fun h => by omega⟩
    exact rt11 (by decide) ⟨rfl, by unfold fig; rw [decide_eq_false (by omega)]; rfl, rfl⟩
theorem bUsr_nat {a : Nat} (ha : a < 1024) {h : Nat} (hh : h < 10) : bUsr (a : Int) (h : Int) = ((a >>> h : Nat) : Int) := by
  have : ∀ h : Nat, h < 10 → ∀ a : Nat, a < 1024 → bUsr (a : Int) (h : Int) = ((a >>> h : Nat) : Int) := by decide +kernel
  exact this h hh a ha
theorem mk_usr {p : Nat → Bool} {h : Nat} (hh : h < 10) : rgI (bUsr (mk p) (h : Int)) ∧ (bUsr (mk p) (h : Int) = 0 ↔ ∀ i : Nat, i < 10 → (h : Int) ≤ (i : Int) → p i = false) := by
  have h1 := mkN_10 p
  unfold mk
  rw [bUsr_nat h1 hh]
  have h2 : mkN p 10 >>> h ≤ mkN p 10 := Nat.shiftRight_le _ _
  refine ⟨by unfold rgI; generalize mkN p 10 >>> h = z at h2 ⊢; omega, ?_⟩
  constructor
  · intro h3 i hi hhi
    have h4 : mkN p 10 >>> h = 0 := by omega
    have h5 : (mkN p 10 >>> h).testBit (i - h) = false := by rw [h4, Nat.zero_testBit]
    rw [Nat.testBit_shiftRight, show h + (i - h) = i by omega, mkN_bit, decide_eq_true hi, Bool.true_and] at h5
    exact h5
  · intro h3
    have h4 : mkN p 10 >>> h = 0 := by
      apply Nat.eq_of_testBit_eq
      intro j
      rw [Nat.testBit_shiftRight, mkN_bit, Nat.zero_testBit]
      by_cases hj : h + j < 10
      · rw [h3 (h + j) hj (by omega), Bool.and_false]
      · rw [decide_eq_false hj, Bool.false_and]
    omega
def RP (M D : MM) : Prop := ∀ i, i < hN D → M 4 i = D 62 i
def tkX5 (M : MM) (o : Option MM) : Option AV → MM → Prop := fun r M' => r = some (Sum.inl (b2i o.isSome)) ∧ (∀ D', o = some D' → RD5 M' D' ∧ RP M' D') ∧ (∀ k j, ¬ pfr5 k j → M' k j = M k j) ∧ M' 13 3 = M 13 3
theorem RD5.cg2 {M N D E : MM} (h : RD5 M D) (e : ∀ k j, k = 58 ∨ k = 59 ∨ k = 61 ∨ k = 63 ∨ k = 64 → E k j = D k j) (n : ∀ k j, (7 ≤ k ∧ k ≤ 12) ∨ (k = 5 ∧ (j = 1 ∨ j = 5)) ∨ (13 ≤ k ∧ k ≤ 15) → N k j = M k j) (w : N 6 0 = E 57 0 ∧ N 6 1 = E 57 1 ∧ N 5 9 = E 60 0) : RD5 N E := by
  have eh : hN E = hN D := by unfold hN; rw [e 58 0 (by omega)]
  have ew : wN E = wN D := by unfold wN; rw [e 59 0 (by omega)]
  obtain ⟨⟨a1, a2, a3, a4, a5⟩, hb, hc, hw, he, hf⟩ := h
  refine ⟨⟨w.1, w.2.1, ?_, ?_, w.2.2⟩, fun i hi => ?_, fun s hs => ?_, fun x hx => ?_, fun i hi => ?_, ?_⟩
  · rw [n _ _ (by omega), e _ _ (by omega)]; exact a3
  · rw [n _ _ (by omega), e _ _ (by omega)]; exact a4
  · rw [eh] at hi
    rw [n _ _ (by omega), n _ _ (by omega), e _ _ (by omega), e _ _ (by omega)]; exact hb i hi
  · rw [n _ _ (by omega), hc s hs]
    refine mk_eq (fun i _ => ?_)
    unfold skP skB
    rw [eh, e _ _ (by omega)]
  · rw [ew] at hx
    rw [n _ _ (by omega), n _ _ (by omega), n _ _ (by omega), e _ _ (by omega), e _ _ (by omega), e _ _ (by omega)]; exact hw x hx
  · rw [eh] at hi
    rw [n _ _ (by omega), n _ _ (by omega), e _ _ (by omega), e _ _ (by omega)]; exact he i hi
  · rw [n _ _ (by omega), hf]
    refine mk_eq (fun i _ => ?_)
    unfold newP newB
    rw [e _ _ (by omega)]
theorem x_takeWeeks5 (v : Nat → Int) (M D : MM) (hR : RD5 M D) (hP : RP M D) (hv : ∀ k, k < 2 → M 3 k = v k ∧ 0 ≤ v k ∧ v k ≤ 99) : oQ 2 13 [vR 2, vR 5] M (tkX5 M (tkW D v)) := by
  have v0 := hv 0 (by decide)
  have v1 := hv 1 (by decide)
  have no : ¬ ((2 ≤ v 0 ∧ v 0 ≤ 12) ∧ (2 ≤ v 1 ∧ v 1 ≤ 12)) → Rtn 13 0 0 (fun r sh M' => sh = sh0 ∧ tkX5 M (tkW D v) r M') (some (Sum.inl 0)) (sh0, 0, 0) M := fun h => by
    have hn : tkW D v = none := by unfold tkW; rw [if_neg h]
    exact rt13 (by decide) ⟨rfl, by rw [hn]; rfl, fun D' hD => (by rw [hn] at hD; cases hD), fun _ _ _ => rfl, rfl⟩
  refine go13 (fun S hS => ?_)
  refine wpx_ok hS bk13 (sp := sp13) 60 0 _ _ _ _ ?_
  simp only [LCM, B2, Bool.not_eq_false, Bool.not_eq_true, decide_eq_true_eq, decide_eq_false_iff_not, Int.not_lt, Int.not_le, CST, TN, WX, WA, WB, GS, LOC, BT13, SP13, CLS, FLD, ARR, CD, true_and, and_true, and_self, forall_const, true_implies, false_implies, implies_true, not_true_eq_false, not_false_eq_true, if_true, if_false, rgI, rgL, scr, swl, lkl, cats, cat, is2, List.drop_succ_cons, List.drop_zero, List.drop_nil, List.cons_append, List.nil_append, Option.toList_some, Option.toList_none, List.length_cons, List.length_nil, ne_eq, Classical.not_not, reduceCtorEq, Nat.reduceAdd, Nat.reduceSub, Nat.reduceMul, Nat.reduceLT, Nat.reduceLeDiff, Nat.reduceEqDiff, Nat.reduceBEq, Int.reduceToNat, Int.reduceLE, Int.reduceLT, Int.reduceEq, Int.reduceNeg, Int.reduceAdd, Int.reduceSub, Int.reduceMul, Int.toNat_natCast, Nat.zero_add, Int.add_zero, Nat.add_zero, ite_true, ite_false, Option.some.injEq, Nat.le_refl, or_true, true_or, or_false, false_or, if_pos, reduceIte, Nat.reduceGT, ms_ne, ms_eq, ms_nj]
  rw [v0.1]
  refine kI (x_isWeekLength (v 0) M (by unfold rgI; omega)) (Nat.le_of_ble_eq_true rfl) rfl rfl (Nat.le_of_ble_eq_true rfl) (Nat.le_of_ble_eq_true rfl) rfl ?_
  refine wpx_ok hS bk13 (sp := sp13) 60 9 _ _ _ _ ?_
  simp only [LCM, B2, Bool.not_eq_false, Bool.not_eq_true, decide_eq_true_eq, decide_eq_false_iff_not, Int.not_lt, Int.not_le, CST, TN, WX, WA, WB, GS, LOC, BT13, SP13, CLS, FLD, ARR, CD, true_and, and_true, and_self, forall_const, true_implies, false_implies, implies_true, not_true_eq_false, not_false_eq_true, if_true, if_false, rgI, rgL, scr, swl, lkl, cats, cat, is2, List.drop_succ_cons, List.drop_zero, List.drop_nil, List.cons_append, List.nil_append, Option.toList_some, Option.toList_none, List.length_cons, List.length_nil, ne_eq, Classical.not_not, reduceCtorEq, Nat.reduceAdd, Nat.reduceSub, Nat.reduceMul, Nat.reduceLT, Nat.reduceLeDiff, Nat.reduceEqDiff, Nat.reduceBEq, Int.reduceToNat, Int.reduceLE, Int.reduceLT, Int.reduceEq, Int.reduceNeg, Int.reduceAdd, Int.reduceSub, Int.reduceMul, Int.toNat_natCast, Nat.zero_add, Int.add_zero, Nat.add_zero, ite_true, ite_false, Option.some.injEq, Nat.le_refl, or_true, true_or, or_false, false_or, if_pos, reduceIte, Nat.reduceGT, ms_ne, ms_eq, ms_nj]
  rw [v1.1]
  refine ⟨fun h => no (fun z => h z.1), fun h => ?_⟩
  refine kI (x_isWeekLength (v 1) M (by unfold rgI; omega)) (Nat.le_of_ble_eq_true rfl) rfl rfl (Nat.le_of_ble_eq_true rfl) (Nat.le_of_ble_eq_true rfl) rfl ?_
  refine wpx_ok hS bk13 (sp := sp13) 60 21 _ _ _ _ ?_
  simp only [LCM, B2, Bool.not_eq_false, Bool.not_eq_true, decide_eq_true_eq, decide_eq_false_iff_not, Int.not_lt, Int.not_le, CST, TN, WX, WA, WB, GS, LOC, BT13, SP13, CLS, FLD, ARR, CD, true_and, and_true, and_self, forall_const, true_implies, false_implies, implies_true, not_true_eq_false, not_false_eq_true, if_true, if_false, rgI, rgL, scr, swl, lkl, cats, cat, is2, List.drop_succ_cons, List.drop_zero, List.drop_nil, List.cons_append, List.nil_append, Option.toList_some, Option.toList_none, List.length_cons, List.length_nil, ne_eq, Classical.not_not, reduceCtorEq, Nat.reduceAdd, Nat.reduceSub, Nat.reduceMul, Nat.reduceLT, Nat.reduceLeDiff, Nat.reduceEqDiff, Nat.reduceBEq, Int.reduceToNat, Int.reduceLE, Int.reduceLT, Int.reduceEq, Int.reduceNeg, Int.reduceAdd, Int.reduceSub, Int.reduceMul, Int.toNat_natCast, Nat.zero_add, Int.add_zero, Nat.add_zero, ite_true, ite_false, Option.some.injEq, Nat.le_refl, or_true, true_or, or_false, false_or, if_pos, reduceIte, Nat.reduceGT, ms_ne, ms_eq, ms_nj]
  rw [v0.1, v1.1]
  refine ⟨fun h1 => ?_, fun h1 => no (fun z => h1 z.2)⟩
  have hs : tkW D v = some (mset (mset D 57 0 (v 0)) 57 1 (v 1)) := by unfold tkW; rw [if_pos ⟨h, h1⟩]
  refine rt13 (by decide) ⟨rfl, by rw [hs]; rfl, fun D' hD => ?_, fun k j hk => ?_, rfl⟩
  · rw [hs] at hD
    cases hD
    refine ⟨hR.cg2 (fun k j hk => by rw [ms_ne (by omega), ms_ne (by omega)]) (fun k j hk => by rw [ms_ne (by omega), ms_ne (by omega)]) ⟨rfl, rfl, hR.1.2.2.2.2⟩, fun i hi => hP i hi⟩
  · unfold pfr5 at hk
    rw [ms_ne (by omega), ms_ne (by omega)]
theorem x_takeCook5 (v : Nat → Int) (M D : MM) (hd : WFd D) (hR : RD5 M D) (hP : RP M D) (hv : ∀ k, k < 1 → M 3 k = v k ∧ 0 ≤ v k ∧ v k ≤ 99) : oQ 1 18 [vR 2, vR 5] M (tkX5 M (tkC D v)) := by
  have v0 := hv 0 (by decide)
  have hH := hd.H
  refine go18 (fun S hS => ?_)
  refine wpx_ok hS bk18 (sp := sp18) 60 0 _ _ _ _ ?_
  simp only [LCM, B2, Bool.not_eq_false, Bool.not_eq_true, decide_eq_true_eq, decide_eq_false_iff_not, Int.not_lt, Int.not_le, CST, TN, WX, WA, WB, GS, LOC, BT18, SP18, CLS, FLD, ARR, CD, true_and, and_true, and_self, forall_const, true_implies, false_implies, implies_true, not_true_eq_false, not_false_eq_true, if_true, if_false, rgI, rgL, scr, swl, lkl, cats, cat, is2, List.drop_succ_cons, List.drop_zero, List.drop_nil, List.cons_append, List.nil_append, Option.toList_some, Option.toList_none, List.length_cons, List.length_nil, ne_eq, Classical.not_not, reduceCtorEq, Nat.reduceAdd, Nat.reduceSub, Nat.reduceMul, Nat.reduceLT, Nat.reduceLeDiff, Nat.reduceEqDiff, Nat.reduceBEq, Int.reduceToNat, Int.reduceLE, Int.reduceLT, Int.reduceEq, Int.reduceNeg, Int.reduceAdd, Int.reduceSub, Int.reduceMul, Int.toNat_natCast, Nat.zero_add, Int.add_zero, Nat.add_zero, ite_true, ite_false, Option.some.injEq, Nat.le_refl, or_true, true_or, or_false, false_or, if_pos, reduceIte, Nat.reduceGT, ms_ne, ms_eq, ms_nj]
  rw [v0.1, hR.1.2.2.1]
  refine ⟨by omega, fun h => ?_, fun h => ?_⟩
  · have hs : tkC D v = some (mset D 60 0 (v 0)) := by unfold tkC; rw [if_pos h]
    refine rt18 (by decide) ⟨rfl, by rw [hs]; rfl, fun D' hD => ?_, fun k j hk => ?_, rfl⟩
    · rw [hs] at hD
      cases hD
      refine ⟨hR.cg2 (fun k j hk => by rw [ms_ne (by omega)]) (fun k j hk => by unfold mset; rw [if_neg (by omega)]) ⟨hR.1.1, hR.1.2.1, rfl⟩, fun i hi => hP i hi⟩
    · unfold pfr5 at hk
      rw [ms_ne (by omega)]
  · have hn : tkC D v = none := by unfold tkC; rw [if_neg (by omega)]
    exact rt18 (by decide) ⟨rfl, by rw [hn]; rfl, fun D' hD => (by rw [hn] at hD; cases hD), fun _ _ _ => rfl, rfl⟩
theorem x_takeWork5 (v : Nat → Int) (M D : MM) (hd : WFd D) (hR : RD5 M D) (hP : RP M D) (hv : ∀ k, k < 3 → M 3 k = v k ∧ 0 ≤ v k ∧ v k ≤ 99) : oQ 2 17 [vR 2, vR 5] M (tkX5 M (tkM D v)) := by
  have v0 := hv 0 (by decide)
  have v1 := hv 1 (by decide)
  have v2 := hv 2 (by decide)
  have hW := hd.W
  have e5 : M 5 5 = (wN D : Int) := by rw [hR.1.2.2.2.1, hW.1]
  have no : ¬ ((v 0 ≤ 4 ∧ (1 ≤ v 1 ∧ v 1 ≤ 9) ∧ (1 ≤ v 2 ∧ v 2 ≤ 9)) ∧ D 59 0 ≠ 6) → Rtn 17 0 0 (fun r sh M' => sh = sh0 ∧ tkX5 M (tkM D v) r M') (some (Sum.inl 0)) (sh0, 0, 0) M := fun h => by
    have hn : tkM D v = none := by unfold tkM; rw [if_neg h]
    exact rt17 (by decide) ⟨rfl, by rw [hn]; rfl, fun D' hD => (by rw [hn] at hD; cases hD), fun _ _ _ => rfl, rfl⟩
  refine go17 (fun S hS => ?_)
  refine wpx_ok hS bk17 (sp := sp17) 60 0 _ _ _ _ ?_
  simp only [LCM, B2, Bool.not_eq_false, Bool.not_eq_true, decide_eq_true_eq, decide_eq_false_iff_not, Int.not_lt, Int.not_le, CST, TN, WX, WA, WB, GS, LOC, BT17, SP17, CLS, FLD, ARR, CD, true_and, and_true, and_self, forall_const, true_implies, false_implies, implies_true, not_true_eq_false, not_false_eq_true, if_true, if_false, rgI, rgL, scr, swl, lkl, cats, cat, is2, List.drop_succ_cons, List.drop_zero, List.drop_nil, List.cons_append, List.nil_append, Option.toList_some, Option.toList_none, List.length_cons, List.length_nil, ne_eq, Classical.not_not, reduceCtorEq, Nat.reduceAdd, Nat.reduceSub, Nat.reduceMul, Nat.reduceLT, Nat.reduceLeDiff, Nat.reduceEqDiff, Nat.reduceBEq, Int.reduceToNat, Int.reduceLE, Int.reduceLT, Int.reduceEq, Int.reduceNeg, Int.reduceAdd, Int.reduceSub, Int.reduceMul, Int.toNat_natCast, Nat.zero_add, Int.add_zero, Nat.add_zero, ite_true, ite_false, Option.some.injEq, Nat.le_refl, or_true, true_or, or_false, false_or, if_pos, reduceIte, Nat.reduceGT, ms_ne, ms_eq, ms_nj]
  rw [v0.1, v1.1, v2.1, e5]
  refine ⟨by omega, fun h => no (by omega), fun h => ⟨by omega, fun h1 => no (by omega), fun h1 => ⟨by omega, fun h2 => no (by omega), fun h2 => ⟨by omega, fun h3 => no (by omega), fun h3 => ⟨by omega, fun h4 => no (by omega), fun h4 => ⟨by omega, fun h5 => ?_, fun h5 => no (by omega)⟩⟩⟩⟩⟩⟩
  refine ⟨rcv_ok rfl own30 rfl, kV (x_addWork5 (wN D) (v 0) (v 1) (v 2) M e5 (by omega)) (Nat.le_of_ble_eq_true rfl) rfl rfl (Nat.le_of_ble_eq_true rfl) (Nat.le_of_ble_eq_true rfl) rfl ?_⟩
  refine wpx_ok hS bk17 (sp := sp17) 60 85 _ _ _ _ ?_
  simp only [LCM, B2, Bool.not_eq_false, Bool.not_eq_true, decide_eq_true_eq, decide_eq_false_iff_not, Int.not_lt, Int.not_le, CST, TN, WX, WA, WB, GS, LOC, BT17, SP17, CLS, FLD, ARR, CD, true_and, and_true, and_self, forall_const, true_implies, false_implies, implies_true, not_true_eq_false, not_false_eq_true, if_true, if_false, rgI, rgL, scr, swl, lkl, cats, cat, is2, List.drop_succ_cons, List.drop_zero, List.drop_nil, List.cons_append, List.nil_append, Option.toList_some, Option.toList_none, List.length_cons, List.length_nil, ne_eq, Classical.not_not, reduceCtorEq, Nat.reduceAdd, Nat.reduceSub, Nat.reduceMul, Nat.reduceLT, Nat.reduceLeDiff, Nat.reduceEqDiff, Nat.reduceBEq, Int.reduceToNat, Int.reduceLE, Int.reduceLT, Int.reduceEq, Int.reduceNeg, Int.reduceAdd, Int.reduceSub, Int.reduceMul, Int.toNat_natCast, Nat.zero_add, Int.add_zero, Nat.add_zero, ite_true, ite_false, Option.some.injEq, Nat.le_refl, or_true, true_or, or_false, false_or, if_pos, reduceIte, Nat.reduceGT, ms_ne, ms_eq, ms_nj]
  have hs : tkM D v = some (adW D (v 0) (v 1) (v 2)) := by unfold tkM; rw [if_pos (by omega)]
  refine rt17 (by decide) ⟨rfl, by rw [hs]; rfl, fun D' hD => ?_, fun k j hk => ?_, rfl⟩
  · rw [hs] at hD
    cases hD
    refine ⟨hR.addW hd (v 0) (v 1) (v 2) ms_eq (fun i => ?_) (fun i => ?_) (fun i => ?_) (fun k j hk => ?_), fun i hi => ?_⟩
    · unfold mset; simp
    · unfold mset; simp
    · unfold mset; simp
    · unfold mset; rw [if_neg (by omega), if_neg (by omega), if_neg (by omega), if_neg (by omega)]
    · have eh : hN (adW D (v 0) (v 1) (v 2)) = hN D := by unfold hN; rw [adW_no (by decide) (by decide)]
      rw [eh] at hi
      rw [adW_no (by decide) (by decide), ms_ne (by decide), ms_ne (by decide), ms_ne (by decide), ms_ne (by decide)]
      exact hP i hi
  · unfold pfr5 at hk
    rw [ms_ne (by omega), ms_ne (by omega), ms_ne (by omega), ms_ne (by omega)]
theorem x_takeNew5 (v : Nat → Int) (M D : MM) (hd : WFd D) (hR : RD5 M D) (hP : RP M D) (hv : ∀ k, k < 1 → M 3 k = v k ∧ 0 ≤ v k ∧ v k ≤ 99) : oQ 2 16 [vR 2, vR 5, vR 13] M (tkX5 M (tkN D v)) := by
  have v0 := hv 0 (by decide)
  have hH := hd.H
  have hnP : newP D = newB D := rfl
  have eb := hR.2.2.2.2.2
  rw [hnP] at eb
  have hcr := cnt_rg (newB D) 10
  have no : ¬ (v 0 < D 58 0 ∧ cnt (newB D) 10 < 3 ∧ (∀ i : Nat, i < 10 → v 0 ≤ (i : Int) → newB D i = false)) → Rtn 16 0 0 (fun r sh M' => sh = sh0 ∧ tkX5 M (tkN D v) r M') (some (Sum.inl 0)) (sh0, 0, 0) M := fun h => by
    have hn : tkN D v = none := by unfold tkN; rw [if_neg h]
    exact rt16 (by decide) ⟨rfl, by rw [hn]; rfl, fun D' hD => (by rw [hn] at hD; cases hD), fun _ _ _ => rfl, rfl⟩
  obtain ⟨a, ha⟩ : ∃ a : Nat, v 0 = (a : Int) := ⟨(v 0).toNat, by omega⟩
  rw [ha] at no v0
  refine go16 (fun S hS => ?_)
  refine wpx_ok hS bk16 (sp := sp16) 60 0 _ _ _ _ ?_
  simp only [LCM, B2, Bool.not_eq_false, Bool.not_eq_true, decide_eq_true_eq, decide_eq_false_iff_not, Int.not_lt, Int.not_le, CST, TN, WX, WA, WB, GS, LOC, BT16, SP16, CLS, FLD, ARR, CD, true_and, and_true, and_self, forall_const, true_implies, false_implies, implies_true, not_true_eq_false, not_false_eq_true, if_true, if_false, rgI, rgL, scr, swl, lkl, cats, cat, is2, List.drop_succ_cons, List.drop_zero, List.drop_nil, List.cons_append, List.nil_append, Option.toList_some, Option.toList_none, List.length_cons, List.length_nil, ne_eq, Classical.not_not, reduceCtorEq, Nat.reduceAdd, Nat.reduceSub, Nat.reduceMul, Nat.reduceLT, Nat.reduceLeDiff, Nat.reduceEqDiff, Nat.reduceBEq, Int.reduceToNat, Int.reduceLE, Int.reduceLT, Int.reduceEq, Int.reduceNeg, Int.reduceAdd, Int.reduceSub, Int.reduceMul, Int.toNat_natCast, Nat.zero_add, Int.add_zero, Nat.add_zero, ite_true, ite_false, Option.some.injEq, Nat.le_refl, or_true, true_or, or_false, false_or, if_pos, reduceIte, Nat.reduceGT, ms_ne, ms_eq, ms_nj]
  rw [v0.1, hR.1.2.2.1, eb]
  refine ⟨by omega, fun h => no (by omega), fun h => ?_⟩
  refine kI (c_bitCount (newB D) M) (Nat.le_of_ble_eq_true rfl) rfl rfl (Nat.le_of_ble_eq_true rfl) (Nat.le_of_ble_eq_true rfl) rfl ?_
  have hu := mk_usr (p := newB D) (h := a) (by omega)
  refine wpx_ok hS bk16 (sp := sp16) 60 22 _ _ _ _ ?_
  simp only [LCM, B2, Bool.not_eq_false, Bool.not_eq_true, decide_eq_true_eq, decide_eq_false_iff_not, Int.not_lt, Int.not_le, CST, TN, WX, WA, WB, GS, LOC, BT16, SP16, CLS, FLD, ARR, CD, true_and, and_true, and_self, forall_const, true_implies, false_implies, implies_true, not_true_eq_false, not_false_eq_true, if_true, if_false, rgI, rgL, scr, swl, lkl, cats, cat, is2, List.drop_succ_cons, List.drop_zero, List.drop_nil, List.cons_append, List.nil_append, Option.toList_some, Option.toList_none, List.length_cons, List.length_nil, ne_eq, Classical.not_not, reduceCtorEq, Nat.reduceAdd, Nat.reduceSub, Nat.reduceMul, Nat.reduceLT, Nat.reduceLeDiff, Nat.reduceEqDiff, Nat.reduceBEq, Int.reduceToNat, Int.reduceLE, Int.reduceLT, Int.reduceEq, Int.reduceNeg, Int.reduceAdd, Int.reduceSub, Int.reduceMul, Int.toNat_natCast, Nat.zero_add, Int.add_zero, Nat.add_zero, ite_true, ite_false, Option.some.injEq, Nat.le_refl, or_true, true_or, or_false, false_or, if_pos, reduceIte, Nat.reduceGT, ms_ne, ms_eq, ms_nj]
  rw [eb]
  refine ⟨by omega, fun h1 => ⟨hu.1, fun h2 => ?_, fun h2 => ?_⟩, fun h1 => no (by omega)⟩
  · have hs : tkN D v = some (mset D 64 a 1) := by
      unfold tkN
      rw [ha, if_pos ⟨h, h1, hu.2.mp h2⟩, Int.toNat_natCast]
    refine rt16 (by decide) ⟨rfl, by rw [hs]; rfl, fun D' hD => ?_, fun k j hk => ?_, rfl⟩
    · rw [hs] at hD
      cases hD
      refine ⟨⟨hR.1, hR.2.1, hR.2.2.1, hR.2.2.2.1, hR.2.2.2.2.1, ?_⟩, fun i hi => hP i hi⟩
      rw [ms_eq, mk_put (by omega)]
      refine mk_eq (fun i _ => ?_)
      unfold newP newB
      by_cases hia : i = a
      · subst hia; rw [ms_eq]; simp
      · rw [ms_nj hia, beq_eq_false_iff_ne.mpr hia, Bool.or_false]
    · unfold pfr5 at hk
      unfold mset
      rw [if_neg (by omega)]
  · exact no (fun z => h2 (hu.2.mpr z.2.2))
theorem x_takeHouse5 (p : Nat) (v : Nat → Int) (M D : MM) (hd : WFd D) (hR : RD5 M D) (hP : RP M D) (hv : ∀ k, k < 4 → M 3 k = v k ∧ 0 ≤ v k ∧ v k ≤ 99) : oQ 2 15 [vR 2, vI p, vR 5, vR 13] M (tkX5 M (tkH D p v)) := by
  have v0 := hv 0 (by decide)
  have v1 := hv 1 (by decide)
  have v2 := hv 2 (by decide)
  have v3 := hv 3 (by decide)
  have hH := hd.H
  have e1 : M 5 1 = (hN D : Int) := by rw [hR.1.2.2.1, hH.1]
  have no : ¬ ((v 0 ≤ 1 ∧ v 2 ≤ 31 ∧ v 3 ≤ 3) ∧ D 58 0 ≠ 10) → Rtn 15 0 0 (fun r sh M' => sh = sh0 ∧ tkX5 M (tkH D p v) r M') (some (Sum.inl 0)) (sh0, 0, 0) M := fun h => by
    have hn : tkH D p v = none := by unfold tkH; rw [if_neg h]
    exact rt15 (by decide) ⟨rfl, by rw [hn]; rfl, fun D' hD => (by rw [hn] at hD; cases hD), fun _ _ _ => rfl, rfl⟩
  refine go15 (fun S hS => ?_)
  refine wpx_ok hS bk15 (sp := sp15) 60 0 _ _ _ _ ?_
  simp only [LCM, B2, Bool.not_eq_false, Bool.not_eq_true, decide_eq_true_eq, decide_eq_false_iff_not, Int.not_lt, Int.not_le, CST, TN, WX, WA, WB, GS, LOC, BT15, SP15, CLS, FLD, ARR, CD, true_and, and_true, and_self, forall_const, true_implies, false_implies, implies_true, not_true_eq_false, not_false_eq_true, if_true, if_false, rgI, rgL, scr, swl, lkl, cats, cat, is2, List.drop_succ_cons, List.drop_zero, List.drop_nil, List.cons_append, List.nil_append, Option.toList_some, Option.toList_none, List.length_cons, List.length_nil, ne_eq, Classical.not_not, reduceCtorEq, Nat.reduceAdd, Nat.reduceSub, Nat.reduceMul, Nat.reduceLT, Nat.reduceLeDiff, Nat.reduceEqDiff, Nat.reduceBEq, Int.reduceToNat, Int.reduceLE, Int.reduceLT, Int.reduceEq, Int.reduceNeg, Int.reduceAdd, Int.reduceSub, Int.reduceMul, Int.toNat_natCast, Nat.zero_add, Int.add_zero, Nat.add_zero, ite_true, ite_false, Option.some.injEq, Nat.le_refl, or_true, true_or, or_false, false_or, if_pos, reduceIte, Nat.reduceGT, ms_ne, ms_eq, ms_nj]
  rw [v0.1, v1.1, v2.1, v3.1, e1]
  simp only [Int.toNat_natCast]
  refine ⟨by omega, fun h => no (by omega), fun h => ⟨by omega, fun h1 => no (by omega), fun h1 => ⟨by omega, fun h2 => no (by omega), fun h2 => ⟨by omega, fun h3 => ⟨by omega, ?_⟩, fun h3 => no (by omega)⟩⟩⟩⟩
  refine ⟨rcv_ok rfl own2 rfl, kV (x_settleAt 13 (hN D) (v 0) (v 1) (mset M 4 (hN D) p) (by omega) (by omega)) (Nat.le_of_ble_eq_true rfl) rfl rfl (Nat.le_of_ble_eq_true rfl) (Nat.le_of_ble_eq_true rfl) rfl ?_⟩
  refine wpx_ok hS bk15 (sp := sp15) 60 72 _ _ _ _ ?_
  simp only [LCM, B2, Bool.not_eq_false, Bool.not_eq_true, decide_eq_true_eq, decide_eq_false_iff_not, Int.not_lt, Int.not_le, CST, TN, WX, WA, WB, GS, LOC, BT15, SP15, CLS, FLD, ARR, CD, true_and, and_true, and_self, forall_const, true_implies, false_implies, implies_true, not_true_eq_false, not_false_eq_true, if_true, if_false, rgI, rgL, scr, swl, lkl, cats, cat, is2, List.drop_succ_cons, List.drop_zero, List.drop_nil, List.cons_append, List.nil_append, Option.toList_some, Option.toList_none, List.length_cons, List.length_nil, ne_eq, Classical.not_not, reduceCtorEq, Nat.reduceAdd, Nat.reduceSub, Nat.reduceMul, Nat.reduceLT, Nat.reduceLeDiff, Nat.reduceEqDiff, Nat.reduceBEq, Int.reduceToNat, Int.reduceLE, Int.reduceLT, Int.reduceEq, Int.reduceNeg, Int.reduceAdd, Int.reduceSub, Int.reduceMul, Int.toNat_natCast, Nat.zero_add, Int.add_zero, Nat.add_zero, ite_true, ite_false, Option.some.injEq, Nat.le_refl, or_true, true_or, or_false, false_or, if_pos, reduceIte, Nat.reduceGT, ms_ne, ms_eq, ms_nj]
  rw [v2.1, v3.1]
  refine ⟨rcv_ok rfl own29 rfl, kV (x_addHouse5 (hN D) (v 2) (v 3) _ e1 (by omega) (by omega)) (Nat.le_of_ble_eq_true rfl) rfl rfl (Nat.le_of_ble_eq_true rfl) (Nat.le_of_ble_eq_true rfl) rfl ?_⟩
  refine wpx_ok hS bk15 (sp := sp15) 60 88 _ _ _ _ ?_
  simp only [LCM, B2, Bool.not_eq_false, Bool.not_eq_true, decide_eq_true_eq, decide_eq_false_iff_not, Int.not_lt, Int.not_le, CST, TN, WX, WA, WB, GS, LOC, BT15, SP15, CLS, FLD, ARR, CD, true_and, and_true, and_self, forall_const, true_implies, false_implies, implies_true, not_true_eq_false, not_false_eq_true, if_true, if_false, rgI, rgL, scr, swl, lkl, cats, cat, is2, List.drop_succ_cons, List.drop_zero, List.drop_nil, List.cons_append, List.nil_append, Option.toList_some, Option.toList_none, List.length_cons, List.length_nil, ne_eq, Classical.not_not, reduceCtorEq, Nat.reduceAdd, Nat.reduceSub, Nat.reduceMul, Nat.reduceLT, Nat.reduceLeDiff, Nat.reduceEqDiff, Nat.reduceBEq, Int.reduceToNat, Int.reduceLE, Int.reduceLT, Int.reduceEq, Int.reduceNeg, Int.reduceAdd, Int.reduceSub, Int.reduceMul, Int.toNat_natCast, Nat.zero_add, Int.add_zero, Nat.add_zero, ite_true, ite_false, Option.some.injEq, Nat.le_refl, or_true, true_or, or_false, false_or, if_pos, reduceIte, Nat.reduceGT]
  have hs : tkH D p v = some (adH D p (v 0) (v 1) (v 2) (v 3)) := by unfold tkH; rw [if_pos (by omega)]
  have eT : ∀ (N : MM) k j, k ≠ 9 → adT N 9 (hN D) (v 2) 5 k j = N k j := fun N k j hk => by unfold adT; rw [if_neg (fun z => hk z.1)]
  refine rt15 (by decide) ⟨rfl, by rw [hs]; rfl, fun D' hD => ?_, fun k j hk => ?_, rfl⟩
  · rw [hs] at hD
    cases hD
    refine ⟨hR.addH hd (by omega) p (v 0) (v 1) (v 2) (v 3) ms_eq (fun i => ?_) (fun i => ?_) (fun i => ?_) (fun i => ?_) (fun s hs2 => ?_) (fun k j hk => ?_), fun i hi => ?_⟩
    · rw [ms_ne (by decide), eT _ _ _ (by decide), ms_ne (by decide)]; unfold mset; simp
    · rw [ms_ne (by decide), eT _ _ _ (by decide)]; unfold mset; simp
    · rw [ms_ne (by decide), eT _ _ _ (by decide), ms_ne (by decide), ms_ne (by decide), ms_ne (by decide)]; unfold mset; simp
    · rw [ms_ne (by decide), eT _ _ _ (by decide), ms_ne (by decide), ms_ne (by decide)]; unfold mset; simp
    · rw [ms_ne (by decide)]
      unfold adT
      rw [ms_ne (by decide), ms_ne (by decide), ms_ne (by decide), ms_ne (by decide), ms_ne (by decide)]
      by_cases hk : skO (v 2) s = true
      · rw [if_pos ⟨rfl, hs2, hk⟩, if_pos hk]
      · rw [if_neg (fun z => hk z.2.2), if_neg hk]
    · have e0 : mset (adT (mset (mset (mset (mset (mset M 4 (hN D) p) 14 (hN D) (v 0)) 15 (hN D) (v 1)) 7 (hN D) (v 2)) 8 (hN D) (v 3)) 9 (hN D) (v 2) 5) 5 1 ((hN D : Int) + 1) k j = adT (mset (mset (mset (mset (mset M 4 (hN D) p) 14 (hN D) (v 0)) 15 (hN D) (v 1)) 7 (hN D) (v 2)) 8 (hN D) (v 3)) 9 (hN D) (v 2) 5 k j := by unfold mset; rw [if_neg (by omega)]
      exact e0.trans (by rw [eT _ _ _ (by omega), ms_ne (by omega), ms_ne (by omega), ms_ne (by omega), ms_ne (by omega), ms_ne (by omega)])
    · rw [adH_H hd] at hi
      rw [ms_ne (by decide), eT _ _ _ (by decide), ms_ne (by decide), ms_ne (by decide), ms_ne (by decide), ms_ne (by decide)]
      by_cases hin : i = hN D
      · rw [hin, ms_eq, adH_at.2.2.2.2]
      · rw [ms_nj hin, (adH_lo (show i < hN D by omega)).2.2.2.2]
        exact hP i (by omega)
  · unfold pfr5 at hk
    rw [ms_ne (by omega), eT _ _ _ (by omega), ms_ne (by omega), ms_ne (by omega), ms_ne (by omega), ms_ne (by omega), ms_ne (by omega)]
def tkX18 (M : MM) (o : Option MM) : Option AV → MM → Prop := fun r M' => r = some (Sum.inl (b2i o.isSome)) ∧ (∀ D', o = some D' → RD18 M' D' ∧ RP M' D') ∧ (∀ k j, ¬ pfr18 k j → M' k j = M k j) ∧ M' 26 3 = M 26 3
theorem RD18.cg2 {M N D E : MM} (h : RD18 M D) (e : ∀ k j, k = 58 ∨ k = 59 ∨ k = 61 ∨ k = 63 ∨ k = 64 → E k j = D k j) (n : ∀ k j, (20 ≤ k ∧ k ≤ 25) ∨ (k = 18 ∧ (j = 1 ∨ j = 5)) ∨ (26 ≤ k ∧ k ≤ 28) → N k j = M k j) (w : N 19 0 = E 57 0 ∧ N 19 1 = E 57 1 ∧ N 18 9 = E 60 0) : RD18 N E := by
  have eh : hN E = hN D := by unfold hN; rw [e 58 0 (by omega)]
  have ew : wN E = wN D := by unfold wN; rw [e 59 0 (by omega)]
  obtain ⟨⟨a1, a2, a3, a4, a5⟩, hb, hc, hw, he, hf⟩ := h
  refine ⟨⟨w.1, w.2.1, ?_, ?_, w.2.2⟩, fun i hi => ?_, fun s hs => ?_, fun x hx => ?_, fun i hi => ?_, ?_⟩
  · rw [n _ _ (by omega), e _ _ (by omega)]; exact a3
  · rw [n _ _ (by omega), e _ _ (by omega)]; exact a4
  · rw [eh] at hi
    rw [n _ _ (by omega), n _ _ (by omega), e _ _ (by omega), e _ _ (by omega)]; exact hb i hi
  · rw [n _ _ (by omega), hc s hs]
    refine mk_eq (fun i _ => ?_)
    unfold skP skB
    rw [eh, e _ _ (by omega)]
  · rw [ew] at hx
    rw [n _ _ (by omega), n _ _ (by omega), n _ _ (by omega), e _ _ (by omega), e _ _ (by omega), e _ _ (by omega)]; exact hw x hx
  · rw [eh] at hi
    rw [n _ _ (by omega), n _ _ (by omega), e _ _ (by omega), e _ _ (by omega)]; exact he i hi
  · rw [n _ _ (by omega), hf]
    refine mk_eq (fun i _ => ?_)
    unfold newP newB
    rw [e _ _ (by omega)]
theorem x_takeWeeks18 (v : Nat → Int) (M D : MM) (hR : RD18 M D) (hP : RP M D) (hv : ∀ k, k < 2 → M 3 k = v k ∧ 0 ≤ v k ∧ v k ≤ 99) : oQ 2 13 [vR 2, vR 18] M (tkX18 M (tkW D v)) := by
  have v0 := hv 0 (by decide)
  have v1 := hv 1 (by decide)
  have no : ¬ ((2 ≤ v 0 ∧ v 0 ≤ 12) ∧ (2 ≤ v 1 ∧ v 1 ≤ 12)) → Rtn 13 0 0 (fun r sh M' => sh = sh0 ∧ tkX18 M (tkW D v) r M') (some (Sum.inl 0)) (sh0, 0, 0) M := fun h => by
    have hn : tkW D v = none := by unfold tkW; rw [if_neg h]
    exact rt13 (by decide) ⟨rfl, by rw [hn]; rfl, fun D' hD => (by rw [hn] at hD; cases hD), fun _ _ _ => rfl, rfl⟩
  refine go13 (fun S hS => ?_)
  refine wpx_ok hS bk13 (sp := sp13) 60 0 _ _ _ _ ?_
  simp only [LCM, B2, Bool.not_eq_false, Bool.not_eq_true, decide_eq_true_eq, decide_eq_false_iff_not, Int.not_lt, Int.not_le, CST, TN, WX, WA, WB, GS, LOC, BT13, SP13, CLS, FLD, ARR, CD, true_and, and_true, and_self, forall_const, true_implies, false_implies, implies_true, not_true_eq_false, not_false_eq_true, if_true, if_false, rgI, rgL, scr, swl, lkl, cats, cat, is2, List.drop_succ_cons, List.drop_zero, List.drop_nil, List.cons_append, List.nil_append, Option.toList_some, Option.toList_none, List.length_cons, List.length_nil, ne_eq, Classical.not_not, reduceCtorEq, Nat.reduceAdd, Nat.reduceSub, Nat.reduceMul, Nat.reduceLT, Nat.reduceLeDiff, Nat.reduceEqDiff, Nat.reduceBEq, Int.reduceToNat, Int.reduceLE, Int.reduceLT, Int.reduceEq, Int.reduceNeg, Int.reduceAdd, Int.reduceSub, Int.reduceMul, Int.toNat_natCast, Nat.zero_add, Int.add_zero, Nat.add_zero, ite_true, ite_false, Option.some.injEq, Nat.le_refl, or_true, true_or, or_false, false_or, if_pos, reduceIte, Nat.reduceGT, ms_ne, ms_eq, ms_nj]
  rw [v0.1]
  refine kI (x_isWeekLength (v 0) M (by unfold rgI; omega)) (Nat.le_of_ble_eq_true rfl) rfl rfl (Nat.le_of_ble_eq_true rfl) (Nat.le_of_ble_eq_true rfl) rfl ?_
  refine wpx_ok hS bk13 (sp := sp13) 60 9 _ _ _ _ ?_
  simp only [LCM, B2, Bool.not_eq_false, Bool.not_eq_true, decide_eq_true_eq, decide_eq_false_iff_not, Int.not_lt, Int.not_le, CST, TN, WX, WA, WB, GS, LOC, BT13, SP13, CLS, FLD, ARR, CD, true_and, and_true, and_self, forall_const, true_implies, false_implies, implies_true, not_true_eq_false, not_false_eq_true, if_true, if_false, rgI, rgL, scr, swl, lkl, cats, cat, is2, List.drop_succ_cons, List.drop_zero, List.drop_nil, List.cons_append, List.nil_append, Option.toList_some, Option.toList_none, List.length_cons, List.length_nil, ne_eq, Classical.not_not, reduceCtorEq, Nat.reduceAdd, Nat.reduceSub, Nat.reduceMul, Nat.reduceLT, Nat.reduceLeDiff, Nat.reduceEqDiff, Nat.reduceBEq, Int.reduceToNat, Int.reduceLE, Int.reduceLT, Int.reduceEq, Int.reduceNeg, Int.reduceAdd, Int.reduceSub, Int.reduceMul, Int.toNat_natCast, Nat.zero_add, Int.add_zero, Nat.add_zero, ite_true, ite_false, Option.some.injEq, Nat.le_refl, or_true, true_or, or_false, false_or, if_pos, reduceIte, Nat.reduceGT, ms_ne, ms_eq, ms_nj]
  rw [v1.1]
  refine ⟨fun h => no (fun z => h z.1), fun h => ?_⟩
  refine kI (x_isWeekLength (v 1) M (by unfold rgI; omega)) (Nat.le_of_ble_eq_true rfl) rfl rfl (Nat.le_of_ble_eq_true rfl) (Nat.le_of_ble_eq_true rfl) rfl ?_
  refine wpx_ok hS bk13 (sp := sp13) 60 21 _ _ _ _ ?_
  simp only [LCM, B2, Bool.not_eq_false, Bool.not_eq_true, decide_eq_true_eq, decide_eq_false_iff_not, Int.not_lt, Int.not_le, CST, TN, WX, WA, WB, GS, LOC, BT13, SP13, CLS, FLD, ARR, CD, true_and, and_true, and_self, forall_const, true_implies, false_implies, implies_true, not_true_eq_false, not_false_eq_true, if_true, if_false, rgI, rgL, scr, swl, lkl, cats, cat, is2, List.drop_succ_cons, List.drop_zero, List.drop_nil, List.cons_append, List.nil_append, Option.toList_some, Option.toList_none, List.length_cons, List.length_nil, ne_eq, Classical.not_not, reduceCtorEq, Nat.reduceAdd, Nat.reduceSub, Nat.reduceMul, Nat.reduceLT, Nat.reduceLeDiff, Nat.reduceEqDiff, Nat.reduceBEq, Int.reduceToNat, Int.reduceLE, Int.reduceLT, Int.reduceEq, Int.reduceNeg, Int.reduceAdd, Int.reduceSub, Int.reduceMul, Int.toNat_natCast, Nat.zero_add, Int.add_zero, Nat.add_zero, ite_true, ite_false, Option.some.injEq, Nat.le_refl, or_true, true_or, or_false, false_or, if_pos, reduceIte, Nat.reduceGT, ms_ne, ms_eq, ms_nj]
  rw [v0.1, v1.1]
  refine ⟨fun h1 => ?_, fun h1 => no (fun z => h1 z.2)⟩
  have hs : tkW D v = some (mset (mset D 57 0 (v 0)) 57 1 (v 1)) := by unfold tkW; rw [if_pos ⟨h, h1⟩]
  refine rt13 (by decide) ⟨rfl, by rw [hs]; rfl, fun D' hD => ?_, fun k j hk => ?_, rfl⟩
  · rw [hs] at hD
    cases hD
    refine ⟨hR.cg2 (fun k j hk => by rw [ms_ne (by omega), ms_ne (by omega)]) (fun k j hk => by rw [ms_ne (by omega), ms_ne (by omega)]) ⟨rfl, rfl, hR.1.2.2.2.2⟩, fun i hi => hP i hi⟩
  · unfold pfr18 at hk
    rw [ms_ne (by omega), ms_ne (by omega)]
theorem x_takeCook18 (v : Nat → Int) (M D : MM) (hd : WFd D) (hR : RD18 M D) (hP : RP M D) (hv : ∀ k, k < 1 → M 3 k = v k ∧ 0 ≤ v k ∧ v k ≤ 99) : oQ 1 18 [vR 2, vR 18] M (tkX18 M (tkC D v)) := by
  have v0 := hv 0 (by decide)
  have hH := hd.H
  refine go18 (fun S hS => ?_)
  refine wpx_ok hS bk18 (sp := sp18) 60 0 _ _ _ _ ?_
  simp only [LCM, B2, Bool.not_eq_false, Bool.not_eq_true, decide_eq_true_eq, decide_eq_false_iff_not, Int.not_lt, Int.not_le, CST, TN, WX, WA, WB, GS, LOC, BT18, SP18, CLS, FLD, ARR, CD, true_and, and_true, and_self, forall_const, true_implies, false_implies, implies_true, not_true_eq_false, not_false_eq_true, if_true, if_false, rgI, rgL, scr, swl, lkl, cats, cat, is2, List.drop_succ_cons, List.drop_zero, List.drop_nil, List.cons_append, List.nil_append, Option.toList_some, Option.toList_none, List.length_cons, List.length_nil, ne_eq, Classical.not_not, reduceCtorEq, Nat.reduceAdd, Nat.reduceSub, Nat.reduceMul, Nat.reduceLT, Nat.reduceLeDiff, Nat.reduceEqDiff, Nat.reduceBEq, Int.reduceToNat, Int.reduceLE, Int.reduceLT, Int.reduceEq, Int.reduceNeg, Int.reduceAdd, Int.reduceSub, Int.reduceMul, Int.toNat_natCast, Nat.zero_add, Int.add_zero, Nat.add_zero, ite_true, ite_false, Option.some.injEq, Nat.le_refl, or_true, true_or, or_false, false_or, if_pos, reduceIte, Nat.reduceGT, ms_ne, ms_eq, ms_nj]
  rw [v0.1, hR.1.2.2.1]
  refine ⟨by omega, fun h => ?_, fun h => ?_⟩
  · have hs : tkC D v = some (mset D 60 0 (v 0)) := by unfold tkC; rw [if_pos h]
    refine rt18 (by decide) ⟨rfl, by rw [hs]; rfl, fun D' hD => ?_, fun k j hk => ?_, rfl⟩
    · rw [hs] at hD
      cases hD
      refine ⟨hR.cg2 (fun k j hk => by rw [ms_ne (by omega)]) (fun k j hk => by unfold mset; rw [if_neg (by omega)]) ⟨hR.1.1, hR.1.2.1, rfl⟩, fun i hi => hP i hi⟩
    · unfold pfr18 at hk
      rw [ms_ne (by omega)]
  · have hn : tkC D v = none := by unfold tkC; rw [if_neg (by omega)]
    exact rt18 (by decide) ⟨rfl, by rw [hn]; rfl, fun D' hD => (by rw [hn] at hD; cases hD), fun _ _ _ => rfl, rfl⟩
theorem x_takeWork18 (v : Nat → Int) (M D : MM) (hd : WFd D) (hR : RD18 M D) (hP : RP M D) (hv : ∀ k, k < 3 → M 3 k = v k ∧ 0 ≤ v k ∧ v k ≤ 99) : oQ 2 17 [vR 2, vR 18] M (tkX18 M (tkM D v)) := by
  have v0 := hv 0 (by decide)
  have v1 := hv 1 (by decide)
  have v2 := hv 2 (by decide)
  have hW := hd.W
  have e5 : M 18 5 = (wN D : Int) := by rw [hR.1.2.2.2.1, hW.1]
  have no : ¬ ((v 0 ≤ 4 ∧ (1 ≤ v 1 ∧ v 1 ≤ 9) ∧ (1 ≤ v 2 ∧ v 2 ≤ 9)) ∧ D 59 0 ≠ 6) → Rtn 17 0 0 (fun r sh M' => sh = sh0 ∧ tkX18 M (tkM D v) r M') (some (Sum.inl 0)) (sh0, 0, 0) M := fun h => by
    have hn : tkM D v = none := by unfold tkM; rw [if_neg h]
    exact rt17 (by decide) ⟨rfl, by rw [hn]; rfl, fun D' hD => (by rw [hn] at hD; cases hD), fun _ _ _ => rfl, rfl⟩
  refine go17 (fun S hS => ?_)
  refine wpx_ok hS bk17 (sp := sp17) 60 0 _ _ _ _ ?_
  simp only [LCM, B2, Bool.not_eq_false, Bool.not_eq_true, decide_eq_true_eq, decide_eq_false_iff_not, Int.not_lt, Int.not_le, CST, TN, WX, WA, WB, GS, LOC, BT17, SP17, CLS, FLD, ARR, CD, true_and, and_true, and_self, forall_const, true_implies, false_implies, implies_true, not_true_eq_false, not_false_eq_true, if_true, if_false, rgI, rgL, scr, swl, lkl, cats, cat, is2, List.drop_succ_cons, List.drop_zero, List.drop_nil, List.cons_append, List.nil_append, Option.toList_some, Option.toList_none, List.length_cons, List.length_nil, ne_eq, Classical.not_not, reduceCtorEq, Nat.reduceAdd, Nat.reduceSub, Nat.reduceMul, Nat.reduceLT, Nat.reduceLeDiff, Nat.reduceEqDiff, Nat.reduceBEq, Int.reduceToNat, Int.reduceLE, Int.reduceLT, Int.reduceEq, Int.reduceNeg, Int.reduceAdd, Int.reduceSub, Int.reduceMul, Int.toNat_natCast, Nat.zero_add, Int.add_zero, Nat.add_zero, ite_true, ite_false, Option.some.injEq, Nat.le_refl, or_true, true_or, or_false, false_or, if_pos, reduceIte, Nat.reduceGT, ms_ne, ms_eq, ms_nj]
  rw [v0.1, v1.1, v2.1, e5]
  refine ⟨by omega, fun h => no (by omega), fun h => ⟨by omega, fun h1 => no (by omega), fun h1 => ⟨by omega, fun h2 => no (by omega), fun h2 => ⟨by omega, fun h3 => no (by omega), fun h3 => ⟨by omega, fun h4 => no (by omega), fun h4 => ⟨by omega, fun h5 => ?_, fun h5 => no (by omega)⟩⟩⟩⟩⟩⟩
  refine ⟨rcv_ok rfl own30 rfl, kV (x_addWork18 (wN D) (v 0) (v 1) (v 2) M e5 (by omega)) (Nat.le_of_ble_eq_true rfl) rfl rfl (Nat.le_of_ble_eq_true rfl) (Nat.le_of_ble_eq_true rfl) rfl ?_⟩
  refine wpx_ok hS bk17 (sp := sp17) 60 85 _ _ _ _ ?_
  simp only [LCM, B2, Bool.not_eq_false, Bool.not_eq_true, decide_eq_true_eq, decide_eq_false_iff_not, Int.not_lt, Int.not_le, CST, TN, WX, WA, WB, GS, LOC, BT17, SP17, CLS, FLD, ARR, CD, true_and, and_true, and_self, forall_const, true_implies, false_implies, implies_true, not_true_eq_false, not_false_eq_true, if_true, if_false, rgI, rgL, scr, swl, lkl, cats, cat, is2, List.drop_succ_cons, List.drop_zero, List.drop_nil, List.cons_append, List.nil_append, Option.toList_some, Option.toList_none, List.length_cons, List.length_nil, ne_eq, Classical.not_not, reduceCtorEq, Nat.reduceAdd, Nat.reduceSub, Nat.reduceMul, Nat.reduceLT, Nat.reduceLeDiff, Nat.reduceEqDiff, Nat.reduceBEq, Int.reduceToNat, Int.reduceLE, Int.reduceLT, Int.reduceEq, Int.reduceNeg, Int.reduceAdd, Int.reduceSub, Int.reduceMul, Int.toNat_natCast, Nat.zero_add, Int.add_zero, Nat.add_zero, ite_true, ite_false, Option.some.injEq, Nat.le_refl, or_true, true_or, or_false, false_or, if_pos, reduceIte, Nat.reduceGT, ms_ne, ms_eq, ms_nj]
  have hs : tkM D v = some (adW D (v 0) (v 1) (v 2)) := by unfold tkM; rw [if_pos (by omega)]
  refine rt17 (by decide) ⟨rfl, by rw [hs]; rfl, fun D' hD => ?_, fun k j hk => ?_, rfl⟩
  · rw [hs] at hD
    cases hD
    refine ⟨hR.addW hd (v 0) (v 1) (v 2) ms_eq (fun i => ?_) (fun i => ?_) (fun i => ?_) (fun k j hk => ?_), fun i hi => ?_⟩
    · unfold mset; simp
    · unfold mset; simp
    · unfold mset; simp
    · unfold mset; rw [if_neg (by omega), if_neg (by omega), if_neg (by omega), if_neg (by omega)]
    · have eh : hN (adW D (v 0) (v 1) (v 2)) = hN D := by unfold hN; rw [adW_no (by decide) (by decide)]
      rw [eh] at hi
      rw [adW_no (by decide) (by decide), ms_ne (by decide), ms_ne (by decide), ms_ne (by decide), ms_ne (by decide)]
      exact hP i hi
  · unfold pfr18 at hk
    rw [ms_ne (by omega), ms_ne (by omega), ms_ne (by omega), ms_ne (by omega)]
theorem x_takeNew18 (v : Nat → Int) (M D : MM) (hd : WFd D) (hR : RD18 M D) (hP : RP M D) (hv : ∀ k, k < 1 → M 3 k = v k ∧ 0 ≤ v k ∧ v k ≤ 99) : oQ 2 16 [vR 2, vR 18, vR 26] M (tkX18 M (tkN D v)) := by
  have v0 := hv 0 (by decide)
  have hH := hd.H
  have hnP : newP D = newB D := rfl
  have eb := hR.2.2.2.2.2
  rw [hnP] at eb
  have hcr := cnt_rg (newB D) 10
  have no : ¬ (v 0 < D 58 0 ∧ cnt (newB D) 10 < 3 ∧ (∀ i : Nat, i < 10 → v 0 ≤ (i : Int) → newB D i = false)) → Rtn 16 0 0 (fun r sh M' => sh = sh0 ∧ tkX18 M (tkN D v) r M') (some (Sum.inl 0)) (sh0, 0, 0) M := fun h => by
    have hn : tkN D v = none := by unfold tkN; rw [if_neg h]
    exact rt16 (by decide) ⟨rfl, by rw [hn]; rfl, fun D' hD => (by rw [hn] at hD; cases hD), fun _ _ _ => rfl, rfl⟩
  obtain ⟨a, ha⟩ : ∃ a : Nat, v 0 = (a : Int) := ⟨(v 0).toNat, by omega⟩
  rw [ha] at no v0
  refine go16 (fun S hS => ?_)
  refine wpx_ok hS bk16 (sp := sp16) 60 0 _ _ _ _ ?_
  simp only [LCM, B2, Bool.not_eq_false, Bool.not_eq_true, decide_eq_true_eq, decide_eq_false_iff_not, Int.not_lt, Int.not_le, CST, TN, WX, WA, WB, GS, LOC, BT16, SP16, CLS, FLD, ARR, CD, true_and, and_true, and_self, forall_const, true_implies, false_implies, implies_true, not_true_eq_false, not_false_eq_true, if_true, if_false, rgI, rgL, scr, swl, lkl, cats, cat, is2, List.drop_succ_cons, List.drop_zero, List.drop_nil, List.cons_append, List.nil_append, Option.toList_some, Option.toList_none, List.length_cons, List.length_nil, ne_eq, Classical.not_not, reduceCtorEq, Nat.reduceAdd, Nat.reduceSub, Nat.reduceMul, Nat.reduceLT, Nat.reduceLeDiff, Nat.reduceEqDiff, Nat.reduceBEq, Int.reduceToNat, Int.reduceLE, Int.reduceLT, Int.reduceEq, Int.reduceNeg, Int.reduceAdd, Int.reduceSub, Int.reduceMul, Int.toNat_natCast, Nat.zero_add, Int.add_zero, Nat.add_zero, ite_true, ite_false, Option.some.injEq, Nat.le_refl, or_true, true_or, or_false, false_or, if_pos, reduceIte, Nat.reduceGT, ms_ne, ms_eq, ms_nj]
  rw [v0.1, hR.1.2.2.1, eb]
  refine ⟨by omega, fun h => no (by omega), fun h => ?_⟩
  refine kI (c_bitCount (newB D) M) (Nat.le_of_ble_eq_true rfl) rfl rfl (Nat.le_of_ble_eq_true rfl) (Nat.le_of_ble_eq_true rfl) rfl ?_
  have hu := mk_usr (p := newB D) (h := a) (by omega)
  refine wpx_ok hS bk16 (sp := sp16) 60 22 _ _ _ _ ?_
  simp only [LCM, B2, Bool.not_eq_false, Bool.not_eq_true, decide_eq_true_eq, decide_eq_false_iff_not, Int.not_lt, Int.not_le, CST, TN, WX, WA, WB, GS, LOC, BT16, SP16, CLS, FLD, ARR, CD, true_and, and_true, and_self, forall_const, true_implies, false_implies, implies_true, not_true_eq_false, not_false_eq_true, if_true, if_false, rgI, rgL, scr, swl, lkl, cats, cat, is2, List.drop_succ_cons, List.drop_zero, List.drop_nil, List.cons_append, List.nil_append, Option.toList_some, Option.toList_none, List.length_cons, List.length_nil, ne_eq, Classical.not_not, reduceCtorEq, Nat.reduceAdd, Nat.reduceSub, Nat.reduceMul, Nat.reduceLT, Nat.reduceLeDiff, Nat.reduceEqDiff, Nat.reduceBEq, Int.reduceToNat, Int.reduceLE, Int.reduceLT, Int.reduceEq, Int.reduceNeg, Int.reduceAdd, Int.reduceSub, Int.reduceMul, Int.toNat_natCast, Nat.zero_add, Int.add_zero, Nat.add_zero, ite_true, ite_false, Option.some.injEq, Nat.le_refl, or_true, true_or, or_false, false_or, if_pos, reduceIte, Nat.reduceGT, ms_ne, ms_eq, ms_nj]
  rw [eb]
  refine ⟨by omega, fun h1 => ⟨hu.1, fun h2 => ?_, fun h2 => ?_⟩, fun h1 => no (by omega)⟩
  · have hs : tkN D v = some (mset D 64 a 1) := by
      unfold tkN
      rw [ha, if_pos ⟨h, h1, hu.2.mp h2⟩, Int.toNat_natCast]
    refine rt16 (by decide) ⟨rfl, by rw [hs]; rfl, fun D' hD => ?_, fun k j hk => ?_, rfl⟩
    · rw [hs] at hD
      cases hD
      refine ⟨⟨hR.1, hR.2.1, hR.2.2.1, hR.2.2.2.1, hR.2.2.2.2.1, ?_⟩, fun i hi => hP i hi⟩
      rw [ms_eq, mk_put (by omega)]
      refine mk_eq (fun i _ => ?_)
      unfold newP newB
      by_cases hia : i = a
      · subst hia; rw [ms_eq]; simp
      · rw [ms_nj hia, beq_eq_false_iff_ne.mpr hia, Bool.or_false]
    · unfold pfr18 at hk
      unfold mset
      rw [if_neg (by omega)]
  · exact no (fun z => h2 (hu.2.mpr z.2.2))
theorem x_takeHouse18 (p : Nat) (v : Nat → Int) (M D : MM) (hd : WFd D) (hR : RD18 M D) (hP : RP M D) (hv : ∀ k, k < 4 → M 3 k = v k ∧ 0 ≤ v k ∧ v k ≤ 99) : oQ 2 15 [vR 2, vI p, vR 18, vR 26] M (tkX18 M (tkH D p v)) := by
  have v0 := hv 0 (by decide)
  have v1 := hv 1 (by decide)
  have v2 := hv 2 (by decide)
  have v3 := hv 3 (by decide)
  have hH := hd.H
  have e1 : M 18 1 = (hN D : Int) := by rw [hR.1.2.2.1, hH.1]
  have no : ¬ ((v 0 ≤ 1 ∧ v 2 ≤ 31 ∧ v 3 ≤ 3) ∧ D 58 0 ≠ 10) → Rtn 15 0 0 (fun r sh M' => sh = sh0 ∧ tkX18 M (tkH D p v) r M') (some (Sum.inl 0)) (sh0, 0, 0) M := fun h => by
    have hn : tkH D p v = none := by unfold tkH; rw [if_neg h]
    exact rt15 (by decide) ⟨rfl, by rw [hn]; rfl, fun D' hD => (by rw [hn] at hD; cases hD), fun _ _ _ => rfl, rfl⟩
  refine go15 (fun S hS => ?_)
  refine wpx_ok hS bk15 (sp := sp15) 60 0 _ _ _ _ ?_
  simp only [LCM, B2, Bool.not_eq_false, Bool.not_eq_true, decide_eq_true_eq, decide_eq_false_iff_not, Int.not_lt, Int.not_le, CST, TN, WX, WA, WB, GS, LOC, BT15, SP15, CLS, FLD, ARR, CD, true_and, and_true, and_self, forall_const, true_implies, false_implies, implies_true, not_true_eq_false, not_false_eq_true, if_true, if_false, rgI, rgL, scr, swl, lkl, cats, cat, is2, List.drop_succ_cons, List.drop_zero, List.drop_nil, List.cons_append, List.nil_append, Option.toList_some, Option.toList_none, List.length_cons, List.length_nil, ne_eq, Classical.not_not, reduceCtorEq, Nat.reduceAdd, Nat.reduceSub, Nat.reduceMul, Nat.reduceLT, Nat.reduceLeDiff, Nat.reduceEqDiff, Nat.reduceBEq, Int.reduceToNat, Int.reduceLE, Int.reduceLT, Int.reduceEq, Int.reduceNeg, Int.reduceAdd, Int.reduceSub, Int.reduceMul, Int.toNat_natCast, Nat.zero_add, Int.add_zero, Nat.add_zero, ite_true, ite_false, Option.some.injEq, Nat.le_refl, or_true, true_or, or_false, false_or, if_pos, reduceIte, Nat.reduceGT, ms_ne, ms_eq, ms_nj]
  rw [v0.1, v1.1, v2.1, v3.1, e1]
  simp only [Int.toNat_natCast]
  refine ⟨by omega, fun h => no (by omega), fun h => ⟨by omega, fun h1 => no (by omega), fun h1 => ⟨by omega, fun h2 => no (by omega), fun h2 => ⟨by omega, fun h3 => ⟨by omega, ?_⟩, fun h3 => no (by omega)⟩⟩⟩⟩
  refine ⟨rcv_ok rfl own2 rfl, kV (x_settleAt 26 (hN D) (v 0) (v 1) (mset M 4 (hN D) p) (by omega) (by omega)) (Nat.le_of_ble_eq_true rfl) rfl rfl (Nat.le_of_ble_eq_true rfl) (Nat.le_of_ble_eq_true rfl) rfl ?_⟩
  refine wpx_ok hS bk15 (sp := sp15) 60 72 _ _ _ _ ?_
  simp only [LCM, B2, Bool.not_eq_false, Bool.not_eq_true, decide_eq_true_eq, decide_eq_false_iff_not, Int.not_lt, Int.not_le, CST, TN, WX, WA, WB, GS, LOC, BT15, SP15, CLS, FLD, ARR, CD, true_and, and_true, and_self, forall_const, true_implies, false_implies, implies_true, not_true_eq_false, not_false_eq_true, if_true, if_false, rgI, rgL, scr, swl, lkl, cats, cat, is2, List.drop_succ_cons, List.drop_zero, List.drop_nil, List.cons_append, List.nil_append, Option.toList_some, Option.toList_none, List.length_cons, List.length_nil, ne_eq, Classical.not_not, reduceCtorEq, Nat.reduceAdd, Nat.reduceSub, Nat.reduceMul, Nat.reduceLT, Nat.reduceLeDiff, Nat.reduceEqDiff, Nat.reduceBEq, Int.reduceToNat, Int.reduceLE, Int.reduceLT, Int.reduceEq, Int.reduceNeg, Int.reduceAdd, Int.reduceSub, Int.reduceMul, Int.toNat_natCast, Nat.zero_add, Int.add_zero, Nat.add_zero, ite_true, ite_false, Option.some.injEq, Nat.le_refl, or_true, true_or, or_false, false_or, if_pos, reduceIte, Nat.reduceGT, ms_ne, ms_eq, ms_nj]
  rw [v2.1, v3.1]
  refine ⟨rcv_ok rfl own29 rfl, kV (x_addHouse18 (hN D) (v 2) (v 3) _ e1 (by omega) (by omega)) (Nat.le_of_ble_eq_true rfl) rfl rfl (Nat.le_of_ble_eq_true rfl) (Nat.le_of_ble_eq_true rfl) rfl ?_⟩
  refine wpx_ok hS bk15 (sp := sp15) 60 88 _ _ _ _ ?_
  simp only [LCM, B2, Bool.not_eq_false, Bool.not_eq_true, decide_eq_true_eq, decide_eq_false_iff_not, Int.not_lt, Int.not_le, CST, TN, WX, WA, WB, GS, LOC, BT15, SP15, CLS, FLD, ARR, CD, true_and, and_true, and_self, forall_const, true_implies, false_implies, implies_true, not_true_eq_false, not_false_eq_true, if_true, if_false, rgI, rgL, scr, swl, lkl, cats, cat, is2, List.drop_succ_cons, List.drop_zero, List.drop_nil, List.cons_append, List.nil_append, Option.toList_some, Option.toList_none, List.length_cons, List.length_nil, ne_eq, Classical.not_not, reduceCtorEq, Nat.reduceAdd, Nat.reduceSub, Nat.reduceMul, Nat.reduceLT, Nat.reduceLeDiff, Nat.reduceEqDiff, Nat.reduceBEq, Int.reduceToNat, Int.reduceLE, Int.reduceLT, Int.reduceEq, Int.reduceNeg, Int.reduceAdd, Int.reduceSub, Int.reduceMul, Int.toNat_natCast, Nat.zero_add, Int.add_zero, Nat.add_zero, ite_true, ite_false, Option.some.injEq, Nat.le_refl, or_true, true_or, or_false, false_or, if_pos, reduceIte, Nat.reduceGT]
  have hs : tkH D p v = some (adH D p (v 0) (v 1) (v 2) (v 3)) := by unfold tkH; rw [if_pos (by omega)]
  have eT : ∀ (N : MM) k j, k ≠ 22 → adT N 22 (hN D) (v 2) 5 k j = N k j := fun N k j hk => by unfold adT; rw [if_neg (fun z => hk z.1)]
  refine rt15 (by decide) ⟨rfl, by rw [hs]; rfl, fun D' hD => ?_, fun k j hk => ?_, rfl⟩
  · rw [hs] at hD
    cases hD
    refine ⟨hR.addH hd (by omega) p (v 0) (v 1) (v 2) (v 3) ms_eq (fun i => ?_) (fun i => ?_) (fun i => ?_) (fun i => ?_) (fun s hs2 => ?_) (fun k j hk => ?_), fun i hi => ?_⟩
    · rw [ms_ne (by decide), eT _ _ _ (by decide), ms_ne (by decide)]; unfold mset; simp
    · rw [ms_ne (by decide), eT _ _ _ (by decide)]; unfold mset; simp
    · rw [ms_ne (by decide), eT _ _ _ (by decide), ms_ne (by decide), ms_ne (by decide), ms_ne (by decide)]; unfold mset; simp
    · rw [ms_ne (by decide), eT _ _ _ (by decide), ms_ne (by decide), ms_ne (by decide)]; unfold mset; simp
    · rw [ms_ne (by decide)]
      unfold adT
      rw [ms_ne (by decide), ms_ne (by decide), ms_ne (by decide), ms_ne (by decide), ms_ne (by decide)]
      by_cases hk : skO (v 2) s = true
      · rw [if_pos ⟨rfl, hs2, hk⟩, if_pos hk]
      · rw [if_neg (fun z => hk z.2.2), if_neg hk]
    · have e0 : mset (adT (mset (mset (mset (mset (mset M 4 (hN D) p) 27 (hN D) (v 0)) 28 (hN D) (v 1)) 20 (hN D) (v 2)) 21 (hN D) (v 3)) 22 (hN D) (v 2) 5) 18 1 ((hN D : Int) + 1) k j = adT (mset (mset (mset (mset (mset M 4 (hN D) p) 27 (hN D) (v 0)) 28 (hN D) (v 1)) 20 (hN D) (v 2)) 21 (hN D) (v 3)) 22 (hN D) (v 2) 5 k j := by unfold mset; rw [if_neg (by omega)]
      exact e0.trans (by rw [eT _ _ _ (by omega), ms_ne (by omega), ms_ne (by omega), ms_ne (by omega), ms_ne (by omega), ms_ne (by omega)])
    · rw [adH_H hd] at hi
      rw [ms_ne (by decide), eT _ _ _ (by decide), ms_ne (by decide), ms_ne (by decide), ms_ne (by decide), ms_ne (by decide)]
      by_cases hin : i = hN D
      · rw [hin, ms_eq, adH_at.2.2.2.2]
      · rw [ms_nj hin, (adH_lo (show i < hN D by omega)).2.2.2.2]
        exact hP i (by omega)
  · unfold pfr18 at hk
    rw [ms_ne (by omega), eT _ _ _ (by omega), ms_ne (by omega), ms_ne (by omega), ms_ne (by omega), ms_ne (by omega), ms_ne (by omega)]

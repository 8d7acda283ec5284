/-! calls of the constructor over the component's cells, the constructor itself -/
section CALL5
variable {d d' y n f pc : Nat} {args st rest : List AV} {ls : AL} {M M' : MM} {S : Nat → KK} {Rt : RR} {bt : Nat → BL} {sp : Nat → Bool}
theorem kV5 (hc : Run d' y args sh55 M 0 0 (fun r sh M'' => sh = sh55 ∧ r = none ∧ M'' = M')) (hd : d' ≤ d) (hargs : (st.take n).reverse = args) (hrest : st.drop n = rest) (hn : n ≤ st.length) (hcat : cats rest ≤ 8) (hsp : sp pc = true) (hk : S pc ls rest (sh55, 0, 0) M') :
    wpc (Run d) 0 0 y n (wpl (Run d) none 0 0 (fun t => cond (sp t) (S t) (wpx (Run d) none 0 0 S Rt bt sp f t)) Rt [] pc) ls st (sh55, 0, 0) M := by
  subst hargs
  subst hrest
  refine ⟨hn, hcat, 0, 0, Nat.le_refl _, Nat.le_refl _, Run.mono d' d hd hc (fun r sh M2 h => ?_)⟩
  obtain ⟨rfl, rfl, rfl⟩ := h
  refine ⟨Or.inl rfl, ?_⟩
  show cond (sp pc) (S pc) _ ls _ _ _
  rw [hsp]
  exact hk
end CALL5
theorem y_afill (r n : Nat) (f : Nat → Option Nat) (v : Int) (M : MM) (hr : arr sh55 r = some (0, n, f)) (hn : n ≤ 1000) (hs : r ≠ 1000000) : Run 1 162 [vR r, vI v] sh55 M 0 0 (fun q sh M' => sh = sh55 ∧ q = none ∧ M' = mfil M r n v) := by
  refine go162 (fun S hS => ?_)
  have head : ∀ (m i : Nat), i + m = n → S 5 [some (vR r), some (vI v), some (vI i), some (vI n)] [] (sh55, 0, 0) (mfil M r i v) := by
    intro m
    induction m with
    | zero =>
      intro i hi
      refine wpx_ok hS bk162 (sp := sp162) 60 5 _ _ _ _ ?_
      simp only [LCM, B2, Bool.not_eq_false, Bool.not_eq_true, decide_eq_true_eq, decide_eq_false_iff_not, Int.not_lt, Int.not_le, CST, TN, WX, WA, WB, GS, LOC, BT162, SP162, CLS5, FLD5, ARR5, CD, true_and, and_true, and_self, forall_const, true_implies, false_implies, implies_true, not_true_eq_false, not_false_eq_true, if_true, if_false, rgI, rgL, scr, swl, lkl, cats, cat, is2, List.drop_succ_cons, List.drop_zero, List.drop_nil, List.cons_append, List.nil_append, Option.toList_some, Option.toList_none, List.length_cons, List.length_nil, ne_eq, Classical.not_not, reduceCtorEq, Nat.reduceAdd, Nat.reduceSub, Nat.reduceMul, Nat.reduceLT, Nat.reduceLeDiff, Nat.reduceEqDiff, Nat.reduceBEq, Int.reduceToNat, Int.reduceLE, Int.reduceLT, Int.reduceEq, Int.reduceNeg, Int.reduceAdd, Int.reduceSub, Int.reduceMul, Int.toNat_natCast, Nat.zero_add, Int.add_zero, Nat.add_zero, ite_true, ite_false, Option.some.injEq, Nat.le_refl, or_true, true_or, or_false, false_or, if_pos, reduceIte, Nat.reduceGT]
      refine ⟨by omega, fun h => rt162 (Nat.le_refl _) (Nat.le_refl _) ⟨rfl, rfl, by rw [show i = n by omega]⟩, fun h => by omega⟩
    | succ m ih =>
      intro i hi
      refine wpx_ok hS bk162 (sp := sp162) 60 5 _ _ _ _ ?_
      simp only [LCM, B2, Bool.not_eq_false, Bool.not_eq_true, decide_eq_true_eq, decide_eq_false_iff_not, Int.not_lt, Int.not_le, CST, TN, WX, WA, WB, GS, LOC, BT162, SP162, CLS5, FLD5, ARR5, CD, true_and, and_true, and_self, forall_const, true_implies, false_implies, implies_true, not_true_eq_false, not_false_eq_true, if_true, if_false, rgI, rgL, scr, swl, lkl, cats, cat, is2, List.drop_succ_cons, List.drop_zero, List.drop_nil, List.cons_append, List.nil_append, Option.toList_some, Option.toList_none, List.length_cons, List.length_nil, ne_eq, Classical.not_not, reduceCtorEq, Nat.reduceAdd, Nat.reduceSub, Nat.reduceMul, Nat.reduceLT, Nat.reduceLeDiff, Nat.reduceEqDiff, Nat.reduceBEq, Int.reduceToNat, Int.reduceLE, Int.reduceLT, Int.reduceEq, Int.reduceNeg, Int.reduceAdd, Int.reduceSub, Int.reduceMul, Int.toNat_natCast, Nat.zero_add, Int.add_zero, Nat.add_zero, ite_true, ite_false, Option.some.injEq, Nat.le_refl, or_true, true_or, or_false, false_or, if_pos, reduceIte, Nat.reduceGT]
      rw [hr]
      refine ⟨by omega, fun h => by omega, fun h => ?_⟩
      simp only [GS, true_and, Int.toNat_natCast]
      refine ⟨by omega, by omega, ?_⟩
      have := ih (i + 1) (by omega)
      rw [show mfil M r (i + 1) v = mset (mfil M r i v) r i v by
        funext k j
        unfold mfil mset
        by_cases hk : k = r
        · subst hk
          by_cases hj : j = i
          · subst hj; simp
          · by_cases hj2 : j < i
            · have : j < i + 1 := by omega
              simp [hj, hj2, this]
            · have : ¬ j < i + 1 := by omega
              simp [hj, hj2, this]
        · simp [hk]] at this
      exact this
  refine wpx_ok hS bk162 (sp := sp162) 60 0 _ _ _ _ ?_
  simp only [LCM, B2, Bool.not_eq_false, Bool.not_eq_true, decide_eq_true_eq, decide_eq_false_iff_not, Int.not_lt, Int.not_le, CST, TN, WX, WA, WB, GS, LOC, BT162, SP162, CLS5, FLD5, ARR5, CD, true_and, and_true, and_self, forall_const, true_implies, false_implies, implies_true, not_true_eq_false, not_false_eq_true, if_true, if_false, rgI, rgL, scr, swl, lkl, cats, cat, is2, List.drop_succ_cons, List.drop_zero, List.drop_nil, List.cons_append, List.nil_append, Option.toList_some, Option.toList_none, List.length_cons, List.length_nil, ne_eq, Classical.not_not, reduceCtorEq, Nat.reduceAdd, Nat.reduceSub, Nat.reduceMul, Nat.reduceLT, Nat.reduceLeDiff, Nat.reduceEqDiff, Nat.reduceBEq, Int.reduceToNat, Int.reduceLE, Int.reduceLT, Int.reduceEq, Int.reduceNeg, Int.reduceAdd, Int.reduceSub, Int.reduceMul, Int.toNat_natCast, Nat.zero_add, Int.add_zero, Nat.add_zero, ite_true, ite_false, Option.some.injEq, Nat.le_refl, or_true, true_or, or_false, false_or, if_pos, reduceIte, Nat.reduceGT]
  rw [hr]
  simp only [hs, if_false, reduceIte]
  refine ⟨by omega, by omega, ?_⟩
  have := head n 0 (by omega)
  rw [show mfil M r 0 v = M by funext k j; unfold mfil; simp] at this
  exact this
theorem y_tbegin (M : MM) : Run 2 28 [vR 18] sh55 M 0 0 (fun r sh M' => sh = sh55 ∧ r = none ∧ (M' 19 0 = 7 ∧ M' 19 1 = 9 ∧ M' 18 1 = 0 ∧ M' 18 5 = 0 ∧ M' 18 9 = 0) ∧ (∀ s, s < 5 → M' 22 s = 0) ∧ ∀ k j, ¬ (18 ≤ k ∧ k ≤ 25) → M' k j = M k j) := by
  refine go28 (fun S hS => ?_)
  refine wpx_ok hS bk28 (sp := sp28) 60 0 _ _ _ _ ?_
  simp only [LCM, B2, Bool.not_eq_false, Bool.not_eq_true, decide_eq_true_eq, decide_eq_false_iff_not, Int.not_lt, Int.not_le, CST, TN, WX, WA, WB, GS, LOC, BT28, SP28, CLS5, FLD5, ARR5, CD, true_and, and_true, and_self, forall_const, true_implies, false_implies, implies_true, not_true_eq_false, not_false_eq_true, if_true, if_false, rgI, rgL, scr, swl, lkl, cats, cat, is2, List.drop_succ_cons, List.drop_zero, List.drop_nil, List.cons_append, List.nil_append, Option.toList_some, Option.toList_none, List.length_cons, List.length_nil, ne_eq, Classical.not_not, reduceCtorEq, Nat.reduceAdd, Nat.reduceSub, Nat.reduceMul, Nat.reduceLT, Nat.reduceLeDiff, Nat.reduceEqDiff, Nat.reduceBEq, Int.reduceToNat, Int.reduceLE, Int.reduceLT, Int.reduceEq, Int.reduceNeg, Int.reduceAdd, Int.reduceSub, Int.reduceMul, Int.toNat_natCast, Nat.zero_add, Int.add_zero, Nat.add_zero, ite_true, ite_false, Option.some.injEq, Nat.le_refl, or_true, true_or, or_false, false_or, if_pos, reduceIte, Nat.reduceGT]
  refine kV5 (y_afill 22 5 mz_nul 0 _ rfl (by decide) (by decide)) (Nat.le_of_ble_eq_true rfl) rfl rfl (Nat.le_of_ble_eq_true rfl) (Nat.le_of_ble_eq_true rfl) rfl ?_
  refine wpx_ok hS bk28 (sp := sp28) 60 29 _ _ _ _ ?_
  simp only [LCM, B2, Bool.not_eq_false, Bool.not_eq_true, decide_eq_true_eq, decide_eq_false_iff_not, Int.not_lt, Int.not_le, CST, TN, WX, WA, WB, GS, LOC, BT28, SP28, CLS5, FLD5, ARR5, CD, true_and, and_true, and_self, forall_const, true_implies, false_implies, implies_true, not_true_eq_false, not_false_eq_true, if_true, if_false, rgI, rgL, scr, swl, lkl, cats, cat, is2, List.drop_succ_cons, List.drop_zero, List.drop_nil, List.cons_append, List.nil_append, Option.toList_some, Option.toList_none, List.length_cons, List.length_nil, ne_eq, Classical.not_not, reduceCtorEq, Nat.reduceAdd, Nat.reduceSub, Nat.reduceMul, Nat.reduceLT, Nat.reduceLeDiff, Nat.reduceEqDiff, Nat.reduceBEq, Int.reduceToNat, Int.reduceLE, Int.reduceLT, Int.reduceEq, Int.reduceNeg, Int.reduceAdd, Int.reduceSub, Int.reduceMul, Int.toNat_natCast, Nat.zero_add, Int.add_zero, Nat.add_zero, ite_true, ite_false, Option.some.injEq, Nat.le_refl, or_true, true_or, or_false, false_or, if_pos, reduceIte, Nat.reduceGT]
  refine rt28 (Nat.le_refl _) (Nat.le_refl _) ⟨rfl, rfl, ⟨rfl, rfl, rfl, rfl, rfl⟩, fun s hs => ?_, fun k j hk => ?_⟩
  · rw [ms_ne (by decide), ms_ne (by decide)]
    unfold mfil
    rw [if_pos ⟨rfl, hs⟩]
  · rw [ms_ne (by omega), ms_ne (by omega)]
    unfold mfil
    rw [if_neg (by omega), ms_ne (by omega), ms_ne (by omega), ms_ne (by omega)]
theorem y_bbegin (M : MM) : Run 1 1 [vR 26] sh55 M 0 0 (fun q sh M' => sh = sh55 ∧ q = none ∧ M' = mset (mset M 26 2 0) 26 3 0) := by
  refine go1 (fun S hS => ?_)
  refine wpx_ok hS bk1 (sp := sp1) 60 0 _ _ _ _ ?_
  simp only [LCM, B2, Bool.not_eq_false, Bool.not_eq_true, decide_eq_true_eq, decide_eq_false_iff_not, Int.not_lt, Int.not_le, CST, TN, WX, WA, WB, GS, LOC, BT1, SP1, CLS5, FLD5, ARR5, CD, true_and, and_true, and_self, forall_const, true_implies, false_implies, implies_true, not_true_eq_false, not_false_eq_true, if_true, if_false, rgI, rgL, scr, swl, lkl, cats, cat, is2, List.drop_succ_cons, List.drop_zero, List.drop_nil, List.cons_append, List.nil_append, Option.toList_some, Option.toList_none, List.length_cons, List.length_nil, ne_eq, Classical.not_not, reduceCtorEq, Nat.reduceAdd, Nat.reduceSub, Nat.reduceMul, Nat.reduceLT, Nat.reduceLeDiff, Nat.reduceEqDiff, Nat.reduceBEq, Int.reduceToNat, Int.reduceLE, Int.reduceLT, Int.reduceEq, Int.reduceNeg, Int.reduceAdd, Int.reduceSub, Int.reduceMul, Int.toNat_natCast, Nat.zero_add, Int.add_zero, Nat.add_zero, ite_true, ite_false, Option.some.injEq, Nat.le_refl, or_true, true_or, or_false, false_or, if_pos, reduceIte, Nat.reduceGT]
  exact rt1 (Nat.le_refl _) (Nat.le_refl _) ⟨rfl, rfl, rfl⟩
theorem y_settleAt (M : MM) : Run 1 2 [vR 26, vI 0, vI 0, vI 6] sh55 M 0 0 (fun r sh M' => sh = sh55 ∧ r = none ∧ M' = mset (mset M 27 0 0) 28 0 6) := by
  refine go2 (fun S hS => ?_)
  refine wpx_ok hS bk2 (sp := sp2) 60 0 _ _ _ _ ?_
  simp only [LCM, B2, Bool.not_eq_false, Bool.not_eq_true, decide_eq_true_eq, decide_eq_false_iff_not, Int.not_lt, Int.not_le, CST, TN, WX, WA, WB, GS, LOC, BT2, SP2, CLS5, FLD5, ARR5, CD, true_and, and_true, and_self, forall_const, true_implies, false_implies, implies_true, not_true_eq_false, not_false_eq_true, if_true, if_false, rgI, rgL, scr, swl, lkl, cats, cat, is2, List.drop_succ_cons, List.drop_zero, List.drop_nil, List.cons_append, List.nil_append, Option.toList_some, Option.toList_none, List.length_cons, List.length_nil, ne_eq, Classical.not_not, reduceCtorEq, Nat.reduceAdd, Nat.reduceSub, Nat.reduceMul, Nat.reduceLT, Nat.reduceLeDiff, Nat.reduceEqDiff, Nat.reduceBEq, Int.reduceToNat, Int.reduceLE, Int.reduceLT, Int.reduceEq, Int.reduceNeg, Int.reduceAdd, Int.reduceSub, Int.reduceMul, Int.toNat_natCast, Nat.zero_add, Int.add_zero, Nat.add_zero, ite_true, ite_false, Option.some.injEq, Nat.le_refl, or_true, true_or, or_false, false_or, if_pos, reduceIte, Nat.reduceGT]
  exact rt2 (Nat.le_refl _) (Nat.le_refl _) ⟨rfl, rfl, rfl⟩
theorem y_addHouse (H : Nat) (sk st : Int) (M : MM) (hH : M 18 1 = H) (h10 : H < 10) (hsk : 0 ≤ sk ∧ sk ≤ 31) : Run 1 29 [vR 18, vI sk, vI st] sh55 M 0 0 (fun q sh M' => sh = sh55 ∧ q = none ∧ M' = mset (adT (mset (mset M 20 H sk) 21 H st) 22 H sk 5) 18 1 ((H : Int) + 1)) := by
  obtain ⟨a, rfl⟩ : ∃ a : Nat, sk = (a : Int) := ⟨sk.toNat, by omega⟩
  refine go29 (fun S hS => ?_)
  have head : ∀ (m s : Nat), s + m = 5 → S 32 [some (vR 18), some (vI a), some (vI st), some (vI s)] [] (sh55, 0, 0) (adT (mset (mset M 20 H a) 21 H st) 22 H a s) := by
    intro m
    induction m with
    | zero =>
      intro s hs
      have hs5 : s = 5 := by omega
      have e1 : adT (mset (mset M 20 H a) 21 H st) 22 H a s 18 1 = H := by unfold adT; rw [if_neg (by omega)]; exact hH
      refine wpx_ok hS bk29 (sp := sp29) 60 32 _ _ _ _ ?_
      simp only [LCM, B2, Bool.not_eq_false, Bool.not_eq_true, decide_eq_true_eq, decide_eq_false_iff_not, Int.not_lt, Int.not_le, CST, TN, WX, WA, WB, GS, LOC, BT29, SP29, CLS5, FLD5, ARR5, CD, true_and, and_true, and_self, forall_const, true_implies, false_implies, implies_true, not_true_eq_false, not_false_eq_true, if_true, if_false, rgI, rgL, scr, swl, lkl, cats, cat, is2, List.drop_succ_cons, List.drop_zero, List.drop_nil, List.cons_append, List.nil_append, Option.toList_some, Option.toList_none, List.length_cons, List.length_nil, ne_eq, Classical.not_not, reduceCtorEq, Nat.reduceAdd, Nat.reduceSub, Nat.reduceMul, Nat.reduceLT, Nat.reduceLeDiff, Nat.reduceEqDiff, Nat.reduceBEq, Int.reduceToNat, Int.reduceLE, Int.reduceLT, Int.reduceEq, Int.reduceNeg, Int.reduceAdd, Int.reduceSub, Int.reduceMul, Int.toNat_natCast, Nat.zero_add, Int.add_zero, Nat.add_zero, ite_true, ite_false, Option.some.injEq, Nat.le_refl, or_true, true_or, or_false, false_or, if_pos, reduceIte, Nat.reduceGT]
      rw [e1]
      refine ⟨by omega, fun _ => rt29 (Nat.le_refl _) (Nat.le_refl _) ⟨rfl, rfl, by rw [hs5]⟩, fun h => by omega⟩
    | succ m ih =>
      intro s hs
      have e1 : adT (mset (mset M 20 H a) 21 H st) 22 H a s 18 1 = H := by unfold adT; rw [if_neg (by omega)]; exact hH
      have nx := ih (s + 1) (by omega)
      have hst := adT_step (mset (mset M 20 H a) 21 H st) 22 H a s
      have hbit := sk_bit (a := a) (by omega) (s := s) (by omega)
      have hr : rgI (bAnd (a : Int) (bShl 1 (s : Int))) := bAnd_rg _ _
      refine wpx_ok hS bk29 (sp := sp29) 60 32 _ _ _ _ ?_
      simp only [LCM, B2, Bool.not_eq_false, Bool.not_eq_true, decide_eq_true_eq, decide_eq_false_iff_not, Int.not_lt, Int.not_le, CST, TN, WX, WA, WB, GS, LOC, BT29, SP29, CLS5, FLD5, ARR5, CD, true_and, and_true, and_self, forall_const, true_implies, false_implies, implies_true, not_true_eq_false, not_false_eq_true, if_true, if_false, rgI, rgL, scr, swl, lkl, cats, cat, is2, List.drop_succ_cons, List.drop_zero, List.drop_nil, List.cons_append, List.nil_append, Option.toList_some, Option.toList_none, List.length_cons, List.length_nil, ne_eq, Classical.not_not, reduceCtorEq, Nat.reduceAdd, Nat.reduceSub, Nat.reduceMul, Nat.reduceLT, Nat.reduceLeDiff, Nat.reduceEqDiff, Nat.reduceBEq, Int.reduceToNat, Int.reduceLE, Int.reduceLT, Int.reduceEq, Int.reduceNeg, Int.reduceAdd, Int.reduceSub, Int.reduceMul, Int.toNat_natCast, Nat.zero_add, Int.add_zero, Nat.add_zero, ite_true, ite_false, Option.some.injEq, Nat.le_refl, or_true, true_or, or_false, false_or, if_pos, reduceIte, Nat.reduceGT]
      rw [e1]
      refine ⟨by omega, fun h => by omega, fun h => ⟨hr, fun h1 => ?_, fun h1 => ⟨by omega, by omega, ?_⟩⟩⟩
      · rw [hst.2 (by unfold skO; exact decide_eq_false (hbit.mp h1))]
        exact nx
      · rw [hst.1 (by unfold skO; exact decide_eq_true (Classical.not_not.mp (fun z => h1 (hbit.mpr z))))]
        exact nx
  have e0 : adT (mset (mset M 20 H a) 21 H st) 22 H a 0 = mset (mset M 20 H a) 21 H st := by
    funext k j
    unfold adT
    rw [if_neg (by omega)]
  have h0 := head 5 0 (by omega)
  rw [e0] at h0
  refine wpx_ok hS bk29 (sp := sp29) 60 0 _ _ _ _ ?_
  simp only [LCM, B2, Bool.not_eq_false, Bool.not_eq_true, decide_eq_true_eq, decide_eq_false_iff_not, Int.not_lt, Int.not_le, CST, TN, WX, WA, WB, GS, LOC, BT29, SP29, CLS5, FLD5, ARR5, CD, true_and, and_true, and_self, forall_const, true_implies, false_implies, implies_true, not_true_eq_false, not_false_eq_true, if_true, if_false, rgI, rgL, scr, swl, lkl, cats, cat, is2, List.drop_succ_cons, List.drop_zero, List.drop_nil, List.cons_append, List.nil_append, Option.toList_some, Option.toList_none, List.length_cons, List.length_nil, ne_eq, Classical.not_not, reduceCtorEq, Nat.reduceAdd, Nat.reduceSub, Nat.reduceMul, Nat.reduceLT, Nat.reduceLeDiff, Nat.reduceEqDiff, Nat.reduceBEq, Int.reduceToNat, Int.reduceLE, Int.reduceLT, Int.reduceEq, Int.reduceNeg, Int.reduceAdd, Int.reduceSub, Int.reduceMul, Int.toNat_natCast, Nat.zero_add, Int.add_zero, Nat.add_zero, ite_true, ite_false, Option.some.injEq, Nat.le_refl, or_true, true_or, or_false, false_or, if_pos, reduceIte, Nat.reduceGT, ms_ne, ms_eq, ms_nj]
  rw [hH]
  simp only [Int.toNat_natCast]
  exact ⟨by omega, fun _ => ⟨by omega, by omega, h0⟩, fun h => by omega⟩
/-- what the component's constructor leaves -/
def cN (M : MM) : Prop := (M 19 0 = 7 ∧ M 19 1 = 9 ∧ M 18 1 = 1 ∧ M 18 5 = 0 ∧ M 18 9 = 0) ∧ (M 20 0 = 1 ∧ M 21 0 = 0) ∧ (∀ t, t < 5 → M 22 t = if t = 0 then 1 else 0) ∧ (M 27 0 = 0 ∧ M 28 0 = 6) ∧ (M 26 2 = 0 ∧ M 26 3 = 0 ∧ M 26 6 = 0) ∧ ∀ k j, k ≠ 18 → ¬ (19 ≤ k ∧ k ≤ 28) → M k j = zR k j
theorem ct_43 : Run 4 43 [vR 0] [Sum.inr (5, newF 5)] z0 54 860 (fun q sh M => sh = sh55 ∧ q = none ∧ cN M) := by
  refine go43 (fun S hS => ?_)
  refine wpl_ok hS (J := S) (fun _ _ _ _ _ h => h) (bt43 0) 0 _ _ _ _ (bk43 0) ?_
  refine ex_ok 100 _ _ _ _ _ _ (b' := [(.invokespecial 7, 1, 3)]) (pc' := 18) (ls' := [some (vR 0), none]) (st' := [vR 2, vR 2, vR 0]) (Z' := (hb_2, 2, 402)) (M' := mnew (mnew (z0) 1) 2) (M2 := z0) rfl (by simp only [mn_z]) ?_
  refine kN ct_2 (by decide) (by decide) (by decide) (c2 := 4) (s2 := 416) rfl rfl (by decide) (by decide) (by decide) rfl rfl ?_
  show S 21 [some (vR 0), none] [vR 2, vR 0] (ha_2, 4, 416) z0
  refine wpl_ok hS (J := S) (fun _ _ _ _ _ h => h) (bt43 21) 21 _ _ _ _ (bk43 21) ?_
  refine ex_ok 100 _ _ _ _ _ _ (b' := [(.invokespecial 27, 1, 3)]) (pc' := 29) (ls' := [some (vR 0), none]) (st' := [vR 5, vR 5, vR 0]) (Z' := (hb_5, 5, 426)) (M' := mnew (z0) 5) (M2 := z0) rfl (by simp only [mn_z]) ?_
  refine kN ct_5 (by decide) (by decide) (by decide) (c2 := 12) (s2 := 471) rfl rfl (by decide) (by decide) (by decide) rfl rfl ?_
  show S 32 [some (vR 0), none] [vR 5, vR 0] (ha_5, 12, 471) z0
  refine wpl_ok hS (J := S) (fun _ _ _ _ _ h => h) (bt43 32) 32 _ _ _ _ (bk43 32) ?_
  refine ex_ok 100 _ _ _ _ _ _ (b' := [(.invokespecial 0, 1, 3)]) (pc' := 40) (ls' := [some (vR 0), none]) (st' := [vR 13, vR 13, vR 0]) (Z' := (hb_13, 13, 478)) (M' := mnew (z0) 13) (M2 := z0) rfl (by simp only [mn_z]) ?_
  refine kN ct_13 (by decide) (by decide) (by decide) (c2 := 17) (s2 := 538) rfl rfl (by decide) (by decide) (by decide) rfl rfl ?_
  show S 43 [some (vR 0), none] [vR 13, vR 0] (ha_13, 17, 538) z0
  refine wpl_ok hS (J := S) (fun _ _ _ _ _ h => h) (bt43 43) 43 _ _ _ _ (bk43 43) ?_
  refine ex_ok 100 _ _ _ _ _ _ (b' := [(.invokespecial 27, 1, 3)]) (pc' := 51) (ls' := [some (vR 0), none]) (st' := [vR 18, vR 18, vR 0]) (Z' := (hb_18, 18, 548)) (M' := mnew (z0) 18) (M2 := z0) rfl (by simp only [mn_z]) ?_
  refine kN ct_18 (by decide) (by decide) (by decide) (c2 := 25) (s2 := 593) rfl rfl (by decide) (by decide) (by decide) rfl rfl ?_
  show S 54 [some (vR 0), none] [vR 18, vR 0] (ha_18, 25, 593) z0
  refine wpl_ok hS (J := S) (fun _ _ _ _ _ h => h) (bt43 54) 54 _ _ _ _ (bk43 54) ?_
  refine ex_ok 100 _ _ _ _ _ _ (b' := [(.invokespecial 0, 1, 3)]) (pc' := 62) (ls' := [some (vR 0), none]) (st' := [vR 26, vR 26, vR 0]) (Z' := (hb_26, 26, 600)) (M' := mnew (z0) 26) (M2 := z0) rfl (by simp only [mn_z]) ?_
  refine kN ct_26 (by decide) (by decide) (by decide) (c2 := 30) (s2 := 660) rfl rfl (by decide) (by decide) (by decide) rfl rfl ?_
  show S 65 [some (vR 0), none] [vR 26, vR 0] (ha_26, 30, 660) z0
  refine wpl_ok hS (J := S) (fun _ _ _ _ _ h => h) (bt43 65) 65 _ _ _ _ (bk43 65) ?_
  refine ex_ok 100 _ _ _ _ _ _ (b' := [(.invokespecial 20, 1, 3)]) (pc' := 81) (ls' := [some (vR 0), none]) (st' := [vR 32, vR 32, vR 0]) (Z' := (hb_32, 32, 665)) (M' := mnew (mnew (z0) 31) 32) (M2 := z0) rfl (by simp only [mn_z]) ?_
  refine kN ct_32 (by decide) (by decide) (by decide) (c2 := 36) (s2 := 693) rfl rfl (by decide) (by decide) (by decide) rfl rfl ?_
  show S 84 [some (vR 0), none] [vR 32, vR 0] (ha_32, 36, 693) zR
  refine wpl_ok hS (J := S) (fun _ _ _ _ _ h => h) (bt43 84) 84 _ _ _ _ (bk43 84) ?_
  refine ex_ok 100 _ _ _ _ _ _ (b' := [(.invokespecial 34, 1, 3)]) (pc' := 92) (ls' := [some (vR 0), none]) (st' := [vR 37, vR 37, vR 0]) (Z' := (hb_37, 37, 703)) (M' := mnew (zR) 37) (M2 := zR) rfl (by rw [mn_R (by decide)]) ?_
  refine kN ct_37 (by decide) (by decide) (by decide) (c2 := 43) (s2 := 721) rfl rfl (by decide) (by decide) (by decide) rfl rfl ?_
  show S 95 [some (vR 0), none] [vR 37, vR 0] (ha_37, 43, 721) zR
  refine wpl_ok hS (J := S) (fun _ _ _ _ _ h => h) (bt43 95) 95 _ _ _ _ (bk43 95) ?_
  refine ex_ok 100 _ _ _ _ _ _ (b' := []) (pc' := 107) (ls' := [some (vR 0), some (vI 0)]) (st' := []) (Z' := (hl_0, 44, 726)) (M' := mnew (zR) 44) (M2 := zR) rfl (by rw [mn_R (by decide)]) ?_
  refine w_end ?_
  show S 107 [some (vR 0), some (vI 0)] [] (hl_0, 44, 726) zR
  refine wpl_ok hS (J := S) (fun _ _ _ _ _ h => h) (bt43 107) 107 _ _ _ _ (bk43 107) ?_
  refine ex_ok 100 _ _ _ _ _ _ (b' := [(.if_icmp .ge 131, 0, 3)]) (pc' := 109) (ls' := [some (vR 0), some (vI 0)]) (st' := [vI 2, vI 0]) (Z' := (hl_0, 44, 726)) (M' := zR) (M2 := zR) rfl (rfl) ?_
  refine w_ge0 (by unfold rgI; omega) (by unfold rgI; omega) (by decide) ?_
  show S 112 [some (vR 0), some (vI 0)] [] (hl_0, 44, 726) zR
  refine wpl_ok hS (J := S) (fun _ _ _ _ _ h => h) (bt43 112) 112 _ _ _ _ (bk43 112) ?_
  refine ex_ok 100 _ _ _ _ _ _ (b' := [(.invokespecial 0, 1, 3)]) (pc' := 121) (ls' := [some (vR 0), some (vI 0)]) (st' := [vR 45, vR 45, vI 0, vR 31]) (Z' := (hb_45, 45, 733)) (M' := mnew (zR) 45) (M2 := zR) rfl (by rw [mn_R (by decide)]) ?_
  refine kN ct_45 (by decide) (by decide) (by decide) (c2 := 49) (s2 := 793) rfl rfl (by decide) (by decide) (by decide) rfl rfl ?_
  show S 124 [some (vR 0), some (vI 0)] [vR 45, vI 0, vR 31] (ha_45, 49, 793) zR
  refine wpl_ok hS (J := S) (fun _ _ _ _ _ h => h) (bt43 124) 124 _ _ _ _ (bk43 124) ?_
  refine ex_ok 100 _ _ _ _ _ _ (b' := [(.goto 107, 0, 3)]) (pc' := 128) (ls' := [some (vR 0), some (vI 1)]) (st' := []) (Z' := (hl_1, 49, 793)) (M' := zR) (M2 := zR) rfl (rfl) ?_
  refine w_goto ?_
  show S 107 [some (vR 0), some (vI 1)] [] (hl_1, 49, 793) zR
  refine wpl_ok hS (J := S) (fun _ _ _ _ _ h => h) (bt43 107) 107 _ _ _ _ (bk43 107) ?_
  refine ex_ok 100 _ _ _ _ _ _ (b' := [(.if_icmp .ge 131, 0, 3)]) (pc' := 109) (ls' := [some (vR 0), some (vI 1)]) (st' := [vI 2, vI 1]) (Z' := (hl_1, 49, 793)) (M' := zR) (M2 := zR) rfl (rfl) ?_
  refine w_ge0 (by unfold rgI; omega) (by unfold rgI; omega) (by decide) ?_
  show S 112 [some (vR 0), some (vI 1)] [] (hl_1, 49, 793) zR
  refine wpl_ok hS (J := S) (fun _ _ _ _ _ h => h) (bt43 112) 112 _ _ _ _ (bk43 112) ?_
  refine ex_ok 100 _ _ _ _ _ _ (b' := [(.invokespecial 0, 1, 3)]) (pc' := 121) (ls' := [some (vR 0), some (vI 1)]) (st' := [vR 50, vR 50, vI 1, vR 31]) (Z' := (hb_50, 50, 800)) (M' := mnew (zR) 50) (M2 := zR) rfl (by rw [mn_R (by decide)]) ?_
  refine kN ct_50 (by decide) (by decide) (by decide) (c2 := 54) (s2 := 860) rfl rfl (by decide) (by decide) (by decide) rfl rfl ?_
  show S 124 [some (vR 0), some (vI 1)] [vR 50, vI 1, vR 31] (ha_50, 54, 860) zR
  refine wpl_ok hS (J := S) (fun _ _ _ _ _ h => h) (bt43 124) 124 _ _ _ _ (bk43 124) ?_
  refine ex_ok 100 _ _ _ _ _ _ (b' := [(.goto 107, 0, 3)]) (pc' := 128) (ls' := [some (vR 0), some (vI 2)]) (st' := []) (Z' := (sh55, 54, 860)) (M' := zR) (M2 := zR) rfl (rfl) ?_
  refine w_goto ?_
  show S 107 [some (vR 0), some (vI 2)] [] (sh55, 54, 860) zR
  refine wpl_ok hS (J := S) (fun _ _ _ _ _ h => h) (bt43 107) 107 _ _ _ _ (bk43 107) ?_
  refine ex_ok 100 _ _ _ _ _ _ (b' := [(.if_icmp .ge 131, 0, 3)]) (pc' := 109) (ls' := [some (vR 0), some (vI 2)]) (st' := [vI 2, vI 2]) (Z' := (sh55, 54, 860)) (M' := zR) (M2 := zR) rfl (rfl) ?_
  refine w_ge1 (by unfold rgI; omega) (by unfold rgI; omega) (by decide) ?_
  show S 131 [some (vR 0), some (vI 2)] [] (sh55, 54, 860) zR
  refine wpl_ok hS (J := S) (fun _ _ _ _ _ h => h) (bt43 131) 131 _ _ _ _ (bk43 131) ?_
  refine ex_ok 100 _ _ _ _ _ _ (b' := [(.invokevirtual 28, 1, 3)]) (pc' := 135) (ls' := [some (vR 0), some (vI 2)]) (st' := [vR 18]) (Z' := (sh55, 54, 860)) (M' := zR) (M2 := zR) rfl rfl ?_
  refine kM (y_tbegin zR) (by decide) (args := [vR 18]) (rest := []) rfl rfl (by decide) (by decide) (by decide) (by decide) (m := 1) rfl rfl own28 rfl ?_
  rintro q N1 ⟨rfl, n1, n2, n3⟩
  show S 138 [some (vR 0), some (vI 2)] [] (sh55, 54, 860) N1
  refine wpl_ok hS (J := S) (fun _ _ _ _ _ h => h) (bt43 138) 138 _ _ _ _ (bk43 138) ?_
  refine ex_ok 100 _ _ _ _ _ _ (b' := [(.invokevirtual 1, 1, 3)]) (pc' := 142) (ls' := [some (vR 0), some (vI 2)]) (st' := [vR 26]) (Z' := (sh55, 54, 860)) (M' := N1) (M2 := N1) rfl rfl ?_
  refine kM (y_bbegin N1) (by decide) (args := [vR 26]) (rest := []) rfl rfl (by decide) (by decide) (by decide) (by decide) (m := 1) rfl rfl own1 rfl ?_
  rintro q N2 ⟨rfl, hN2⟩
  have e1 : N2 18 1 = 0 := by rw [hN2, ms_ne (by decide), ms_ne (by decide)]; exact n1.2.2.1
  show S 145 [some (vR 0), some (vI 2)] [] (sh55, 54, 860) N2
  refine wpl_ok hS (J := S) (fun _ _ _ _ _ h => h) (bt43 145) 145 _ _ _ _ (bk43 145) ?_
  refine ex_ok 100 _ _ _ _ _ _ (b' := [(.invokevirtual 2, 4, 3)]) (pc' := 159) (ls' := [some (vR 0), some (vI 2)]) (st' := [vI 6, vI 0, vI (N2 18 1), vR 26]) (Z' := (sh55, 54, 860)) (M' := N2) (M2 := N2) rfl rfl ?_
  rw [e1]
  refine kM (y_settleAt N2) (by decide) (args := [vR 26, vI 0, vI 0, vI 6]) (rest := []) rfl rfl (by decide) (by decide) (by decide) (by decide) (m := 4) rfl rfl own2 rfl ?_
  rintro q N3 ⟨rfl, hN3⟩
  have e2 : N3 18 1 = 0 := by rw [hN3, ms_ne (by decide), ms_ne (by decide)]; exact e1
  show S 162 [some (vR 0), some (vI 2)] [] (sh55, 54, 860) N3
  refine wpl_ok hS (J := S) (fun _ _ _ _ _ h => h) (bt43 162) 162 _ _ _ _ (bk43 162) ?_
  refine ex_ok 100 _ _ _ _ _ _ (b' := [(.invokevirtual 29, 3, 3)]) (pc' := 168) (ls' := [some (vR 0), some (vI 2)]) (st' := [vI 0, vI 1, vR 18]) (Z' := (sh55, 54, 860)) (M' := N3) (M2 := N3) rfl rfl ?_
  refine kM (y_addHouse 0 1 0 N3 e2 (by decide) (by decide)) (by decide) (args := [vR 18, vI 1, vI 0]) (rest := []) rfl rfl (by decide) (by decide) (by decide) (by decide) (m := 3) rfl rfl own29 rfl ?_
  rintro q N4 ⟨rfl, hN4⟩
  show S 171 [some (vR 0), some (vI 2)] [] (sh55, 54, 860) N4
  refine wpl_ok hS (J := S) (fun _ _ _ _ _ h => h) (bt43 171) 171 _ _ _ _ (bk43 171) ?_
  refine w_ret (rt43 (by decide) (by decide) ⟨rfl, rfl, ?_⟩)
  have o1 : ∀ k j, k ≠ 18 → ¬ (19 ≤ k ∧ k ≤ 28) → N4 k j = zR k j := fun k j h1 h2 => by
    rw [hN4, ms_ne h1]
    unfold adT
    rw [if_neg (by omega), ms_ne (by omega), ms_ne (by omega), hN3, ms_ne (by omega), ms_ne (by omega), hN2, ms_ne (by omega), ms_ne (by omega)]
    exact n3 k j (by omega)
  have a1 : ∀ k j, 18 ≤ k → k ≤ 26 → ¬ (k = 26 ∧ (j = 2 ∨ j = 3)) → N3 k j = N1 k j := fun k j h1 h2 h3 => by
    rw [hN3, ms_ne (by omega), ms_ne (by omega), hN2]
    unfold mset
    rw [if_neg (by omega), if_neg (by omega)]
  have a2 : ∀ k j, 18 ≤ k → k ≤ 28 → ¬ (20 ≤ k ∧ k ≤ 22) → ¬ (k = 18 ∧ j = 1) → N4 k j = N3 k j := fun k j h1 h2 h3 h4 => by
    have x1 : N4 k j = adT (mset (mset N3 20 0 1) 21 0 0) 22 0 1 5 k j := by rw [hN4]; unfold mset; rw [if_neg h4]
    rw [x1]
    unfold adT
    rw [if_neg (by omega), ms_ne (by omega), ms_ne (by omega)]
  refine ⟨⟨?_, ?_, ?_, ?_, ?_⟩, ⟨?_, ?_⟩, fun t ht => ?_, ⟨?_, ?_⟩, ⟨?_, ?_, ?_⟩, o1⟩
  · rw [a2 19 0 (by decide) (by decide) (by decide) (by decide), a1 19 0 (by decide) (by decide) (by decide)]; exact n1.1
  · rw [a2 19 1 (by decide) (by decide) (by decide) (by decide), a1 19 1 (by decide) (by decide) (by decide)]; exact n1.2.1
  · rw [hN4, ms_eq]; rfl
  · rw [a2 18 5 (by decide) (by decide) (by decide) (by decide), a1 18 5 (by decide) (by decide) (by decide)]; exact n1.2.2.2.1
  · rw [a2 18 9 (by decide) (by decide) (by decide) (by decide), a1 18 9 (by decide) (by decide) (by decide)]; exact n1.2.2.2.2
  · rw [hN4, ms_ne (by decide)]; rfl
  · rw [hN4, ms_ne (by decide)]; rfl
  · rw [hN4, ms_ne (by decide)]
    have h22 : N3 22 t = 0 := by rw [a1 22 t (by decide) (by decide) (by omega)]; exact n2 t ht
    show (if 22 = 22 ∧ t < 5 ∧ skO 1 t = true then bOr (N3 22 t) (bShl 1 ((0 : Nat) : Int)) else N3 22 t) = _
    rw [h22]
    have ht5 : t = 0 ∨ t = 1 ∨ t = 2 ∨ t = 3 ∨ t = 4 := by omega
    rcases ht5 with rfl | rfl | rfl | rfl | rfl <;> decide +kernel
  · rw [a2 27 0 (by decide) (by decide) (by decide) (by decide), hN3]; rfl
  · rw [a2 28 0 (by decide) (by decide) (by decide) (by decide), hN3]; rfl
  · rw [a2 26 2 (by decide) (by decide) (by decide) (by decide), hN3, ms_ne (by decide), ms_ne (by decide), hN2]; rfl
  · rw [a2 26 3 (by decide) (by decide) (by decide) (by decide), hN3, ms_ne (by decide), ms_ne (by decide), hN2]; rfl
  · rw [a2 26 6 (by decide) (by decide) (by decide) (by decide), a1 26 6 (by decide) (by decide) (by decide), n3 26 6 (by decide)]; rfl

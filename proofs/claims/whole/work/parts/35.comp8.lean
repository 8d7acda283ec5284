def roc (k : Nat) : Prop := ro k ∨ k = 44
theorem x_findOneChange (w : Nat) (M T : MM) (hC : RC M T) (hW : WFt T) (hR : RO M T (pH T)) (hw : w < wN T) (hev : evS T w = true) :
    oQ 6 96 [vR 0, vI w] M (fun r M' => r = some (Sum.inl (b2i (oneC T w 0 (hN T)).isSome)) ∧ RO M' T (pH T) ∧ (∀ k j, ¬ roc k → M' k j = M k j) ∧ (match oneC T w 0 (hN T) with
      | some (i, q) => M' 44 0 = 1 ∧ M' 44 1 = i ∧ M' 44 2 = q ∧ M' 44 3 = M 44 3 ∧ M' 44 4 = M 44 4
      | none => ∀ j, M' 44 j = M 44 j)) := by
  have hH := hW.H
  generalize hX : oneC T w 0 (hN T) = X
  refine go96 (fun S hS => ?_)
  have head : ∀ (n i : Nat) (N : MM), i + n = hN T → oneC T w i n = X → RO N T (pH T) → (∀ k j, ¬ ro k → N k j = M k j) → ∀ o : Option AV, S 2 [some (vR 0), some (vI w), some (vI i), o] [] (sh0, 0, 0) N := by
    intro n
    induction n with
    | zero =>
      intro i N hi hf hO hF o
      have e1 : N 18 1 = T 58 0 := by rw [hF 18 1 (by unfold ro; omega)]; exact hC.1.2.2.1
      refine wpx_ok hS bk96 (sp := sp96) 60 2 _ _ _ _ ?_
      simp only [LCM, B2, Bool.not_eq_false, Bool.not_eq_true, decide_eq_true_eq, decide_eq_false_iff_not, Int.not_lt, Int.not_le, CST, TN, WX, WA, WB, GS, LOC, BT96, SP96, CLS, FLD, ARR, CD, true_and, and_true, and_self, forall_const, true_implies, false_implies, implies_true, not_true_eq_false, not_false_eq_true, if_true, if_false, rgI, rgL, scr, swl, lkl, cats, cat, is2, List.drop_succ_cons, List.drop_zero, List.drop_nil, List.cons_append, List.nil_append, Option.toList_some, Option.toList_none, List.length_cons, List.length_nil, ne_eq, Classical.not_not, reduceCtorEq, Nat.reduceAdd, Nat.reduceSub, Nat.reduceMul, Nat.reduceLT, Nat.reduceLeDiff, Nat.reduceEqDiff, Nat.reduceBEq, Int.reduceToNat, Int.reduceLE, Int.reduceLT, Int.reduceEq, Int.reduceNeg, Int.reduceAdd, Int.reduceSub, Int.reduceMul, Int.toNat_natCast, Nat.zero_add, Int.add_zero, Nat.add_zero, ite_true, ite_false, Option.some.injEq, Nat.le_refl, or_true, true_or, or_false, false_or, if_pos, reduceIte, Nat.reduceGT]
      rw [e1]
      refine ⟨by omega, fun h => rt96 (by decide) ⟨rfl, ?_, hO, fun k j hk => hF k j (fun z => hk (Or.inl z)), ?_⟩, fun h => by omega⟩
      · rw [← hf]; rfl
      · rw [← hf]
        exact fun j => hF 44 j (by unfold ro; omega)
    | succ n ih =>
      intro i N hi hf hO hF o
      have hC1 : RC N T := hC.keep (fun k j h1 h2 => hF k j (by unfold ro; omega))
      rw [oneC] at hf
      refine wpx_ok hS bk96 (sp := sp96) 60 2 _ _ _ _ ?_
      simp only [LCM, B2, Bool.not_eq_false, Bool.not_eq_true, decide_eq_true_eq, decide_eq_false_iff_not, Int.not_lt, Int.not_le, CST, TN, WX, WA, WB, GS, LOC, BT96, SP96, CLS, FLD, ARR, CD, true_and, and_true, and_self, forall_const, true_implies, false_implies, implies_true, not_true_eq_false, not_false_eq_true, if_true, if_false, rgI, rgL, scr, swl, lkl, cats, cat, is2, List.drop_succ_cons, List.drop_zero, List.drop_nil, List.cons_append, List.nil_append, Option.toList_some, Option.toList_none, List.length_cons, List.length_nil, ne_eq, Classical.not_not, reduceCtorEq, Nat.reduceAdd, Nat.reduceSub, Nat.reduceMul, Nat.reduceLT, Nat.reduceLeDiff, Nat.reduceEqDiff, Nat.reduceBEq, Int.reduceToNat, Int.reduceLE, Int.reduceLT, Int.reduceEq, Int.reduceNeg, Int.reduceAdd, Int.reduceSub, Int.reduceMul, Int.toNat_natCast, Nat.zero_add, Int.add_zero, Nat.add_zero, ite_true, ite_false, Option.some.injEq, Nat.le_refl, or_true, true_or, or_false, false_or, if_pos, reduceIte, Nat.reduceGT]
      rw [hC1.1.2.2.1]
      refine ⟨by omega, fun h => by omega, fun h => ?_⟩
      refine ⟨rcv_ok rfl own100 rfl, kQ (x_helpfulRest w i N T T hC1 hW (SW.rf T) hW hO hw (by omega) rfl rfl hev) (Nat.le_of_ble_eq_true rfl) rfl rfl (Nat.le_of_ble_eq_true rfl) (Nat.le_of_ble_eq_true rfl) rfl ?_⟩
      rintro r M1 ⟨rfl, hO1, hF1⟩
      have hF2 : ∀ k j, ¬ ro k → M1 k j = M k j := fun k j hk => (hF1 k j hk).trans (hF k j hk)
      cases hone : oneR T w i with
      | none =>
        rw [hone] at hf
        refine wpx_ok hS bk96 (sp := sp96) 60 19 _ _ _ _ ?_
        simp only [LCM, B2, Bool.not_eq_false, Bool.not_eq_true, decide_eq_true_eq, decide_eq_false_iff_not, Int.not_lt, Int.not_le, CST, TN, WX, WA, WB, GS, LOC, BT96, SP96, CLS, FLD, ARR, CD, true_and, and_true, and_self, forall_const, true_implies, false_implies, implies_true, not_true_eq_false, not_false_eq_true, if_true, if_false, rgI, rgL, scr, swl, lkl, cats, cat, is2, List.drop_succ_cons, List.drop_zero, List.drop_nil, List.cons_append, List.nil_append, Option.toList_some, Option.toList_none, List.length_cons, List.length_nil, ne_eq, Classical.not_not, reduceCtorEq, Nat.reduceAdd, Nat.reduceSub, Nat.reduceMul, Nat.reduceLT, Nat.reduceLeDiff, Nat.reduceEqDiff, Nat.reduceBEq, Int.reduceToNat, Int.reduceLE, Int.reduceLT, Int.reduceEq, Int.reduceNeg, Int.reduceAdd, Int.reduceSub, Int.reduceMul, Int.toNat_natCast, Nat.zero_add, Int.add_zero, Nat.add_zero, ite_true, ite_false, Option.some.injEq, Nat.le_refl, or_true, true_or, or_false, false_or, if_pos, reduceIte, Nat.reduceGT]
        refine ⟨?_, fun _ => ih (i + 1) M1 (by omega) hf hO1 hF2 _, fun h => absurd rfl h⟩
        show rgI (-4)
        unfold rgI
        omega
      | some q =>
        rw [hone] at hf
        have hl := hW.ln (i := i) (by omega)
        have hq : (q : Int) < 12 := by
          unfold oneR at hone
          have := (fstF_some.mp hone).2.1
          omega
        refine wpx_ok hS bk96 (sp := sp96) 60 19 _ _ _ _ ?_
        simp only [LCM, B2, Bool.not_eq_false, Bool.not_eq_true, decide_eq_true_eq, decide_eq_false_iff_not, Int.not_lt, Int.not_le, CST, TN, WX, WA, WB, GS, LOC, BT96, SP96, CLS, FLD, ARR, CD, true_and, and_true, and_self, forall_const, true_implies, false_implies, implies_true, not_true_eq_false, not_false_eq_true, if_true, if_false, rgI, rgL, scr, swl, lkl, cats, cat, is2, List.drop_succ_cons, List.drop_zero, List.drop_nil, List.cons_append, List.nil_append, Option.toList_some, Option.toList_none, List.length_cons, List.length_nil, ne_eq, Classical.not_not, reduceCtorEq, Nat.reduceAdd, Nat.reduceSub, Nat.reduceMul, Nat.reduceLT, Nat.reduceLeDiff, Nat.reduceEqDiff, Nat.reduceBEq, Int.reduceToNat, Int.reduceLE, Int.reduceLT, Int.reduceEq, Int.reduceNeg, Int.reduceAdd, Int.reduceSub, Int.reduceMul, Int.toNat_natCast, Nat.zero_add, Int.add_zero, Nat.add_zero, ite_true, ite_false, Option.some.injEq, Nat.le_refl, or_true, true_or, or_false, false_or, if_pos, reduceIte, Nat.reduceGT]
        refine ⟨?_, fun h => ?_, fun h => ?_⟩
        · show rgI ((q : Nat) : Int)
          unfold rgI
          omega
        · have : ((q : Nat) : Int) = -4 := h
          omega
        · refine rt96 (by decide) ⟨rfl, ?_, ?_, ?_, ?_⟩
          · rw [← hf]; rfl
          · exact hO1.keep (fun k j h1 h2 => by rw [ms_ne (by omega), ms_ne (by omega), ms_ne (by omega)])
          · intro k j hk
            rw [ms_ne (fun z => hk (Or.inr z)), ms_ne (fun z => hk (Or.inr z)), ms_ne (fun z => hk (Or.inr z))]
            exact hF2 k j (fun z => hk (Or.inl z))
          · rw [← hf]
            refine ⟨rfl, rfl, rfl, ?_, ?_⟩
            · exact hF2 44 3 (by unfold ro; omega)
            · exact hF2 44 4 (by unfold ro; omega)
  refine wpx_ok hS bk96 (sp := sp96) 60 0 _ _ _ _ ?_
  simp only [LCM, B2, Bool.not_eq_false, Bool.not_eq_true, decide_eq_true_eq, decide_eq_false_iff_not, Int.not_lt, Int.not_le, CST, TN, WX, WA, WB, GS, LOC, BT96, SP96, CLS, FLD, ARR, CD, true_and, and_true, and_self, forall_const, true_implies, false_implies, implies_true, not_true_eq_false, not_false_eq_true, if_true, if_false, rgI, rgL, scr, swl, lkl, cats, cat, is2, List.drop_succ_cons, List.drop_zero, List.drop_nil, List.cons_append, List.nil_append, Option.toList_some, Option.toList_none, List.length_cons, List.length_nil, ne_eq, Classical.not_not, reduceCtorEq, Nat.reduceAdd, Nat.reduceSub, Nat.reduceMul, Nat.reduceLT, Nat.reduceLeDiff, Nat.reduceEqDiff, Nat.reduceBEq, Int.reduceToNat, Int.reduceLE, Int.reduceLT, Int.reduceEq, Int.reduceNeg, Int.reduceAdd, Int.reduceSub, Int.reduceMul, Int.toNat_natCast, Nat.zero_add, Int.add_zero, Nat.add_zero, ite_true, ite_false, Option.some.injEq, Nat.le_refl, or_true, true_or, or_false, false_or, if_pos, reduceIte, Nat.reduceGT]
  exact head (hN T) 0 M (by omega) hX hR (fun _ _ _ => rfl) _
theorem x_findSecondChange (w i r : Nat) (M T : MM) (hC : RC M T) (hW : WFt T) (hi : i < hN T) (hr : (r : Int) < len T i) (hR : RO M (setR T i r) (pH T)) (hw : w < wN T) (hev : evS (setR T i r) w = true) :
    oQ 6 98 [vR 0, vI w, vI i, vI r] M (fun v M' => v = some (Sum.inl (b2i (twoO T w i r).isSome)) ∧ RO M' (setR T i r) (pH T) ∧ (∀ k j, ¬ roc k → M' k j = M k j) ∧ (match twoO T w i r with
      | some (j, q) => M' 44 0 = 2 ∧ M' 44 1 = i ∧ M' 44 2 = r ∧ M' 44 3 = j ∧ M' 44 4 = q
      | none => ∀ j, M' 44 j = M 44 j)) := by
  have hH := hW.H
  have hli := hW.ln hi
  have hW2 : WFt (setR T i r) := setR_WF hW (by omega)
  generalize hX : twoO T w i r = X
  refine go98 (fun S hS => ?_)
  have head : ∀ (n j : Nat) (N : MM), i < j → j + n = hN T → oneC (setR T i r) w j n = X → RO N (setR T i r) (pH T) → (∀ k j, ¬ ro k → N k j = M k j) → ∀ o : Option AV, S 5 [some (vR 0), some (vI w), some (vI i), some (vI r), some (vI j), o] [] (sh0, 0, 0) N := by
    intro n
    induction n with
    | zero =>
      intro j N hij hj hf hO hF o
      have e1 : N 18 1 = T 58 0 := by rw [hF 18 1 (by unfold ro; omega)]; exact hC.1.2.2.1
      refine wpx_ok hS bk98 (sp := sp98) 60 5 _ _ _ _ ?_
      simp only [LCM, B2, Bool.not_eq_false, Bool.not_eq_true, decide_eq_true_eq, decide_eq_false_iff_not, Int.not_lt, Int.not_le, CST, TN, WX, WA, WB, GS, LOC, BT98, SP98, CLS, FLD, ARR, CD, true_and, and_true, and_self, forall_const, true_implies, false_implies, implies_true, not_true_eq_false, not_false_eq_true, if_true, if_false, rgI, rgL, scr, swl, lkl, cats, cat, is2, List.drop_succ_cons, List.drop_zero, List.drop_nil, List.cons_append, List.nil_append, Option.toList_some, Option.toList_none, List.length_cons, List.length_nil, ne_eq, Classical.not_not, reduceCtorEq, Nat.reduceAdd, Nat.reduceSub, Nat.reduceMul, Nat.reduceLT, Nat.reduceLeDiff, Nat.reduceEqDiff, Nat.reduceBEq, Int.reduceToNat, Int.reduceLE, Int.reduceLT, Int.reduceEq, Int.reduceNeg, Int.reduceAdd, Int.reduceSub, Int.reduceMul, Int.toNat_natCast, Nat.zero_add, Int.add_zero, Nat.add_zero, ite_true, ite_false, Option.some.injEq, Nat.le_refl, or_true, true_or, or_false, false_or, if_pos, reduceIte, Nat.reduceGT]
      rw [e1]
      refine ⟨by omega, fun h => rt98 (by decide) ⟨rfl, ?_, hO, fun k j hk => hF k j (fun z => hk (Or.inl z)), ?_⟩, fun h => by omega⟩
      · rw [← hf]; rfl
      · rw [← hf]
        exact fun j => hF 44 j (by unfold ro; omega)
    | succ n ih =>
      intro j N hij hj hf hO hF o
      have hC1 : RC N T := hC.keep (fun k j h1 h2 => hF k j (by unfold ro; omega))
      rw [oneC] at hf
      refine wpx_ok hS bk98 (sp := sp98) 60 5 _ _ _ _ ?_
      simp only [LCM, B2, Bool.not_eq_false, Bool.not_eq_true, decide_eq_true_eq, decide_eq_false_iff_not, Int.not_lt, Int.not_le, CST, TN, WX, WA, WB, GS, LOC, BT98, SP98, CLS, FLD, ARR, CD, true_and, and_true, and_self, forall_const, true_implies, false_implies, implies_true, not_true_eq_false, not_false_eq_true, if_true, if_false, rgI, rgL, scr, swl, lkl, cats, cat, is2, List.drop_succ_cons, List.drop_zero, List.drop_nil, List.cons_append, List.nil_append, Option.toList_some, Option.toList_none, List.length_cons, List.length_nil, ne_eq, Classical.not_not, reduceCtorEq, Nat.reduceAdd, Nat.reduceSub, Nat.reduceMul, Nat.reduceLT, Nat.reduceLeDiff, Nat.reduceEqDiff, Nat.reduceBEq, Int.reduceToNat, Int.reduceLE, Int.reduceLT, Int.reduceEq, Int.reduceNeg, Int.reduceAdd, Int.reduceSub, Int.reduceMul, Int.toNat_natCast, Nat.zero_add, Int.add_zero, Nat.add_zero, ite_true, ite_false, Option.some.injEq, Nat.le_refl, or_true, true_or, or_false, false_or, if_pos, reduceIte, Nat.reduceGT]
      rw [hC1.1.2.2.1]
      refine ⟨by omega, fun h => by omega, fun h => ?_⟩
      refine ⟨rcv_ok rfl own100 rfl, kQ (x_helpfulRest w j N T (setR T i r) hC1 hW (setR_SW T i r) hW2 hO hw (by omega) (ms_nj (by omega)) (ms_nj (by omega)) hev) (Nat.le_of_ble_eq_true rfl) rfl rfl (Nat.le_of_ble_eq_true rfl) (Nat.le_of_ble_eq_true rfl) rfl ?_⟩
      rintro v M1 ⟨rfl, hO1, hF1⟩
      have hF2 : ∀ k j, ¬ ro k → M1 k j = M k j := fun k j hk => (hF1 k j hk).trans (hF k j hk)
      cases hone : oneR (setR T i r) w j with
      | none =>
        rw [hone] at hf
        refine wpx_ok hS bk98 (sp := sp98) 60 24 _ _ _ _ ?_
        simp only [LCM, B2, Bool.not_eq_false, Bool.not_eq_true, decide_eq_true_eq, decide_eq_false_iff_not, Int.not_lt, Int.not_le, CST, TN, WX, WA, WB, GS, LOC, BT98, SP98, CLS, FLD, ARR, CD, true_and, and_true, and_self, forall_const, true_implies, false_implies, implies_true, not_true_eq_false, not_false_eq_true, if_true, if_false, rgI, rgL, scr, swl, lkl, cats, cat, is2, List.drop_succ_cons, List.drop_zero, List.drop_nil, List.cons_append, List.nil_append, Option.toList_some, Option.toList_none, List.length_cons, List.length_nil, ne_eq, Classical.not_not, reduceCtorEq, Nat.reduceAdd, Nat.reduceSub, Nat.reduceMul, Nat.reduceLT, Nat.reduceLeDiff, Nat.reduceEqDiff, Nat.reduceBEq, Int.reduceToNat, Int.reduceLE, Int.reduceLT, Int.reduceEq, Int.reduceNeg, Int.reduceAdd, Int.reduceSub, Int.reduceMul, Int.toNat_natCast, Nat.zero_add, Int.add_zero, Nat.add_zero, ite_true, ite_false, Option.some.injEq, Nat.le_refl, or_true, true_or, or_false, false_or, if_pos, reduceIte, Nat.reduceGT]
        refine ⟨?_, fun _ => ih (j + 1) M1 (by omega) (by omega) hf hO1 hF2 _, fun h => absurd rfl h⟩
        show rgI (-4)
        unfold rgI
        omega
      | some q =>
        rw [hone] at hf
        have hl := hW2.ln (i := j) (show j < hN T by omega)
        have hq : (q : Int) < 12 := by
          unfold oneR at hone
          have := (fstF_some.mp hone).2.1
          omega
        refine wpx_ok hS bk98 (sp := sp98) 60 24 _ _ _ _ ?_
        simp only [LCM, B2, Bool.not_eq_false, Bool.not_eq_true, decide_eq_true_eq, decide_eq_false_iff_not, Int.not_lt, Int.not_le, CST, TN, WX, WA, WB, GS, LOC, BT98, SP98, CLS, FLD, ARR, CD, true_and, and_true, and_self, forall_const, true_implies, false_implies, implies_true, not_true_eq_false, not_false_eq_true, if_true, if_false, rgI, rgL, scr, swl, lkl, cats, cat, is2, List.drop_succ_cons, List.drop_zero, List.drop_nil, List.cons_append, List.nil_append, Option.toList_some, Option.toList_none, List.length_cons, List.length_nil, ne_eq, Classical.not_not, reduceCtorEq, Nat.reduceAdd, Nat.reduceSub, Nat.reduceMul, Nat.reduceLT, Nat.reduceLeDiff, Nat.reduceEqDiff, Nat.reduceBEq, Int.reduceToNat, Int.reduceLE, Int.reduceLT, Int.reduceEq, Int.reduceNeg, Int.reduceAdd, Int.reduceSub, Int.reduceMul, Int.toNat_natCast, Nat.zero_add, Int.add_zero, Nat.add_zero, ite_true, ite_false, Option.some.injEq, Nat.le_refl, or_true, true_or, or_false, false_or, if_pos, reduceIte, Nat.reduceGT]
        refine ⟨?_, fun h => ?_, fun h => ?_⟩
        · show rgI ((q : Nat) : Int)
          unfold rgI
          omega
        · have : ((q : Nat) : Int) = -4 := h
          omega
        · refine rt98 (by decide) ⟨rfl, ?_, ?_, ?_, ?_⟩
          · rw [← hf]; rfl
          · exact hO1.keep (fun k j h1 h2 => by rw [ms_ne (by omega), ms_ne (by omega), ms_ne (by omega), ms_ne (by omega), ms_ne (by omega)])
          · intro k j hk
            rw [ms_ne (fun z => hk (Or.inr z)), ms_ne (fun z => hk (Or.inr z)), ms_ne (fun z => hk (Or.inr z)), ms_ne (fun z => hk (Or.inr z)), ms_ne (fun z => hk (Or.inr z))]
            exact hF2 k j (fun z => hk (Or.inl z))
          · rw [← hf]
            exact ⟨rfl, rfl, rfl, rfl, rfl⟩
  refine wpx_ok hS bk98 (sp := sp98) 60 0 _ _ _ _ ?_
  simp only [LCM, B2, Bool.not_eq_false, Bool.not_eq_true, decide_eq_true_eq, decide_eq_false_iff_not, Int.not_lt, Int.not_le, CST, TN, WX, WA, WB, GS, LOC, BT98, SP98, CLS, FLD, ARR, CD, true_and, and_true, and_self, forall_const, true_implies, false_implies, implies_true, not_true_eq_false, not_false_eq_true, if_true, if_false, rgI, rgL, scr, swl, lkl, cats, cat, is2, List.drop_succ_cons, List.drop_zero, List.drop_nil, List.cons_append, List.nil_append, Option.toList_some, Option.toList_none, List.length_cons, List.length_nil, ne_eq, Classical.not_not, reduceCtorEq, Nat.reduceAdd, Nat.reduceSub, Nat.reduceMul, Nat.reduceLT, Nat.reduceLeDiff, Nat.reduceEqDiff, Nat.reduceBEq, Int.reduceToNat, Int.reduceLE, Int.reduceLT, Int.reduceEq, Int.reduceNeg, Int.reduceAdd, Int.reduceSub, Int.reduceMul, Int.toNat_natCast, Nat.zero_add, Int.add_zero, Nat.add_zero, ite_true, ite_false, Option.some.injEq, Nat.le_refl, or_true, true_or, or_false, false_or, if_pos, reduceIte, Nat.reduceGT]
  have := head (hN T - (i + 1)) (i + 1) M (by omega) (by omega) hX hR (fun _ _ _ => rfl) none
  exact this
theorem oneC_none {T : MM} {w : Nat} : ∀ {n i : Nat}, oneC T w i n = none → ∀ j, i ≤ j → j < i + n → oneR T w j = none
  | 0, i, _ => fun j h1 h2 => by omega
  | n + 1, i, h => fun j h1 h2 => by
    rw [oneC] at h
    cases hx : oneR T w i with
    | some r => rw [hx] at h; cases h
    | none =>
      rw [hx] at h
      by_cases hj : j = i
      · rw [hj]; exact hx
      · exact oneC_none h j (by omega) (by omega)
theorem oneC_none' {T : MM} {w : Nat} : ∀ {n i : Nat}, (∀ j, i ≤ j → j < i + n → oneR T w j = none) → oneC T w i n = none
  | 0, i, _ => rfl
  | n + 1, i, h => by
    rw [oneC, h i (by omega) (by omega)]
    exact oneC_none' (fun j h1 h2 => h j (by omega) (by omega))
theorem oneR_noskill {T : MM} {w i j : Nat} (hk : skB T (T 63 (3 * w)).toNat i = false) (hij : i ≠ j) (r : Int) : oneR (setR T i r) w j = oneR T w j := by
  unfold oneR
  rw [setR_len]
  refine fstF_eq (fun q _ _ => ?_)
  unfold oneP
  rw [setR_comm T hij, evS_noskill (show skB (setR T j q) _ i = false from ?_)]
  · rw [show setR T i r 61 (4 * j + 1) = T 61 (4 * j + 1) from ms_nj (by omega)]
  · rw [(setR_SW T j q).eS, (setR_SW T j q).1 63 _ (by decide)]
    exact hk
theorem twoO_noskill {T : MM} {w i : Nat} (hk : skB T (T 63 (3 * w)).toNat i = false) (h0 : oneC T w 0 (hN T) = none) (r : Nat) : twoO T w i r = none := by
  unfold twoO
  refine oneC_none' (fun j h1 h2 => ?_)
  rw [oneR_noskill hk (by omega)]
  exact oneC_none h0 j (by omega) (by omega)
theorem twoO_was {T : MM} {w i : Nat} (h0 : oneC T w 0 (hN T) = none) {r : Nat} (hr : (r : Int) = T 61 (4 * i + 1)) : twoO T w i r = none := by
  unfold twoO
  rw [hr, setR_was]
  exact oneC_none' (fun j h1 h2 => oneC_none h0 j (by omega) (by omega))
theorem twoP_eq {T : MM} {w i : Nat} (h0 : oneC T w 0 (hN T) = none) (r : Nat) : twoP T w i r = (twoO T w i r).isSome := by
  unfold twoP
  by_cases hr : (r : Int) = T 61 (4 * i + 1)
  · rw [twoO_was h0 hr, decide_eq_false (by omega)]
    rfl
  · rw [decide_eq_true hr]
    rfl
theorem evS_two {T : MM} {w i r : Nat} (h0 : oneC T w 0 (hN T) = none) (hev : evS T w = true) (hi : i < hN T) (hr : (r : Int) < len T i) : evS (setR T i r) w = true := by
  have h1 := oneC_none h0 i (by omega) (by omega)
  unfold oneR at h1
  have h2 := fstF_none.mp h1 r (by omega) (by omega)
  rw [oneP_eq hev] at h2
  simpa using h2

theorem x_findTwoChanges (w : Nat) (M T : MM) (hC : RC M T) (hW : WFt T) (hR : RO M T (pH T)) (hw : w < wN T) (hev : evS T w = true) (h0 : oneC T w 0 (hN T) = none) :
    oQ 7 97 [vR 0, vI w] M (fun v M' => v = none ∧ (∀ k j, ¬ roc k → M' k j = M k j) ∧ (match twoC T w 0 (hN T) with
      | some (i, r) => (match twoO T w i r with
        | some (j, q) => M' 44 0 = 2 ∧ M' 44 1 = i ∧ M' 44 2 = r ∧ M' 44 3 = j ∧ M' 44 4 = q
        | none => False)
      | none => ∀ j, M' 44 j = M 44 j)) := by
  have hH := hW.H
  generalize hX : twoC T w 0 (hN T) = X
  refine go97 (fun S hS => ?_)
  have head : ∀ (n i : Nat) (N : MM), i + n = hN T → twoC T w i n = X → RO N T (pH T) → (∀ k j, ¬ ro k → N k j = M k j) → ∀ o3 o4 : Option AV, S 2 [some (vR 0), some (vI w), some (vI i), o3, o4] [] (sh0, 0, 0) N := by
    intro n
    induction n with
    | zero =>
      intro i N hi hf hO hF o3 o4
      have e1 : N 18 1 = T 58 0 := by rw [hF 18 1 (by unfold ro; omega)]; exact hC.1.2.2.1
      refine wpx_ok hS bk97 (sp := sp97) 60 2 _ _ _ _ ?_
      simp only [LCM, B2, Bool.not_eq_false, Bool.not_eq_true, decide_eq_true_eq, decide_eq_false_iff_not, Int.not_lt, Int.not_le, CST, TN, WX, WA, WB, GS, LOC, BT97, SP97, CLS, FLD, ARR, CD, true_and, and_true, and_self, forall_const, true_implies, false_implies, implies_true, not_true_eq_false, not_false_eq_true, if_true, if_false, rgI, rgL, scr, swl, lkl, cats, cat, is2, List.drop_succ_cons, List.drop_zero, List.drop_nil, List.cons_append, List.nil_append, Option.toList_some, Option.toList_none, List.length_cons, List.length_nil, ne_eq, Classical.not_not, reduceCtorEq, Nat.reduceAdd, Nat.reduceSub, Nat.reduceMul, Nat.reduceLT, Nat.reduceLeDiff, Nat.reduceEqDiff, Nat.reduceBEq, Int.reduceToNat, Int.reduceLE, Int.reduceLT, Int.reduceEq, Int.reduceNeg, Int.reduceAdd, Int.reduceSub, Int.reduceMul, Int.toNat_natCast, Nat.zero_add, Int.add_zero, Nat.add_zero, ite_true, ite_false, Option.some.injEq, Nat.le_refl, or_true, true_or, or_false, false_or, if_pos, reduceIte, Nat.reduceGT]
      rw [e1]
      refine ⟨by omega, fun h => rt97 (Nat.le_refl _) (Nat.le_refl _) ⟨rfl, rfl, fun k j hk => hF k j (fun z => hk (Or.inl z)), ?_⟩, fun h => by omega⟩
      rw [← hf]
      exact fun j => hF 44 j (by unfold ro; omega)
    | succ n ih =>
      intro i N hi hf hO hF o3 o4
      have hC1 : RC N T := hC.keep (fun k j h1 h2 => hF k j (by unfold ro; omega))
      rw [twoC] at hf
      refine wpx_ok hS bk97 (sp := sp97) 60 2 _ _ _ _ ?_
      simp only [LCM, B2, Bool.not_eq_false, Bool.not_eq_true, decide_eq_true_eq, decide_eq_false_iff_not, Int.not_lt, Int.not_le, CST, TN, WX, WA, WB, GS, LOC, BT97, SP97, CLS, FLD, ARR, CD, true_and, and_true, and_self, forall_const, true_implies, false_implies, implies_true, not_true_eq_false, not_false_eq_true, if_true, if_false, rgI, rgL, scr, swl, lkl, cats, cat, is2, List.drop_succ_cons, List.drop_zero, List.drop_nil, List.cons_append, List.nil_append, Option.toList_some, Option.toList_none, List.length_cons, List.length_nil, ne_eq, Classical.not_not, reduceCtorEq, Nat.reduceAdd, Nat.reduceSub, Nat.reduceMul, Nat.reduceLT, Nat.reduceLeDiff, Nat.reduceEqDiff, Nat.reduceBEq, Int.reduceToNat, Int.reduceLE, Int.reduceLT, Int.reduceEq, Int.reduceNeg, Int.reduceAdd, Int.reduceSub, Int.reduceMul, Int.toNat_natCast, Nat.zero_add, Int.add_zero, Nat.add_zero, ite_true, ite_false, Option.some.injEq, Nat.le_refl, or_true, true_or, or_false, false_or, if_pos, reduceIte, Nat.reduceGT]
      rw [hC1.1.2.2.1]
      refine ⟨by omega, fun h => by omega, fun h => ?_⟩
      refine ⟨rcv_ok rfl own99 rfl, kI (x_hasSkillOf i w N T hC1 hW (by omega) hw) (Nat.le_of_ble_eq_true rfl) rfl rfl (Nat.le_of_ble_eq_true rfl) (Nat.le_of_ble_eq_true rfl) rfl ?_⟩
      refine wpx_ok hS bk97 (sp := sp97) 60 19 _ _ _ _ ?_
      simp only [LCM, B2, Bool.not_eq_false, Bool.not_eq_true, decide_eq_true_eq, decide_eq_false_iff_not, Int.not_lt, Int.not_le, CST, TN, WX, WA, WB, GS, LOC, BT97, SP97, CLS, FLD, ARR, CD, true_and, and_true, and_self, forall_const, true_implies, false_implies, implies_true, not_true_eq_false, not_false_eq_true, if_true, if_false, rgI, rgL, scr, swl, lkl, cats, cat, is2, List.drop_succ_cons, List.drop_zero, List.drop_nil, List.cons_append, List.nil_append, Option.toList_some, Option.toList_none, List.length_cons, List.length_nil, ne_eq, Classical.not_not, reduceCtorEq, Nat.reduceAdd, Nat.reduceSub, Nat.reduceMul, Nat.reduceLT, Nat.reduceLeDiff, Nat.reduceEqDiff, Nat.reduceBEq, Int.reduceToNat, Int.reduceLE, Int.reduceLT, Int.reduceEq, Int.reduceNeg, Int.reduceAdd, Int.reduceSub, Int.reduceMul, Int.toNat_natCast, Nat.zero_add, Int.add_zero, Nat.add_zero, ite_true, ite_false, Option.some.injEq, Nat.le_refl, or_true, true_or, or_false, false_or, if_pos, reduceIte, Nat.reduceGT]
      refine ⟨fun h1 => ?_, fun h1 => ?_⟩
      · have hs := hW.hs (i := i) (by omega)
        have hl := hW.ln (i := i) (by omega)
        obtain ⟨wk, hwk⟩ : ∃ x : Nat, T 61 (4 * i) = (x : Int) := ⟨(T 61 (4 * i)).toNat, by omega⟩
        obtain ⟨rs, hrs⟩ : ∃ x : Nat, T 61 (4 * i + 1) = (x : Int) := ⟨(T 61 (4 * i + 1)).toNat, by omega⟩
        have hip : pH T i = true := decide_eq_true (by omega)
        generalize hq : (fun x => pH T x && !(x == i)) = q
        have hqj : q i = false := by rw [← hq]; simp
        have hqe : ∀ x, x < 10 → (q x || x == i) = pH T x := by
          intro x _
          rw [← hq]
          by_cases hij : x = i
          · subst hij; simp [hip]
          · have hb : (x == i) = false := beq_eq_false_iff_ne.mpr hij
            simp [hb]
        have hqf : ∀ x, x < 10 → ((pH T x) && !(x == i)) = q x := fun x _ => by rw [← hq]
        have inner : ∀ (m r : Nat) (N1 : MM), r + m = (len T i).toNat → fstF (twoP T w i) r m = twoR T w i → RO N1 T q → (∀ k j, ¬ ro k → N1 k j = M k j) → S 56 [some (vR 0), some (vI w), some (vI i), some (vI wk), some (vI r)] [] (sh0, 0, 0) N1 := by
          intro m
          induction m with
          | zero =>
            intro r N1 hr hfr hO1 hF1
            have hC2 : RC N1 T := hC.keep (fun k j h1 h2 => hF1 k j (by unfold ro; omega))
            refine wpx_ok hS bk97 (sp := sp97) 60 56 _ _ _ _ ?_
            simp only [LCM, B2, Bool.not_eq_false, Bool.not_eq_true, decide_eq_true_eq, decide_eq_false_iff_not, Int.not_lt, Int.not_le, CST, TN, WX, WA, WB, GS, LOC, BT97, SP97, CLS, FLD, ARR, CD, true_and, and_true, and_self, forall_const, true_implies, false_implies, implies_true, not_true_eq_false, not_false_eq_true, if_true, if_false, rgI, rgL, scr, swl, lkl, cats, cat, is2, List.drop_succ_cons, List.drop_zero, List.drop_nil, List.cons_append, List.nil_append, Option.toList_some, Option.toList_none, List.length_cons, List.length_nil, ne_eq, Classical.not_not, reduceCtorEq, Nat.reduceAdd, Nat.reduceSub, Nat.reduceMul, Nat.reduceLT, Nat.reduceLeDiff, Nat.reduceEqDiff, Nat.reduceBEq, Int.reduceToNat, Int.reduceLE, Int.reduceLT, Int.reduceEq, Int.reduceNeg, Int.reduceAdd, Int.reduceSub, Int.reduceMul, Int.toNat_natCast, Nat.zero_add, Int.add_zero, Nat.add_zero, ite_true, ite_false, Option.some.injEq, Nat.le_refl, or_true, true_or, or_false, false_or, if_pos, reduceIte, Nat.reduceGT]
            refine ⟨rcv_ok rfl own79 rfl, kI (x_weekLength i N1 T hC2 hW (by omega)) (Nat.le_of_ble_eq_true rfl) rfl rfl (Nat.le_of_ble_eq_true rfl) (Nat.le_of_ble_eq_true rfl) rfl ?_⟩
            refine wpx_ok hS bk97 (sp := sp97) 60 63 _ _ _ _ ?_
            simp only [LCM, B2, Bool.not_eq_false, Bool.not_eq_true, decide_eq_true_eq, decide_eq_false_iff_not, Int.not_lt, Int.not_le, CST, TN, WX, WA, WB, GS, LOC, BT97, SP97, CLS, FLD, ARR, CD, true_and, and_true, and_self, forall_const, true_implies, false_implies, implies_true, not_true_eq_false, not_false_eq_true, if_true, if_false, rgI, rgL, scr, swl, lkl, cats, cat, is2, List.drop_succ_cons, List.drop_zero, List.drop_nil, List.cons_append, List.nil_append, Option.toList_some, Option.toList_none, List.length_cons, List.length_nil, ne_eq, Classical.not_not, reduceCtorEq, Nat.reduceAdd, Nat.reduceSub, Nat.reduceMul, Nat.reduceLT, Nat.reduceLeDiff, Nat.reduceEqDiff, Nat.reduceBEq, Int.reduceToNat, Int.reduceLE, Int.reduceLT, Int.reduceEq, Int.reduceNeg, Int.reduceAdd, Int.reduceSub, Int.reduceMul, Int.toNat_natCast, Nat.zero_add, Int.add_zero, Nat.add_zero, ite_true, ite_false, Option.some.injEq, Nat.le_refl, or_true, true_or, or_false, false_or, if_pos, reduceIte, Nat.reduceGT]
            rw [(hC2.2.2.2.2.1 i (by omega)).2, hrs]
            refine ⟨by omega, fun h => ⟨by omega, ?_⟩, fun h => by omega⟩
            refine ⟨rcv_ok rfl own22 rfl, kV (x_put i wk rs N1 (by omega) (by omega)) (Nat.le_of_ble_eq_true rfl) rfl rfl (Nat.le_of_ble_eq_true rfl) (Nat.le_of_ble_eq_true rfl) rfl ?_⟩
            refine wpx_ok hS bk97 (sp := sp97) 60 124 _ _ _ _ ?_
            simp only [LCM, B2, Bool.not_eq_false, Bool.not_eq_true, decide_eq_true_eq, decide_eq_false_iff_not, Int.not_lt, Int.not_le, CST, TN, WX, WA, WB, GS, LOC, BT97, SP97, CLS, FLD, ARR, CD, true_and, and_true, and_self, forall_const, true_implies, false_implies, implies_true, not_true_eq_false, not_false_eq_true, if_true, if_false, rgI, rgL, scr, swl, lkl, cats, cat, is2, List.drop_succ_cons, List.drop_zero, List.drop_nil, List.cons_append, List.nil_append, Option.toList_some, Option.toList_none, List.length_cons, List.length_nil, ne_eq, Classical.not_not, reduceCtorEq, Nat.reduceAdd, Nat.reduceSub, Nat.reduceMul, Nat.reduceLT, Nat.reduceLeDiff, Nat.reduceEqDiff, Nat.reduceBEq, Int.reduceToNat, Int.reduceLE, Int.reduceLT, Int.reduceEq, Int.reduceNeg, Int.reduceAdd, Int.reduceSub, Int.reduceMul, Int.toNat_natCast, Nat.zero_add, Int.add_zero, Nat.add_zero, ite_true, ite_false, Option.some.injEq, Nat.le_refl, or_true, true_or, or_false, false_or, if_pos, reduceIte, Nat.reduceGT]
            rw [← hfr] at hf
            refine ih (i + 1) _ (by omega) hf ((hO1.put (by omega) (by omega) (by omega) hwk hrs).eqp hqe) (fun k x hk => ?_) _ _
            rw [ms_ne (by unfold ro at hk; omega)]
            exact hF1 k x hk
          | succ m ihm =>
            intro r N1 hr hfr hO1 hF1
            have hC2 : RC N1 T := hC.keep (fun k j h1 h2 => hF1 k j (by unfold ro; omega))
            have hO2 : RO _ (setR T i r) (pH T) := ((hO1.other (i := i) (r := r) hqj).put (i := i) (w := wk) (j := r) (by omega) (by omega) (by omega) (by unfold setR; rw [ms_nj (by omega), hwk]) (by unfold setR; rw [ms_eq])).eqp hqe
            rw [fstF, twoP_eq h0] at hfr
            refine wpx_ok hS bk97 (sp := sp97) 60 56 _ _ _ _ ?_
            simp only [LCM, B2, Bool.not_eq_false, Bool.not_eq_true, decide_eq_true_eq, decide_eq_false_iff_not, Int.not_lt, Int.not_le, CST, TN, WX, WA, WB, GS, LOC, BT97, SP97, CLS, FLD, ARR, CD, true_and, and_true, and_self, forall_const, true_implies, false_implies, implies_true, not_true_eq_false, not_false_eq_true, if_true, if_false, rgI, rgL, scr, swl, lkl, cats, cat, is2, List.drop_succ_cons, List.drop_zero, List.drop_nil, List.cons_append, List.nil_append, Option.toList_some, Option.toList_none, List.length_cons, List.length_nil, ne_eq, Classical.not_not, reduceCtorEq, Nat.reduceAdd, Nat.reduceSub, Nat.reduceMul, Nat.reduceLT, Nat.reduceLeDiff, Nat.reduceEqDiff, Nat.reduceBEq, Int.reduceToNat, Int.reduceLE, Int.reduceLT, Int.reduceEq, Int.reduceNeg, Int.reduceAdd, Int.reduceSub, Int.reduceMul, Int.toNat_natCast, Nat.zero_add, Int.add_zero, Nat.add_zero, ite_true, ite_false, Option.some.injEq, Nat.le_refl, or_true, true_or, or_false, false_or, if_pos, reduceIte, Nat.reduceGT]
            refine ⟨rcv_ok rfl own79 rfl, kI (x_weekLength i N1 T hC2 hW (by omega)) (Nat.le_of_ble_eq_true rfl) rfl rfl (Nat.le_of_ble_eq_true rfl) (Nat.le_of_ble_eq_true rfl) rfl ?_⟩
            refine wpx_ok hS bk97 (sp := sp97) 60 63 _ _ _ _ ?_
            simp only [LCM, B2, Bool.not_eq_false, Bool.not_eq_true, decide_eq_true_eq, decide_eq_false_iff_not, Int.not_lt, Int.not_le, CST, TN, WX, WA, WB, GS, LOC, BT97, SP97, CLS, FLD, ARR, CD, true_and, and_true, and_self, forall_const, true_implies, false_implies, implies_true, not_true_eq_false, not_false_eq_true, if_true, if_false, rgI, rgL, scr, swl, lkl, cats, cat, is2, List.drop_succ_cons, List.drop_zero, List.drop_nil, List.cons_append, List.nil_append, Option.toList_some, Option.toList_none, List.length_cons, List.length_nil, ne_eq, Classical.not_not, reduceCtorEq, Nat.reduceAdd, Nat.reduceSub, Nat.reduceMul, Nat.reduceLT, Nat.reduceLeDiff, Nat.reduceEqDiff, Nat.reduceBEq, Int.reduceToNat, Int.reduceLE, Int.reduceLT, Int.reduceEq, Int.reduceNeg, Int.reduceAdd, Int.reduceSub, Int.reduceMul, Int.toNat_natCast, Nat.zero_add, Int.add_zero, Nat.add_zero, ite_true, ite_false, Option.some.injEq, Nat.le_refl, or_true, true_or, or_false, false_or, if_pos, reduceIte, Nat.reduceGT]
            refine ⟨by omega, fun h => by omega, fun h => ?_⟩
            refine ⟨rcv_ok rfl own22 rfl, kV (x_put i wk r N1 (by omega) (by omega)) (Nat.le_of_ble_eq_true rfl) rfl rfl (Nat.le_of_ble_eq_true rfl) (Nat.le_of_ble_eq_true rfl) rfl ?_⟩
            generalize hN2 : mset N1 (35 + wk) r (bOr (N1 (35 + wk) r) (bShl 1 i)) = N2 at hO2 ⊢
            have hF2 : ∀ k j, ¬ ro k → N2 k j = M k j := fun k x hk => by
              rw [← hN2, ms_ne (by unfold ro at hk; omega)]
              exact hF1 k x hk
            have hC3 : RC N2 T := hC.keep (fun k j h1 h2 => hF2 k j (by unfold ro; omega))
            refine wpx_ok hS bk97 (sp := sp97) 60 77 _ _ _ _ ?_
            simp only [LCM, B2, Bool.not_eq_false, Bool.not_eq_true, decide_eq_true_eq, decide_eq_false_iff_not, Int.not_lt, Int.not_le, CST, TN, WX, WA, WB, GS, LOC, BT97, SP97, CLS, FLD, ARR, CD, true_and, and_true, and_self, forall_const, true_implies, false_implies, implies_true, not_true_eq_false, not_false_eq_true, if_true, if_false, rgI, rgL, scr, swl, lkl, cats, cat, is2, List.drop_succ_cons, List.drop_zero, List.drop_nil, List.cons_append, List.nil_append, Option.toList_some, Option.toList_none, List.length_cons, List.length_nil, ne_eq, Classical.not_not, reduceCtorEq, Nat.reduceAdd, Nat.reduceSub, Nat.reduceMul, Nat.reduceLT, Nat.reduceLeDiff, Nat.reduceEqDiff, Nat.reduceBEq, Int.reduceToNat, Int.reduceLE, Int.reduceLT, Int.reduceEq, Int.reduceNeg, Int.reduceAdd, Int.reduceSub, Int.reduceMul, Int.toNat_natCast, Nat.zero_add, Int.add_zero, Nat.add_zero, ite_true, ite_false, Option.some.injEq, Nat.le_refl, or_true, true_or, or_false, false_or, if_pos, reduceIte, Nat.reduceGT]
            refine ⟨rcv_ok rfl own98 rfl, kQ (x_findSecondChange w i r N2 T hC3 hW (by omega) (by omega) hO2 hw (evS_two h0 hev (by omega) (by omega))) (Nat.le_of_ble_eq_true rfl) rfl rfl (Nat.le_of_ble_eq_true rfl) (Nat.le_of_ble_eq_true rfl) rfl ?_⟩
            rintro v N3 ⟨rfl, hO3, hF3, hch⟩
            refine wpx_ok hS bk97 (sp := sp97) 60 85 _ _ _ _ ?_
            simp only [LCM, B2, Bool.not_eq_false, Bool.not_eq_true, decide_eq_true_eq, decide_eq_false_iff_not, Int.not_lt, Int.not_le, CST, TN, WX, WA, WB, GS, LOC, BT97, SP97, CLS, FLD, ARR, CD, true_and, and_true, and_self, forall_const, true_implies, false_implies, implies_true, not_true_eq_false, not_false_eq_true, if_true, if_false, rgI, rgL, scr, swl, lkl, cats, cat, is2, List.drop_succ_cons, List.drop_zero, List.drop_nil, List.cons_append, List.nil_append, Option.toList_some, Option.toList_none, List.length_cons, List.length_nil, ne_eq, Classical.not_not, reduceCtorEq, Nat.reduceAdd, Nat.reduceSub, Nat.reduceMul, Nat.reduceLT, Nat.reduceLeDiff, Nat.reduceEqDiff, Nat.reduceBEq, Int.reduceToNat, Int.reduceLE, Int.reduceLT, Int.reduceEq, Int.reduceNeg, Int.reduceAdd, Int.reduceSub, Int.reduceMul, Int.toNat_natCast, Nat.zero_add, Int.add_zero, Nat.add_zero, ite_true, ite_false, Option.some.injEq, Nat.le_refl, or_true, true_or, or_false, false_or, if_pos, reduceIte, Nat.reduceGT]
            refine ⟨fun h2 => ?_, fun h2 => ?_⟩
            · rw [h2] at hfr
              have h4 : twoO T w i r = none := by
                cases hx : twoO T w i r with
                | none => rfl
                | some y => rw [hx] at h2; cases h2
              rw [h4] at hch
              have hF4 : ∀ k j, ¬ ro k → N3 k j = M k j := by
                intro k j hk
                by_cases hk4 : k = 44
                · subst hk4
                  rw [hch j]
                  exact hF2 44 j hk
                · rw [hF3 k j (fun z => z.elim hk hk4)]
                  exact hF2 k j hk
              refine ⟨rcv_ok rfl own23 rfl, kV (x_lift i wk r N3 (by omega) (by omega)) (Nat.le_of_ble_eq_true rfl) rfl rfl (Nat.le_of_ble_eq_true rfl) (Nat.le_of_ble_eq_true rfl) rfl ?_⟩
              refine wpx_ok hS bk97 (sp := sp97) 60 100 _ _ _ _ ?_
              simp only [LCM, B2, Bool.not_eq_false, Bool.not_eq_true, decide_eq_true_eq, decide_eq_false_iff_not, Int.not_lt, Int.not_le, CST, TN, WX, WA, WB, GS, LOC, BT97, SP97, CLS, FLD, ARR, CD, true_and, and_true, and_self, forall_const, true_implies, false_implies, implies_true, not_true_eq_false, not_false_eq_true, if_true, if_false, rgI, rgL, scr, swl, lkl, cats, cat, is2, List.drop_succ_cons, List.drop_zero, List.drop_nil, List.cons_append, List.nil_append, Option.toList_some, Option.toList_none, List.length_cons, List.length_nil, ne_eq, Classical.not_not, reduceCtorEq, Nat.reduceAdd, Nat.reduceSub, Nat.reduceMul, Nat.reduceLT, Nat.reduceLeDiff, Nat.reduceEqDiff, Nat.reduceBEq, Int.reduceToNat, Int.reduceLE, Int.reduceLT, Int.reduceEq, Int.reduceNeg, Int.reduceAdd, Int.reduceSub, Int.reduceMul, Int.toNat_natCast, Nat.zero_add, Int.add_zero, Nat.add_zero, ite_true, ite_false, Option.some.injEq, Nat.le_refl, or_true, true_or, or_false, false_or, if_pos, reduceIte, Nat.reduceGT]
              refine ihm (r + 1) _ (by omega) hfr (((hO3.lift (i := i) (w := wk) (j := r) (by omega) (by omega) (by omega) (by unfold setR; rw [ms_nj (by omega), hwk]) (by unfold setR; rw [ms_eq])).eqp hqf).other' hqj) (fun k x hk => ?_)
              rw [ms_ne (by unfold ro at hk; omega)]
              exact hF4 k x hk
            · rw [h2, if_pos rfl] at hfr
              rw [← hfr] at hf
              refine rt97 (Nat.le_refl _) (Nat.le_refl _) ⟨rfl, rfl, fun k j hk => ?_, ?_⟩
              · rw [hF3 k j hk]
                exact hF2 k j (fun z => hk (Or.inl z))
              · rw [← hf]
                dsimp only
                cases hx : twoO T w i r with
                | none => rw [hx] at h2; cases h2
                | some y => rw [hx] at hch; exact hch
        rw [(hC1.2.2.2.2.1 i (by omega)).1, (hC1.2.2.2.2.1 i (by omega)).2, hwk, hrs]
        refine ⟨by omega, by omega, ?_⟩
        refine ⟨rcv_ok rfl own23 rfl, kV (x_lift i wk rs N (by omega) (by omega)) (Nat.le_of_ble_eq_true rfl) rfl rfl (Nat.le_of_ble_eq_true rfl) (Nat.le_of_ble_eq_true rfl) rfl ?_⟩
        refine wpx_ok hS bk97 (sp := sp97) 60 53 _ _ _ _ ?_
        simp only [LCM, B2, Bool.not_eq_false, Bool.not_eq_true, decide_eq_true_eq, decide_eq_false_iff_not, Int.not_lt, Int.not_le, CST, TN, WX, WA, WB, GS, LOC, BT97, SP97, CLS, FLD, ARR, CD, true_and, and_true, and_self, forall_const, true_implies, false_implies, implies_true, not_true_eq_false, not_false_eq_true, if_true, if_false, rgI, rgL, scr, swl, lkl, cats, cat, is2, List.drop_succ_cons, List.drop_zero, List.drop_nil, List.cons_append, List.nil_append, Option.toList_some, Option.toList_none, List.length_cons, List.length_nil, ne_eq, Classical.not_not, reduceCtorEq, Nat.reduceAdd, Nat.reduceSub, Nat.reduceMul, Nat.reduceLT, Nat.reduceLeDiff, Nat.reduceEqDiff, Nat.reduceBEq, Int.reduceToNat, Int.reduceLE, Int.reduceLT, Int.reduceEq, Int.reduceNeg, Int.reduceAdd, Int.reduceSub, Int.reduceMul, Int.toNat_natCast, Nat.zero_add, Int.add_zero, Nat.add_zero, ite_true, ite_false, Option.some.injEq, Nat.le_refl, or_true, true_or, or_false, false_or, if_pos, reduceIte, Nat.reduceGT]
        refine inner (len T i).toNat 0 _ (by omega) rfl ((hO.lift (by omega) (by omega) (by omega) hwk hrs).eqp hqf) (fun k x hk => ?_)
        rw [ms_ne (by unfold ro at hk; omega)]
        exact hF k x hk
      · have h2 : skB T (T 63 (3 * w)).toNat i = false := h1
        have h3 : twoR T w i = none := by
          unfold twoR
          refine fstF_none.mpr (fun r _ _ => ?_)
          rw [twoP_eq h0, twoO_noskill h2 h0]
          rfl
        rw [h3] at hf
        refine wpx_ok hS bk97 (sp := sp97) 60 124 _ _ _ _ ?_
        simp only [LCM, B2, Bool.not_eq_false, Bool.not_eq_true, decide_eq_true_eq, decide_eq_false_iff_not, Int.not_lt, Int.not_le, CST, TN, WX, WA, WB, GS, LOC, BT97, SP97, CLS, FLD, ARR, CD, true_and, and_true, and_self, forall_const, true_implies, false_implies, implies_true, not_true_eq_false, not_false_eq_true, if_true, if_false, rgI, rgL, scr, swl, lkl, cats, cat, is2, List.drop_succ_cons, List.drop_zero, List.drop_nil, List.cons_append, List.nil_append, Option.toList_some, Option.toList_none, List.length_cons, List.length_nil, ne_eq, Classical.not_not, reduceCtorEq, Nat.reduceAdd, Nat.reduceSub, Nat.reduceMul, Nat.reduceLT, Nat.reduceLeDiff, Nat.reduceEqDiff, Nat.reduceBEq, Int.reduceToNat, Int.reduceLE, Int.reduceLT, Int.reduceEq, Int.reduceNeg, Int.reduceAdd, Int.reduceSub, Int.reduceMul, Int.toNat_natCast, Nat.zero_add, Int.add_zero, Nat.add_zero, ite_true, ite_false, Option.some.injEq, Nat.le_refl, or_true, true_or, or_false, false_or, if_pos, reduceIte, Nat.reduceGT]
        exact ih (i + 1) N (by omega) hf hO hF _ _
  refine wpx_ok hS bk97 (sp := sp97) 60 0 _ _ _ _ ?_
  simp only [LCM, B2, Bool.not_eq_false, Bool.not_eq_true, decide_eq_true_eq, decide_eq_false_iff_not, Int.not_lt, Int.not_le, CST, TN, WX, WA, WB, GS, LOC, BT97, SP97, CLS, FLD, ARR, CD, true_and, and_true, and_self, forall_const, true_implies, false_implies, implies_true, not_true_eq_false, not_false_eq_true, if_true, if_false, rgI, rgL, scr, swl, lkl, cats, cat, is2, List.drop_succ_cons, List.drop_zero, List.drop_nil, List.cons_append, List.nil_append, Option.toList_some, Option.toList_none, List.length_cons, List.length_nil, ne_eq, Classical.not_not, reduceCtorEq, Nat.reduceAdd, Nat.reduceSub, Nat.reduceMul, Nat.reduceLT, Nat.reduceLeDiff, Nat.reduceEqDiff, Nat.reduceBEq, Int.reduceToNat, Int.reduceLE, Int.reduceLT, Int.reduceEq, Int.reduceNeg, Int.reduceAdd, Int.reduceSub, Int.reduceMul, Int.toNat_natCast, Nat.zero_add, Int.add_zero, Nat.add_zero, ite_true, ite_false, Option.some.injEq, Nat.le_refl, or_true, true_or, or_false, false_or, if_pos, reduceIte, Nat.reduceGT]
  exact head (hN T) 0 M (by omega) hX hR (fun _ _ _ => rfl) _ _
theorem kC.ofroc {M M' : MM} (h : ∀ k j, ¬ roc k → M' k j = M k j) : kC M M' := fun k j hk => h k j (fun z => hk (Or.inr (by unfold roc ro at z; omega)))
theorem x_years (w what : Int) (M T : MM) (hW : WFt T) (hC : RC M T) (hw : rgI w) (hk : rgI what) : oQ 9 60 [vR 0, vI w, vI what] M (fun r M' => r = some (Sum.inl (f_years T w what)) ∧ kC M M') := by
  have hW2 := hW.W
  refine go60 (fun S hS => ?_)
  refine wpx_ok hS bk60 (sp := sp60) 60 0 _ _ _ _ ?_
  simp only [LCM, B2, Bool.not_eq_false, Bool.not_eq_true, decide_eq_true_eq, decide_eq_false_iff_not, Int.not_lt, Int.not_le, CST, TN, WX, WA, WB, GS, LOC, BT60, SP60, CLS, FLD, ARR, CD, true_and, and_true, and_self, forall_const, true_implies, false_implies, implies_true, not_true_eq_false, not_false_eq_true, if_true, if_false, rgI, rgL, scr, swl, lkl, cats, cat, is2, List.drop_succ_cons, List.drop_zero, List.drop_nil, List.cons_append, List.nil_append, Option.toList_some, Option.toList_none, List.length_cons, List.length_nil, ne_eq, Classical.not_not, reduceCtorEq, Nat.reduceAdd, Nat.reduceSub, Nat.reduceMul, Nat.reduceLT, Nat.reduceLeDiff, Nat.reduceEqDiff, Nat.reduceBEq, Int.reduceToNat, Int.reduceLE, Int.reduceLT, Int.reduceEq, Int.reduceNeg, Int.reduceAdd, Int.reduceSub, Int.reduceMul, Int.toNat_natCast, Nat.zero_add, Int.add_zero, Nat.add_zero, ite_true, ite_false, Option.some.injEq, Nat.le_refl, or_true, true_or, or_false, false_or, if_pos, reduceIte, Nat.reduceGT]
  refine ⟨rcv_ok rfl own74 rfl, kI (x_isWork w M T hC hW hw) (Nat.le_of_ble_eq_true rfl) rfl rfl (Nat.le_of_ble_eq_true rfl) (Nat.le_of_ble_eq_true rfl) rfl ?_⟩
  refine wpx_ok hS bk60 (sp := sp60) 60 5 _ _ _ _ ?_
  simp only [LCM, B2, Bool.not_eq_false, Bool.not_eq_true, decide_eq_true_eq, decide_eq_false_iff_not, Int.not_lt, Int.not_le, CST, TN, WX, WA, WB, GS, LOC, BT60, SP60, CLS, FLD, ARR, CD, true_and, and_true, and_self, forall_const, true_implies, false_implies, implies_true, not_true_eq_false, not_false_eq_true, if_true, if_false, rgI, rgL, scr, swl, lkl, cats, cat, is2, List.drop_succ_cons, List.drop_zero, List.drop_nil, List.cons_append, List.nil_append, Option.toList_some, Option.toList_none, List.length_cons, List.length_nil, ne_eq, Classical.not_not, reduceCtorEq, Nat.reduceAdd, Nat.reduceSub, Nat.reduceMul, Nat.reduceLT, Nat.reduceLeDiff, Nat.reduceEqDiff, Nat.reduceBEq, Int.reduceToNat, Int.reduceLE, Int.reduceLT, Int.reduceEq, Int.reduceNeg, Int.reduceAdd, Int.reduceSub, Int.reduceMul, Int.toNat_natCast, Nat.zero_add, Int.add_zero, Nat.add_zero, ite_true, ite_false, Option.some.injEq, Nat.le_refl, or_true, true_or, or_false, false_or, if_pos, reduceIte, Nat.reduceGT]
  refine ⟨fun h => ?_, fun h => ⟨hk, fun h1 => ?_, fun h1 => ⟨hk, fun h2 => ?_, fun h2 => ?_⟩⟩⟩
  · exact rt60 ⟨rfl, by unfold f_years; rw [if_neg (fun z => h z.1)], kC.rf M⟩
  · exact rt60 ⟨rfl, by unfold f_years; rw [if_neg (by omega)], kC.rf M⟩
  · obtain ⟨n, rfl⟩ : ∃ n : Nat, w = (n : Int) := ⟨w.toNat, by omega⟩
    obtain ⟨c, rfl⟩ : ∃ c : Nat, what = (c : Int) := ⟨what.toNat, by omega⟩
    have hw1 : n < wN T := by omega
    have fin : ∀ N : MM, (∀ k j, ¬ roc k → N k j = M k j) → (∀ k, k < 5 → N 44 k = chg T n k) → S 67 [some (vR 0), some (vI n), some (vI c)] [] (sh0, 0, 0) N := by
      intro N hF hch
      refine wpx_ok hS bk60 (sp := sp60) 60 67 _ _ _ _ ?_
      simp only [LCM, B2, Bool.not_eq_false, Bool.not_eq_true, decide_eq_true_eq, decide_eq_false_iff_not, Int.not_lt, Int.not_le, CST, TN, WX, WA, WB, GS, LOC, BT60, SP60, CLS, FLD, ARR, CD, true_and, and_true, and_self, forall_const, true_implies, false_implies, implies_true, not_true_eq_false, not_false_eq_true, if_true, if_false, rgI, rgL, scr, swl, lkl, cats, cat, is2, List.drop_succ_cons, List.drop_zero, List.drop_nil, List.cons_append, List.nil_append, Option.toList_some, Option.toList_none, List.length_cons, List.length_nil, ne_eq, Classical.not_not, reduceCtorEq, Nat.reduceAdd, Nat.reduceSub, Nat.reduceMul, Nat.reduceLT, Nat.reduceLeDiff, Nat.reduceEqDiff, Nat.reduceBEq, Int.reduceToNat, Int.reduceLE, Int.reduceLT, Int.reduceEq, Int.reduceNeg, Int.reduceAdd, Int.reduceSub, Int.reduceMul, Int.toNat_natCast, Nat.zero_add, Int.add_zero, Nat.add_zero, ite_true, ite_false, Option.some.injEq, Nat.le_refl, or_true, true_or, or_false, false_or, if_pos, reduceIte, Nat.reduceGT]
      refine ⟨by omega, rt60 ⟨rfl, ?_, kC.ofroc hF⟩⟩
      unfold f_years
      rw [if_pos ⟨h, by omega⟩, Int.toNat_natCast, Int.toNat_natCast, hch c (by omega)]
    clear hk hw
    have hE : 0 ≤ (c : Int) ∧ (c : Int) < 5 := by omega
    clear h h1 h2
    refine kV (x_afill 44 5 _ (-4) M rfl (by omega) (by omega)) (Nat.le_of_ble_eq_true rfl) rfl rfl (Nat.le_of_ble_eq_true rfl) (Nat.le_of_ble_eq_true rfl) rfl ?_
    have f44 : ∀ j, j < 5 → mfil M 44 5 (-4) 44 j = -4 := by intro j hj; unfold mfil; rw [if_pos ⟨rfl, hj⟩]
    have fF : ∀ k j, k ≠ 44 → mfil M 44 5 (-4) k j = M k j := by intro k j hk; unfold mfil; rw [if_neg (fun z => hk z.1)]
    generalize mfil M 44 5 (-4) = N at f44 fF ⊢
    have hC1 : RC N T := hC.keep (fun k j h1 h2 => fF k j (by omega))
    refine wpx_ok hS bk60 (sp := sp60) 60 32 _ _ _ _ ?_
    simp only [LCM, B2, Bool.not_eq_false, Bool.not_eq_true, decide_eq_true_eq, decide_eq_false_iff_not, Int.not_lt, Int.not_le, CST, TN, WX, WA, WB, GS, LOC, BT60, SP60, CLS, FLD, ARR, CD, true_and, and_true, and_self, forall_const, true_implies, false_implies, implies_true, not_true_eq_false, not_false_eq_true, if_true, if_false, rgI, rgL, scr, swl, lkl, cats, cat, is2, List.drop_succ_cons, List.drop_zero, List.drop_nil, List.cons_append, List.nil_append, Option.toList_some, Option.toList_none, List.length_cons, List.length_nil, ne_eq, Classical.not_not, reduceCtorEq, Nat.reduceAdd, Nat.reduceSub, Nat.reduceMul, Nat.reduceLT, Nat.reduceLeDiff, Nat.reduceEqDiff, Nat.reduceBEq, Int.reduceToNat, Int.reduceLE, Int.reduceLT, Int.reduceEq, Int.reduceNeg, Int.reduceAdd, Int.reduceSub, Int.reduceMul, Int.toNat_natCast, Nat.zero_add, Int.add_zero, Nat.add_zero, ite_true, ite_false, Option.some.injEq, Nat.le_refl, or_true, true_or, or_false, false_or, if_pos, reduceIte, Nat.reduceGT]
    refine ⟨rcv_ok rfl own78 rfl, kQ (x_fillRota N T hW hC1) (Nat.le_of_ble_eq_true rfl) rfl rfl (Nat.le_of_ble_eq_true rfl) (Nat.le_of_ble_eq_true rfl) rfl ?_⟩
    rintro v N1 ⟨rfl, hO, hF⟩
    have hC2 : RC N1 T := hC1.keep (fun k j h1 h2 => hF k j (by unfold ro; omega))
    have hF1 : ∀ k j, ¬ roc k → N1 k j = M k j := fun k j hk => by
      rw [hF k j (fun z => hk (Or.inl z))]
      exact fF k j (fun z => hk (Or.inr z))
    have h44 : ∀ j, j < 5 → N1 44 j = -4 := fun j hj => by
      rw [hF 44 j (by unfold ro; omega)]
      exact f44 j hj
    refine wpx_ok hS bk60 (sp := sp60) 60 36 _ _ _ _ ?_
    simp only [LCM, B2, Bool.not_eq_false, Bool.not_eq_true, decide_eq_true_eq, decide_eq_false_iff_not, Int.not_lt, Int.not_le, CST, TN, WX, WA, WB, GS, LOC, BT60, SP60, CLS, FLD, ARR, CD, true_and, and_true, and_self, forall_const, true_implies, false_implies, implies_true, not_true_eq_false, not_false_eq_true, if_true, if_false, rgI, rgL, scr, swl, lkl, cats, cat, is2, List.drop_succ_cons, List.drop_zero, List.drop_nil, List.cons_append, List.nil_append, Option.toList_some, Option.toList_none, List.length_cons, List.length_nil, ne_eq, Classical.not_not, reduceCtorEq, Nat.reduceAdd, Nat.reduceSub, Nat.reduceMul, Nat.reduceLT, Nat.reduceLeDiff, Nat.reduceEqDiff, Nat.reduceBEq, Int.reduceToNat, Int.reduceLE, Int.reduceLT, Int.reduceEq, Int.reduceNeg, Int.reduceAdd, Int.reduceSub, Int.reduceMul, Int.toNat_natCast, Nat.zero_add, Int.add_zero, Nat.add_zero, ite_true, ite_false, Option.some.injEq, Nat.le_refl, or_true, true_or, or_false, false_or, if_pos, reduceIte, Nat.reduceGT]
    refine ⟨rcv_ok rfl own89 rfl, kI (x_everShort n N1 T T hC2 hW (SW.rf T) hW hO hw1) (Nat.le_of_ble_eq_true rfl) rfl rfl (Nat.le_of_ble_eq_true rfl) (Nat.le_of_ble_eq_true rfl) rfl ?_⟩
    refine wpx_ok hS bk60 (sp := sp60) 60 41 _ _ _ _ ?_
    simp only [LCM, B2, Bool.not_eq_false, Bool.not_eq_true, decide_eq_true_eq, decide_eq_false_iff_not, Int.not_lt, Int.not_le, CST, TN, WX, WA, WB, GS, LOC, BT60, SP60, CLS, FLD, ARR, CD, true_and, and_true, and_self, forall_const, true_implies, false_implies, implies_true, not_true_eq_false, not_false_eq_true, if_true, if_false, rgI, rgL, scr, swl, lkl, cats, cat, is2, List.drop_succ_cons, List.drop_zero, List.drop_nil, List.cons_append, List.nil_append, Option.toList_some, Option.toList_none, List.length_cons, List.length_nil, ne_eq, Classical.not_not, reduceCtorEq, Nat.reduceAdd, Nat.reduceSub, Nat.reduceMul, Nat.reduceLT, Nat.reduceLeDiff, Nat.reduceEqDiff, Nat.reduceBEq, Int.reduceToNat, Int.reduceLE, Int.reduceLT, Int.reduceEq, Int.reduceNeg, Int.reduceAdd, Int.reduceSub, Int.reduceMul, Int.toNat_natCast, Nat.zero_add, Int.add_zero, Nat.add_zero, ite_true, ite_false, Option.some.injEq, Nat.le_refl, or_true, true_or, or_false, false_or, if_pos, reduceIte, Nat.reduceGT]
    refine ⟨fun h => ?_, fun h => ?_⟩
    · refine ⟨rcv_ok rfl own96 rfl, kQ (x_findOneChange n N1 T hC2 hW hO hw1 h) (Nat.le_of_ble_eq_true rfl) rfl rfl (Nat.le_of_ble_eq_true rfl) (Nat.le_of_ble_eq_true rfl) rfl ?_⟩
      rintro v N2 ⟨rfl, hO2, hF2, hch⟩
      have hF3 : ∀ k j, ¬ roc k → N2 k j = M k j := fun k j hk => (hF2 k j hk).trans (hF1 k j hk)
      have hC3 : RC N2 T := hC.keep (fun k j h1 h2 => hF3 k j (by unfold roc ro; omega))
      cases hx : oneC T n 0 (hN T) with
      | some y =>
        obtain ⟨i, q⟩ := y
        rw [hx] at hch
        refine wpx_ok hS bk60 (sp := sp60) 60 59 _ _ _ _ ?_
        simp only [LCM, B2, Bool.not_eq_false, Bool.not_eq_true, decide_eq_true_eq, decide_eq_false_iff_not, Int.not_lt, Int.not_le, CST, TN, WX, WA, WB, GS, LOC, BT60, SP60, CLS, FLD, ARR, CD, true_and, and_true, and_self, forall_const, true_implies, false_implies, implies_true, not_true_eq_false, not_false_eq_true, if_true, if_false, rgI, rgL, scr, swl, lkl, cats, cat, is2, List.drop_succ_cons, List.drop_zero, List.drop_nil, List.cons_append, List.nil_append, Option.toList_some, Option.toList_none, List.length_cons, List.length_nil, ne_eq, Classical.not_not, reduceCtorEq, Nat.reduceAdd, Nat.reduceSub, Nat.reduceMul, Nat.reduceLT, Nat.reduceLeDiff, Nat.reduceEqDiff, Nat.reduceBEq, Int.reduceToNat, Int.reduceLE, Int.reduceLT, Int.reduceEq, Int.reduceNeg, Int.reduceAdd, Int.reduceSub, Int.reduceMul, Int.toNat_natCast, Nat.zero_add, Int.add_zero, Nat.add_zero, ite_true, ite_false, Option.some.injEq, Nat.le_refl, or_true, true_or, or_false, false_or, if_pos, reduceIte, Nat.reduceGT]
        refine ⟨fun _ => ?_, fun h1 => by simp at h1⟩
        refine fin _ hF3 (fun k hk => ?_)
        unfold chg
        rw [h, if_neg (by decide), hx]
        obtain ⟨c0, c1, c2, c3, c4⟩ := hch
        have hc : k = 0 ∨ k = 1 ∨ k = 2 ∨ k = 3 ∨ k = 4 := by omega
        rcases hc with rfl | rfl | rfl | rfl | rfl
        · exact c0
        · exact c1
        · exact c2
        · rw [c3]; exact h44 3 (by decide)
        · rw [c4]; exact h44 4 (by decide)
      | none =>
        rw [hx] at hch
        refine wpx_ok hS bk60 (sp := sp60) 60 59 _ _ _ _ ?_
        simp only [LCM, B2, Bool.not_eq_false, Bool.not_eq_true, decide_eq_true_eq, decide_eq_false_iff_not, Int.not_lt, Int.not_le, CST, TN, WX, WA, WB, GS, LOC, BT60, SP60, CLS, FLD, ARR, CD, true_and, and_true, and_self, forall_const, true_implies, false_implies, implies_true, not_true_eq_false, not_false_eq_true, if_true, if_false, rgI, rgL, scr, swl, lkl, cats, cat, is2, List.drop_succ_cons, List.drop_zero, List.drop_nil, List.cons_append, List.nil_append, Option.toList_some, Option.toList_none, List.length_cons, List.length_nil, ne_eq, Classical.not_not, reduceCtorEq, Nat.reduceAdd, Nat.reduceSub, Nat.reduceMul, Nat.reduceLT, Nat.reduceLeDiff, Nat.reduceEqDiff, Nat.reduceBEq, Int.reduceToNat, Int.reduceLE, Int.reduceLT, Int.reduceEq, Int.reduceNeg, Int.reduceAdd, Int.reduceSub, Int.reduceMul, Int.toNat_natCast, Nat.zero_add, Int.add_zero, Nat.add_zero, ite_true, ite_false, Option.some.injEq, Nat.le_refl, or_true, true_or, or_false, false_or, if_pos, reduceIte, Nat.reduceGT]
        refine ⟨fun h1 => by simp at h1, fun _ => ?_⟩
        refine ⟨rcv_ok rfl own97 rfl, kQ (x_findTwoChanges n N2 T hC3 hW hO2 hw1 h hx) (Nat.le_of_ble_eq_true rfl) rfl rfl (Nat.le_of_ble_eq_true rfl) (Nat.le_of_ble_eq_true rfl) rfl ?_⟩
        rintro v N4 ⟨rfl, hF4, hc4⟩
        have hF5 : ∀ k j, ¬ roc k → N4 k j = M k j := fun k j hk => (hF4 k j hk).trans (hF3 k j hk)
        refine fin _ hF5 (fun k hk => ?_)
        unfold chg
        rw [h, if_neg (by decide), hx]
        dsimp only
        have hc : k = 0 ∨ k = 1 ∨ k = 2 ∨ k = 3 ∨ k = 4 := by omega
        cases hy : twoC T n 0 (hN T) with
        | none =>
          rw [hy] at hc4
          dsimp only at hc4 ⊢
          rw [hc4, hch]
          exact h44 k hk
        | some y =>
          obtain ⟨i, r⟩ := y
          rw [hy] at hc4
          dsimp only at hc4 ⊢
          cases hz : twoO T n i r with
          | none => rw [hz] at hc4; exact hc4.elim
          | some y2 =>
            obtain ⟨j, q⟩ := y2
            rw [hz] at hc4
            dsimp only at hc4 ⊢
            obtain ⟨c0, c1, c2, c3, c4⟩ := hc4
            rcases hc with rfl | rfl | rfl | rfl | rfl
            · exact c0
            · exact c1
            · exact c2
            · exact c3
            · exact c4
    · refine fin _ (fun k j hk => ?_) (fun k hk => ?_)
      · rw [ms_ne (fun z => hk (Or.inr z))]
        exact hF1 k j hk
      · unfold chg
        rw [h, if_pos rfl]
        by_cases hk0 : k = 0
        · subst hk0; rfl
        · rw [if_neg hk0, ms_nj hk0]
          exact h44 k hk
  · exact rt60 ⟨rfl, by unfold f_years; rw [if_neg (by omega)], kC.rf M⟩

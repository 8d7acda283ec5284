theorem ms_ne {M : MM} {k j k' : Nat} {a : Int} (h : k' ≠ k) (j' : Nat) : mset M k j a k' j' = M k' j' := by unfold mset; rw [if_neg (fun z => h z.1)]
theorem ms_eq {M : MM} {k j : Nat} {a : Int} : mset M k j a k j = a := by unfold mset; rw [if_pos ⟨rfl, rfl⟩]
theorem ms_nj {M : MM} {k j j' : Nat} {a : Int} (h : j' ≠ j) : mset M k j a k j' = M k j' := by unfold mset; rw [if_neg (fun z => h z.2)]
theorem hsum_rg {T : MM} (h : WFt T) (s : Nat) (d : Int) : ∀ k : Nat, 0 ≤ hsum T s d k ∧ hsum T s d k ≤ 10 * k
  | 0 => by simp [hsum]
  | k + 1 => by
    have h1 := hsum_rg h s d k
    have h2 := hands_rg h s (d + k)
    rw [hsum]
    omega
theorem m_harvest (s d h : Int) (M : MM) (hW : WFt M) (hs : rgI s) (hd : rgL d) (hh : rgL h) : oL 4 137 [vR 55, vI s, vL d, vL h] M (f_harvest M s d h) := by
  have hP := hW.P
  refine go137 (fun S hS => ?_)
  refine wpx_ok hS bk137 (sp := sp137) 60 0 _ _ _ _ ?_
  simp only [LCM, B2, Bool.not_eq_false, Bool.not_eq_true, decide_eq_true_eq, decide_eq_false_iff_not, Int.not_lt, Int.not_le, CST, TN, WX, WA, WB, GS, LOC, BT137, SP137, CLS, FLD, ARR, CD, true_and, and_true, and_self, forall_const, true_implies, false_implies, implies_true, not_true_eq_false, not_false_eq_true, if_true, if_false, rgI, rgL, scr, swl, lkl, cats, cat, is2, List.drop_succ_cons, List.drop_zero, List.drop_nil, List.cons_append, List.nil_append, Option.toList_some, Option.toList_none, List.length_cons, List.length_nil, ne_eq, Classical.not_not, reduceCtorEq, Nat.reduceAdd, Nat.reduceSub, Nat.reduceMul, Nat.reduceLT, Nat.reduceLeDiff, Nat.reduceEqDiff, Nat.reduceBEq, Int.reduceToNat, Int.reduceLE, Int.reduceLT, Int.reduceEq, Int.reduceNeg, Int.reduceAdd, Int.reduceSub, Int.reduceMul, Int.toNat_natCast, Nat.zero_add, Int.add_zero, Nat.add_zero, ite_true, ite_false, Option.some.injEq, Nat.le_refl, or_true, true_or, or_false, false_or, if_pos, reduceIte, Nat.reduceGT]
  refine ⟨hs, ?_⟩
  refine kI (c_in s 0 4 M (by unfold rgL rgI at *; omega) (by unfold rgL; omega) (by unfold rgL; omega)) (Nat.le_of_ble_eq_true rfl) rfl rfl (Nat.le_of_ble_eq_true rfl) (Nat.le_of_ble_eq_true rfl) rfl ?_
  refine wpx_ok hS bk137 (sp := sp137) 60 9 _ _ _ _ ?_
  simp only [LCM, B2, Bool.not_eq_false, Bool.not_eq_true, decide_eq_true_eq, decide_eq_false_iff_not, Int.not_lt, Int.not_le, CST, TN, WX, WA, WB, GS, LOC, BT137, SP137, CLS, FLD, ARR, CD, true_and, and_true, and_self, forall_const, true_implies, false_implies, implies_true, not_true_eq_false, not_false_eq_true, if_true, if_false, rgI, rgL, scr, swl, lkl, cats, cat, is2, List.drop_succ_cons, List.drop_zero, List.drop_nil, List.cons_append, List.nil_append, Option.toList_some, Option.toList_none, List.length_cons, List.length_nil, ne_eq, Classical.not_not, reduceCtorEq, Nat.reduceAdd, Nat.reduceSub, Nat.reduceMul, Nat.reduceLT, Nat.reduceLeDiff, Nat.reduceEqDiff, Nat.reduceBEq, Int.reduceToNat, Int.reduceLE, Int.reduceLT, Int.reduceEq, Int.reduceNeg, Int.reduceAdd, Int.reduceSub, Int.reduceMul, Int.toNat_natCast, Nat.zero_add, Int.add_zero, Nat.add_zero, ite_true, ite_false, Option.some.injEq, Nat.le_refl, or_true, true_or, or_false, false_or, if_pos, reduceIte, Nat.reduceGT]
  refine ⟨fun h0 => ?_, fun h0 => ?_⟩
  · exact rt137 ⟨rfl, by unfold f_harvest; rw [if_neg (fun z => h0 ⟨z.1, z.2.1⟩)], rfl⟩
  · refine kI (m_isDay d M hd) (Nat.le_of_ble_eq_true rfl) rfl rfl (Nat.le_of_ble_eq_true rfl) (Nat.le_of_ble_eq_true rfl) rfl ?_
    refine wpx_ok hS bk137 (sp := sp137) 60 16 _ _ _ _ ?_
    simp only [LCM, B2, Bool.not_eq_false, Bool.not_eq_true, decide_eq_true_eq, decide_eq_false_iff_not, Int.not_lt, Int.not_le, CST, TN, WX, WA, WB, GS, LOC, BT137, SP137, CLS, FLD, ARR, CD, true_and, and_true, and_self, forall_const, true_implies, false_implies, implies_true, not_true_eq_false, not_false_eq_true, if_true, if_false, rgI, rgL, scr, swl, lkl, cats, cat, is2, List.drop_succ_cons, List.drop_zero, List.drop_nil, List.cons_append, List.nil_append, Option.toList_some, Option.toList_none, List.length_cons, List.length_nil, ne_eq, Classical.not_not, reduceCtorEq, Nat.reduceAdd, Nat.reduceSub, Nat.reduceMul, Nat.reduceLT, Nat.reduceLeDiff, Nat.reduceEqDiff, Nat.reduceBEq, Int.reduceToNat, Int.reduceLE, Int.reduceLT, Int.reduceEq, Int.reduceNeg, Int.reduceAdd, Int.reduceSub, Int.reduceMul, Int.toNat_natCast, Nat.zero_add, Int.add_zero, Nat.add_zero, ite_true, ite_false, Option.some.injEq, Nat.le_refl, or_true, true_or, or_false, false_or, if_pos, reduceIte, Nat.reduceGT]
    refine ⟨fun h1 => ?_, fun h1 => ?_⟩
    · exact rt137 ⟨rfl, by unfold f_harvest; rw [if_neg (fun z => by rw [h1] at z; exact absurd z.2.2.1 (by decide))], rfl⟩
    · have h2 := isDayB_iff.mp h1
      refine kI (c_in h 1 1000000000000 M hh (by unfold rgL; omega) (by unfold rgL; omega)) (Nat.le_of_ble_eq_true rfl) rfl rfl (Nat.le_of_ble_eq_true rfl) (Nat.le_of_ble_eq_true rfl) rfl ?_
      refine wpx_ok hS bk137 (sp := sp137) 60 28 _ _ _ _ ?_
      simp only [LCM, B2, Bool.not_eq_false, Bool.not_eq_true, decide_eq_true_eq, decide_eq_false_iff_not, Int.not_lt, Int.not_le, CST, TN, WX, WA, WB, GS, LOC, BT137, SP137, CLS, FLD, ARR, CD, true_and, and_true, and_self, forall_const, true_implies, false_implies, implies_true, not_true_eq_false, not_false_eq_true, if_true, if_false, rgI, rgL, scr, swl, lkl, cats, cat, is2, List.drop_succ_cons, List.drop_zero, List.drop_nil, List.cons_append, List.nil_append, Option.toList_some, Option.toList_none, List.length_cons, List.length_nil, ne_eq, Classical.not_not, reduceCtorEq, Nat.reduceAdd, Nat.reduceSub, Nat.reduceMul, Nat.reduceLT, Nat.reduceLeDiff, Nat.reduceEqDiff, Nat.reduceBEq, Int.reduceToNat, Int.reduceLE, Int.reduceLT, Int.reduceEq, Int.reduceNeg, Int.reduceAdd, Int.reduceSub, Int.reduceMul, Int.toNat_natCast, Nat.zero_add, Int.add_zero, Nat.add_zero, ite_true, ite_false, Option.some.injEq, Nat.le_refl, or_true, true_or, or_false, false_or, if_pos, reduceIte, Nat.reduceGT]
      refine ⟨fun h3 => ?_, fun h3 => ?_⟩
      · obtain ⟨n, rfl⟩ : ∃ n : Nat, s = (n : Int) := ⟨s.toNat, by omega⟩
        have hval : f_harvest M n d h = (if hsum M n d (PN M) = 0 then -4 else (h - 1) / hsum M n d (PN M) * PN M + hvO M n d (PN M) (h - (h - 1) / hsum M n d (PN M) * hsum M n d (PN M)) 0) := by
          unfold f_harvest
          rw [if_pos ⟨h0.1, h0.2, h1, h3⟩, Int.toNat_natCast]
        have hsr := fun k => hsum_rg hW n d k
        have hsP := hsr (PN M)
        have loop2 : ∀ (wh left0 : Int), wh = (h - 1) / hsum M n d (PN M) → left0 = h - wh * hsum M n d (PN M) → 0 ≤ wh → wh ≤ 1000000000000 → ∀ (m j : Nat) (left : Int), j + m = PN M → left ≤ hsum M n d (PN M) - hsum M n d j → -100 ≤ left → hvO M n d m left j = hvO M n d (PN M) left0 0 → 0 < hsum M n d (PN M) →
            S 113 [some (vR 55), some (vI n), some (vL d), none, some (vL h), none, some (vL (hsum M n d (PN M))), none, some (vL (wh * PN M + j)), none, some (vL left), none] [] (sh0, 0, 0) M := by
          intro wh left0 hwh hl0 hw0 hw1 m
          have hwP : 0 ≤ wh * PN M ∧ wh * PN M ≤ 1000000000000 * 132 := ⟨Int.mul_nonneg hw0 (by omega), by
            have h5 : wh * PN M ≤ 1000000000000 * PN M := Int.mul_le_mul_of_nonneg_right hw1 (by omega)
            omega⟩
          induction m with
          | zero =>
            intro j left hj hle hlo hv hp
            rw [show j = PN M by omega] at hle
            refine wpx_ok hS bk137 (sp := sp137) 60 113 _ _ _ _ ?_
            simp only [LCM, B2, Bool.not_eq_false, Bool.not_eq_true, decide_eq_true_eq, decide_eq_false_iff_not, Int.not_lt, Int.not_le, CST, TN, WX, WA, WB, GS, LOC, BT137, SP137, CLS, FLD, ARR, CD, true_and, and_true, and_self, forall_const, true_implies, false_implies, implies_true, not_true_eq_false, not_false_eq_true, if_true, if_false, rgI, rgL, scr, swl, lkl, cats, cat, is2, List.drop_succ_cons, List.drop_zero, List.drop_nil, List.cons_append, List.nil_append, Option.toList_some, Option.toList_none, List.length_cons, List.length_nil, ne_eq, Classical.not_not, reduceCtorEq, Nat.reduceAdd, Nat.reduceSub, Nat.reduceMul, Nat.reduceLT, Nat.reduceLeDiff, Nat.reduceEqDiff, Nat.reduceBEq, Int.reduceToNat, Int.reduceLE, Int.reduceLT, Int.reduceEq, Int.reduceNeg, Int.reduceAdd, Int.reduceSub, Int.reduceMul, Int.toNat_natCast, Nat.zero_add, Int.add_zero, Nat.add_zero, ite_true, ite_false, Option.some.injEq, Nat.le_refl, or_true, true_or, or_false, false_or, if_pos, reduceIte, Nat.reduceGT]
            refine ⟨by omega, fun h5 => ?_, fun h5 => by omega⟩
            refine rt137 ⟨rfl, ?_, rfl⟩
            rw [hval, if_neg (by omega), ← hwh, ← hl0, ← hv]
            rfl
          | succ m ih =>
            intro j left hj hle hlo hv hp
            have hdj := hands_rg hW n (d + j)
            have hjr := hsr j
            rw [hvO] at hv
            refine wpx_ok hS bk137 (sp := sp137) 60 113 _ _ _ _ ?_
            simp only [LCM, B2, Bool.not_eq_false, Bool.not_eq_true, decide_eq_true_eq, decide_eq_false_iff_not, Int.not_lt, Int.not_le, CST, TN, WX, WA, WB, GS, LOC, BT137, SP137, CLS, FLD, ARR, CD, true_and, and_true, and_self, forall_const, true_implies, false_implies, implies_true, not_true_eq_false, not_false_eq_true, if_true, if_false, rgI, rgL, scr, swl, lkl, cats, cat, is2, List.drop_succ_cons, List.drop_zero, List.drop_nil, List.cons_append, List.nil_append, Option.toList_some, Option.toList_none, List.length_cons, List.length_nil, ne_eq, Classical.not_not, reduceCtorEq, Nat.reduceAdd, Nat.reduceSub, Nat.reduceMul, Nat.reduceLT, Nat.reduceLeDiff, Nat.reduceEqDiff, Nat.reduceBEq, Int.reduceToNat, Int.reduceLE, Int.reduceLT, Int.reduceEq, Int.reduceNeg, Int.reduceAdd, Int.reduceSub, Int.reduceMul, Int.toNat_natCast, Nat.zero_add, Int.add_zero, Nat.add_zero, ite_true, ite_false, Option.some.injEq, Nat.le_refl, or_true, true_or, or_false, false_or, if_pos, reduceIte, Nat.reduceGT]
            refine ⟨by omega, fun h5 => ?_, fun h5 => ?_⟩
            · refine rt137 ⟨rfl, ?_, rfl⟩
              rw [if_pos h5] at hv
              rw [hval, if_neg (by omega), ← hwh, ← hl0, ← hv]
            · rw [if_neg (by omega)] at hv
              refine ⟨rcv_ok rfl own122 rfl, kI (m_handsOn n (d + (wh * PN M + j)) M hW (by omega) (by omega)) (Nat.le_of_ble_eq_true rfl) rfl rfl (Nat.le_of_ble_eq_true rfl) (Nat.le_of_ble_eq_true rfl) rfl ?_⟩
              refine wpx_ok hS bk137 (sp := sp137) 60 131 _ _ _ _ ?_
              simp only [LCM, B2, Bool.not_eq_false, Bool.not_eq_true, decide_eq_true_eq, decide_eq_false_iff_not, Int.not_lt, Int.not_le, CST, TN, WX, WA, WB, GS, LOC, BT137, SP137, CLS, FLD, ARR, CD, true_and, and_true, and_self, forall_const, true_implies, false_implies, implies_true, not_true_eq_false, not_false_eq_true, if_true, if_false, rgI, rgL, scr, swl, lkl, cats, cat, is2, List.drop_succ_cons, List.drop_zero, List.drop_nil, List.cons_append, List.nil_append, Option.toList_some, Option.toList_none, List.length_cons, List.length_nil, ne_eq, Classical.not_not, reduceCtorEq, Nat.reduceAdd, Nat.reduceSub, Nat.reduceMul, Nat.reduceLT, Nat.reduceLeDiff, Nat.reduceEqDiff, Nat.reduceBEq, Int.reduceToNat, Int.reduceLE, Int.reduceLT, Int.reduceEq, Int.reduceNeg, Int.reduceAdd, Int.reduceSub, Int.reduceMul, Int.toNat_natCast, Nat.zero_add, Int.add_zero, Nat.add_zero, ite_true, ite_false, Option.some.injEq, Nat.le_refl, or_true, true_or, or_false, false_or, if_pos, reduceIte, Nat.reduceGT]
              have hpe : hands M n (d + (wh * PN M + j)) = hands M n (d + j) := by
                rw [show d + (wh * PN M + j) = d + j + PN M * wh by rw [Int.mul_comm wh]; omega]
                exact hands_per hW n (d + j) wh
              have hs1 : hsum M n d (j + 1) = hsum M n d j + hands M n (d + j) := rfl
              rw [hpe]
              refine ⟨by omega, ?_⟩
              have := ih (j + 1) (left - hands M n (d + j)) (by omega) (by omega) (by omega) hv hp
              rw [show wh * PN M + ((j + 1 : Nat) : Int) = wh * PN M + j + 1 by omega] at this
              exact this
        have head : ∀ (m k : Nat), k + m = PN M → S 41 [some (vR 55), some (vI n), some (vL d), none, some (vL h), none, some (vL (hsum M n d k)), none, some (vI k), none, none, none] [] (sh0, 0, 0) M := by
          intro m
          induction m with
          | zero =>
            intro k hk
            rw [show k = PN M by omega]
            refine wpx_ok hS bk137 (sp := sp137) 60 41 _ _ _ _ ?_
            simp only [LCM, B2, Bool.not_eq_false, Bool.not_eq_true, decide_eq_true_eq, decide_eq_false_iff_not, Int.not_lt, Int.not_le, CST, TN, WX, WA, WB, GS, LOC, BT137, SP137, CLS, FLD, ARR, CD, true_and, and_true, and_self, forall_const, true_implies, false_implies, implies_true, not_true_eq_false, not_false_eq_true, if_true, if_false, rgI, rgL, scr, swl, lkl, cats, cat, is2, List.drop_succ_cons, List.drop_zero, List.drop_nil, List.cons_append, List.nil_append, Option.toList_some, Option.toList_none, List.length_cons, List.length_nil, ne_eq, Classical.not_not, reduceCtorEq, Nat.reduceAdd, Nat.reduceSub, Nat.reduceMul, Nat.reduceLT, Nat.reduceLeDiff, Nat.reduceEqDiff, Nat.reduceBEq, Int.reduceToNat, Int.reduceLE, Int.reduceLT, Int.reduceEq, Int.reduceNeg, Int.reduceAdd, Int.reduceSub, Int.reduceMul, Int.toNat_natCast, Nat.zero_add, Int.add_zero, Nat.add_zero, ite_true, ite_false, Option.some.injEq, Nat.le_refl, or_true, true_or, or_false, false_or, if_pos, reduceIte, Nat.reduceGT]
            refine ⟨rcv_ok rfl own119 rfl, kI (m_period M hW) (Nat.le_of_ble_eq_true rfl) rfl rfl (Nat.le_of_ble_eq_true rfl) (Nat.le_of_ble_eq_true rfl) rfl ?_⟩
            refine wpx_ok hS bk137 (sp := sp137) 60 47 _ _ _ _ ?_
            simp only [LCM, B2, Bool.not_eq_false, Bool.not_eq_true, decide_eq_true_eq, decide_eq_false_iff_not, Int.not_lt, Int.not_le, CST, TN, WX, WA, WB, GS, LOC, BT137, SP137, CLS, FLD, ARR, CD, true_and, and_true, and_self, forall_const, true_implies, false_implies, implies_true, not_true_eq_false, not_false_eq_true, if_true, if_false, rgI, rgL, scr, swl, lkl, cats, cat, is2, List.drop_succ_cons, List.drop_zero, List.drop_nil, List.cons_append, List.nil_append, Option.toList_some, Option.toList_none, List.length_cons, List.length_nil, ne_eq, Classical.not_not, reduceCtorEq, Nat.reduceAdd, Nat.reduceSub, Nat.reduceMul, Nat.reduceLT, Nat.reduceLeDiff, Nat.reduceEqDiff, Nat.reduceBEq, Int.reduceToNat, Int.reduceLE, Int.reduceLT, Int.reduceEq, Int.reduceNeg, Int.reduceAdd, Int.reduceSub, Int.reduceMul, Int.toNat_natCast, Nat.zero_add, Int.add_zero, Nat.add_zero, ite_true, ite_false, Option.some.injEq, Nat.le_refl, or_true, true_or, or_false, false_or, if_pos, reduceIte, Nat.reduceGT]
            refine ⟨by omega, fun h4 => ⟨by omega, fun h5 => ⟨by omega, ?_⟩, fun h5 => ?_⟩, fun h4 => by omega⟩
            · refine ⟨rcv_ok rfl own119 rfl, kI (m_period M hW) (Nat.le_of_ble_eq_true rfl) rfl rfl (Nat.le_of_ble_eq_true rfl) (Nat.le_of_ble_eq_true rfl) rfl ?_⟩
              refine wpx_ok hS bk137 (sp := sp137) 60 94 _ _ _ _ ?_
              simp only [LCM, B2, Bool.not_eq_false, Bool.not_eq_true, decide_eq_true_eq, decide_eq_false_iff_not, Int.not_lt, Int.not_le, CST, TN, WX, WA, WB, GS, LOC, BT137, SP137, CLS, FLD, ARR, CD, true_and, and_true, and_self, forall_const, true_implies, false_implies, implies_true, not_true_eq_false, not_false_eq_true, if_true, if_false, rgI, rgL, scr, swl, lkl, cats, cat, is2, List.drop_succ_cons, List.drop_zero, List.drop_nil, List.cons_append, List.nil_append, Option.toList_some, Option.toList_none, List.length_cons, List.length_nil, ne_eq, Classical.not_not, reduceCtorEq, Nat.reduceAdd, Nat.reduceSub, Nat.reduceMul, Nat.reduceLT, Nat.reduceLeDiff, Nat.reduceEqDiff, Nat.reduceBEq, Int.reduceToNat, Int.reduceLE, Int.reduceLT, Int.reduceEq, Int.reduceNeg, Int.reduceAdd, Int.reduceSub, Int.reduceMul, Int.toNat_natCast, Nat.zero_add, Int.add_zero, Nat.add_zero, ite_true, ite_false, Option.some.injEq, Nat.le_refl, or_true, true_or, or_false, false_or, if_pos, reduceIte, Nat.reduceGT]
              have hpos : 0 < hsum M n d (PN M) := by omega
              have hw0 : 0 ≤ (h - 1) / hsum M n d (PN M) := Int.ediv_nonneg (by omega) (by omega)
              have hw1 : (h - 1) / hsum M n d (PN M) ≤ h - 1 := Int.ediv_le_self _ (by omega)
              have hmod := Int.emod_add_mul_ediv (h - 1) (hsum M n d (PN M))
              have hm0 := Int.emod_nonneg (h - 1) (show hsum M n d (PN M) ≠ 0 by omega)
              have hm1 := Int.emod_lt_of_pos (h - 1) hpos
              refine ⟨by omega, by omega, ?_⟩
              have := loop2 _ _ rfl rfl hw0 (by omega) (PN M) 0 (h - (h - 1) / hsum M n d (PN M) * hsum M n d (PN M)) (by omega) (by
                show _ ≤ hsum M n d (PN M) - 0
                rw [Int.mul_comm] at hmod ⊢
                rw [Int.mul_comm] at hmod
                omega) (by
                rw [Int.mul_comm] at hmod ⊢
                rw [Int.mul_comm] at hmod
                omega) rfl hpos
              rw [show (h - 1) / hsum M n d (PN M) * PN M + ((0 : Nat) : Int) = (h - 1) / hsum M n d (PN M) * PN M by omega] at this
              exact this
            · exact rt137 ⟨rfl, by rw [hval, if_pos h5], rfl⟩
          | succ m ih =>
            intro k hk
            have hkr := hsr k
            refine wpx_ok hS bk137 (sp := sp137) 60 41 _ _ _ _ ?_
            simp only [LCM, B2, Bool.not_eq_false, Bool.not_eq_true, decide_eq_true_eq, decide_eq_false_iff_not, Int.not_lt, Int.not_le, CST, TN, WX, WA, WB, GS, LOC, BT137, SP137, CLS, FLD, ARR, CD, true_and, and_true, and_self, forall_const, true_implies, false_implies, implies_true, not_true_eq_false, not_false_eq_true, if_true, if_false, rgI, rgL, scr, swl, lkl, cats, cat, is2, List.drop_succ_cons, List.drop_zero, List.drop_nil, List.cons_append, List.nil_append, Option.toList_some, Option.toList_none, List.length_cons, List.length_nil, ne_eq, Classical.not_not, reduceCtorEq, Nat.reduceAdd, Nat.reduceSub, Nat.reduceMul, Nat.reduceLT, Nat.reduceLeDiff, Nat.reduceEqDiff, Nat.reduceBEq, Int.reduceToNat, Int.reduceLE, Int.reduceLT, Int.reduceEq, Int.reduceNeg, Int.reduceAdd, Int.reduceSub, Int.reduceMul, Int.toNat_natCast, Nat.zero_add, Int.add_zero, Nat.add_zero, ite_true, ite_false, Option.some.injEq, Nat.le_refl, or_true, true_or, or_false, false_or, if_pos, reduceIte, Nat.reduceGT]
            refine ⟨rcv_ok rfl own119 rfl, kI (m_period M hW) (Nat.le_of_ble_eq_true rfl) rfl rfl (Nat.le_of_ble_eq_true rfl) (Nat.le_of_ble_eq_true rfl) rfl ?_⟩
            refine wpx_ok hS bk137 (sp := sp137) 60 47 _ _ _ _ ?_
            simp only [LCM, B2, Bool.not_eq_false, Bool.not_eq_true, decide_eq_true_eq, decide_eq_false_iff_not, Int.not_lt, Int.not_le, CST, TN, WX, WA, WB, GS, LOC, BT137, SP137, CLS, FLD, ARR, CD, true_and, and_true, and_self, forall_const, true_implies, false_implies, implies_true, not_true_eq_false, not_false_eq_true, if_true, if_false, rgI, rgL, scr, swl, lkl, cats, cat, is2, List.drop_succ_cons, List.drop_zero, List.drop_nil, List.cons_append, List.nil_append, Option.toList_some, Option.toList_none, List.length_cons, List.length_nil, ne_eq, Classical.not_not, reduceCtorEq, Nat.reduceAdd, Nat.reduceSub, Nat.reduceMul, Nat.reduceLT, Nat.reduceLeDiff, Nat.reduceEqDiff, Nat.reduceBEq, Int.reduceToNat, Int.reduceLE, Int.reduceLT, Int.reduceEq, Int.reduceNeg, Int.reduceAdd, Int.reduceSub, Int.reduceMul, Int.toNat_natCast, Nat.zero_add, Int.add_zero, Nat.add_zero, ite_true, ite_false, Option.some.injEq, Nat.le_refl, or_true, true_or, or_false, false_or, if_pos, reduceIte, Nat.reduceGT]
            refine ⟨by omega, fun h4 => by omega, fun h4 => ⟨by omega, ?_⟩⟩
            refine ⟨rcv_ok rfl own122 rfl, kI (m_handsOn n (d + k) M hW (by omega) (by omega)) (Nat.le_of_ble_eq_true rfl) rfl rfl (Nat.le_of_ble_eq_true rfl) (Nat.le_of_ble_eq_true rfl) rfl ?_⟩
            refine wpx_ok hS bk137 (sp := sp137) 60 62 _ _ _ _ ?_
            simp only [LCM, B2, Bool.not_eq_false, Bool.not_eq_true, decide_eq_true_eq, decide_eq_false_iff_not, Int.not_lt, Int.not_le, CST, TN, WX, WA, WB, GS, LOC, BT137, SP137, CLS, FLD, ARR, CD, true_and, and_true, and_self, forall_const, true_implies, false_implies, implies_true, not_true_eq_false, not_false_eq_true, if_true, if_false, rgI, rgL, scr, swl, lkl, cats, cat, is2, List.drop_succ_cons, List.drop_zero, List.drop_nil, List.cons_append, List.nil_append, Option.toList_some, Option.toList_none, List.length_cons, List.length_nil, ne_eq, Classical.not_not, reduceCtorEq, Nat.reduceAdd, Nat.reduceSub, Nat.reduceMul, Nat.reduceLT, Nat.reduceLeDiff, Nat.reduceEqDiff, Nat.reduceBEq, Int.reduceToNat, Int.reduceLE, Int.reduceLT, Int.reduceEq, Int.reduceNeg, Int.reduceAdd, Int.reduceSub, Int.reduceMul, Int.toNat_natCast, Nat.zero_add, Int.add_zero, Nat.add_zero, ite_true, ite_false, Option.some.injEq, Nat.le_refl, or_true, true_or, or_false, false_or, if_pos, reduceIte, Nat.reduceGT]
            have hdj := hands_rg hW n (d + k)
            exact ⟨by omega, ih (k + 1) (by omega)⟩
        exact head (PN M) 0 (by omega)
      · exact rt137 ⟨rfl, by unfold f_harvest; rw [if_neg (fun z => h3 z.2.2.2)], rfl⟩
def f_house (T : MM) (i what : Int) : Int := if (0 ≤ i ∧ i < T 58 0) ∧ 0 ≤ what ∧ what ≤ 4 then (if what < 4 then T 61 (4 * i + what).toNat else T 64 i.toNat) else -1
theorem m_house (i what : Int) (M : MM) (hW : WFt M) (hi : rgI i) (hw : rgI what) : oI 3 116 [vR 55, vI i, vI what] M (f_house M i what) := by
  have hH := hW.H
  refine go116 (fun S hS => ?_)
  refine wpx_ok hS bk116 (sp := sp116) 60 0 _ _ _ _ ?_
  simp only [LCM, B2, Bool.not_eq_false, Bool.not_eq_true, decide_eq_true_eq, decide_eq_false_iff_not, Int.not_lt, Int.not_le, CST, TN, WX, WA, WB, GS, LOC, BT116, SP116, CLS, FLD, ARR, CD, true_and, and_true, and_self, forall_const, true_implies, false_implies, implies_true, not_true_eq_false, not_false_eq_true, if_true, if_false, rgI, rgL, scr, swl, lkl, cats, cat, is2, List.drop_succ_cons, List.drop_zero, List.drop_nil, List.cons_append, List.nil_append, Option.toList_some, Option.toList_none, List.length_cons, List.length_nil, ne_eq, Classical.not_not, reduceCtorEq, Nat.reduceAdd, Nat.reduceSub, Nat.reduceMul, Nat.reduceLT, Nat.reduceLeDiff, Nat.reduceEqDiff, Nat.reduceBEq, Int.reduceToNat, Int.reduceLE, Int.reduceLT, Int.reduceEq, Int.reduceNeg, Int.reduceAdd, Int.reduceSub, Int.reduceMul, Int.toNat_natCast, Nat.zero_add, Int.add_zero, Nat.add_zero, ite_true, ite_false, Option.some.injEq, Nat.le_refl, or_true, true_or, or_false, false_or, if_pos, reduceIte, Nat.reduceGT]
  refine ⟨rcv_ok rfl own113 rfl, kI (m_isHouse i M hi hW) (Nat.le_of_ble_eq_true rfl) rfl rfl (Nat.le_of_ble_eq_true rfl) (Nat.le_of_ble_eq_true rfl) rfl ?_⟩
  refine wpx_ok hS bk116 (sp := sp116) 60 5 _ _ _ _ ?_
  simp only [LCM, B2, Bool.not_eq_false, Bool.not_eq_true, decide_eq_true_eq, decide_eq_false_iff_not, Int.not_lt, Int.not_le, CST, TN, WX, WA, WB, GS, LOC, BT116, SP116, CLS, FLD, ARR, CD, true_and, and_true, and_self, forall_const, true_implies, false_implies, implies_true, not_true_eq_false, not_false_eq_true, if_true, if_false, rgI, rgL, scr, swl, lkl, cats, cat, is2, List.drop_succ_cons, List.drop_zero, List.drop_nil, List.cons_append, List.nil_append, Option.toList_some, Option.toList_none, List.length_cons, List.length_nil, ne_eq, Classical.not_not, reduceCtorEq, Nat.reduceAdd, Nat.reduceSub, Nat.reduceMul, Nat.reduceLT, Nat.reduceLeDiff, Nat.reduceEqDiff, Nat.reduceBEq, Int.reduceToNat, Int.reduceLE, Int.reduceLT, Int.reduceEq, Int.reduceNeg, Int.reduceAdd, Int.reduceSub, Int.reduceMul, Int.toNat_natCast, Nat.zero_add, Int.add_zero, Nat.add_zero, ite_true, ite_false, Option.some.injEq, Nat.le_refl, or_true, true_or, or_false, false_or, if_pos, reduceIte, Nat.reduceGT]
  refine ⟨fun h => ?_, fun h => ?_⟩
  · exact rt116 ⟨rfl, by unfold f_house; rw [if_neg (fun z => h z.1)], rfl⟩
  · refine ⟨hw, ?_⟩
    refine kI (c_in what 0 4 M (by unfold rgL rgI at *; omega) (by unfold rgL; omega) (by unfold rgL; omega)) (Nat.le_of_ble_eq_true rfl) rfl rfl (Nat.le_of_ble_eq_true rfl) (Nat.le_of_ble_eq_true rfl) rfl ?_
    refine wpx_ok hS bk116 (sp := sp116) 60 17 _ _ _ _ ?_
    simp only [LCM, B2, Bool.not_eq_false, Bool.not_eq_true, decide_eq_true_eq, decide_eq_false_iff_not, Int.not_lt, Int.not_le, CST, TN, WX, WA, WB, GS, LOC, BT116, SP116, CLS, FLD, ARR, CD, true_and, and_true, and_self, forall_const, true_implies, false_implies, implies_true, not_true_eq_false, not_false_eq_true, if_true, if_false, rgI, rgL, scr, swl, lkl, cats, cat, is2, List.drop_succ_cons, List.drop_zero, List.drop_nil, List.cons_append, List.nil_append, Option.toList_some, Option.toList_none, List.length_cons, List.length_nil, ne_eq, Classical.not_not, reduceCtorEq, Nat.reduceAdd, Nat.reduceSub, Nat.reduceMul, Nat.reduceLT, Nat.reduceLeDiff, Nat.reduceEqDiff, Nat.reduceBEq, Int.reduceToNat, Int.reduceLE, Int.reduceLT, Int.reduceEq, Int.reduceNeg, Int.reduceAdd, Int.reduceSub, Int.reduceMul, Int.toNat_natCast, Nat.zero_add, Int.add_zero, Nat.add_zero, ite_true, ite_false, Option.some.injEq, Nat.le_refl, or_true, true_or, or_false, false_or, if_pos, reduceIte, Nat.reduceGT]
    refine ⟨fun h1 => ⟨hw, fun h2 => ?_, fun h2 => ?_⟩, fun h1 => ?_⟩
    · obtain ⟨n, rfl⟩ : ∃ n : Nat, i = (n : Int) := ⟨i.toNat, by omega⟩
      have hn := hW.2.2.2.2.2.2.2.1 n (by omega)
      simp only [Int.toNat_natCast]
      refine ⟨by omega, by omega, fun h3 => ?_, fun h3 => ?_⟩
      · exact rt116 ⟨rfl, by unfold f_house; rw [if_pos ⟨h, h1⟩, if_neg (by omega), Int.toNat_natCast, h3], rfl⟩
      · exact rt116 ⟨rfl, by unfold f_house; rw [if_pos ⟨h, h1⟩, if_neg (by omega), Int.toNat_natCast]; rw [show M 64 n = 1 by omega], rfl⟩
    · exact ⟨by omega, rt116 ⟨rfl, by unfold f_house; rw [if_pos ⟨h, h1⟩, if_pos h2], rfl⟩⟩
    · exact rt116 ⟨rfl, by unfold f_house; rw [if_neg (fun z => h1 z.2)], rfl⟩
def WFs (T : MM) : Prop := (0 ≤ T 55 11 ∧ T 55 11 ≤ 20) ∧ ∀ k : Nat, (k : Int) < T 55 11 → (0 ≤ T 65 k ∧ T 65 k ≤ 1000000000000000) ∧ (0 ≤ T 66 k ∧ T 66 k < T 59 0) ∧ (T 67 k = 0 ∨ T 67 k = 1)
def okSeen (T : MM) (d w : Int) : Bool := isDayB d && decide (0 ≤ w ∧ w < T 59 0)
def f_seen (T : MM) (d w : Int) : Int := if okSeen T d w then (if T 55 11 = 20 then -3 else T 55 11 + 1) else -1
def g_seen (T : MM) (d w b : Int) : MM := if okSeen T d w = true ∧ T 55 11 ≠ 20 then mset (mset (mset (mset T 65 (T 55 11).toNat d) 66 (T 55 11).toNat w) 67 (T 55 11).toNat b) 55 11 (T 55 11 + 1) else T
theorem m_seen (d w b : Int) (M : MM) (hW : WFt M) (hS' : WFs M) (hd : rgL d) (hw : rgI w) (hb : b = 0 ∨ b = 1) : oQ 3 149 [vR 55, vL d, vI w, vI b] M (fun r M' => r = some (Sum.inl (f_seen M d w)) ∧ M' = g_seen M d w b) := by
  have hs := hS'.1
  refine go149 (fun S hS => ?_)
  refine wpx_ok hS bk149 (sp := sp149) 60 0 _ _ _ _ ?_
  simp only [LCM, B2, Bool.not_eq_false, Bool.not_eq_true, decide_eq_true_eq, decide_eq_false_iff_not, Int.not_lt, Int.not_le, CST, TN, WX, WA, WB, GS, LOC, BT149, SP149, CLS, FLD, ARR, CD, true_and, and_true, and_self, forall_const, true_implies, false_implies, implies_true, not_true_eq_false, not_false_eq_true, if_true, if_false, rgI, rgL, scr, swl, lkl, cats, cat, is2, List.drop_succ_cons, List.drop_zero, List.drop_nil, List.cons_append, List.nil_append, Option.toList_some, Option.toList_none, List.length_cons, List.length_nil, ne_eq, Classical.not_not, reduceCtorEq, Nat.reduceAdd, Nat.reduceSub, Nat.reduceMul, Nat.reduceLT, Nat.reduceLeDiff, Nat.reduceEqDiff, Nat.reduceBEq, Int.reduceToNat, Int.reduceLE, Int.reduceLT, Int.reduceEq, Int.reduceNeg, Int.reduceAdd, Int.reduceSub, Int.reduceMul, Int.toNat_natCast, Nat.zero_add, Int.add_zero, Nat.add_zero, ite_true, ite_false, Option.some.injEq, Nat.le_refl, or_true, true_or, or_false, false_or, if_pos, reduceIte, Nat.reduceGT]
  refine kI (m_isDay d M hd) (Nat.le_of_ble_eq_true rfl) rfl rfl (Nat.le_of_ble_eq_true rfl) (Nat.le_of_ble_eq_true rfl) rfl ?_
  refine wpx_ok hS bk149 (sp := sp149) 60 4 _ _ _ _ ?_
  simp only [LCM, B2, Bool.not_eq_false, Bool.not_eq_true, decide_eq_true_eq, decide_eq_false_iff_not, Int.not_lt, Int.not_le, CST, TN, WX, WA, WB, GS, LOC, BT149, SP149, CLS, FLD, ARR, CD, true_and, and_true, and_self, forall_const, true_implies, false_implies, implies_true, not_true_eq_false, not_false_eq_true, if_true, if_false, rgI, rgL, scr, swl, lkl, cats, cat, is2, List.drop_succ_cons, List.drop_zero, List.drop_nil, List.cons_append, List.nil_append, Option.toList_some, Option.toList_none, List.length_cons, List.length_nil, ne_eq, Classical.not_not, reduceCtorEq, Nat.reduceAdd, Nat.reduceSub, Nat.reduceMul, Nat.reduceLT, Nat.reduceLeDiff, Nat.reduceEqDiff, Nat.reduceBEq, Int.reduceToNat, Int.reduceLE, Int.reduceLT, Int.reduceEq, Int.reduceNeg, Int.reduceAdd, Int.reduceSub, Int.reduceMul, Int.toNat_natCast, Nat.zero_add, Int.add_zero, Nat.add_zero, ite_true, ite_false, Option.some.injEq, Nat.le_refl, or_true, true_or, or_false, false_or, if_pos, reduceIte, Nat.reduceGT]
  refine ⟨fun h => ?_, fun h => ?_⟩
  · have hk : okSeen M d w = false := by unfold okSeen; rw [h]; rfl
    exact rt149 ⟨rfl, by unfold f_seen; rw [hk]; rfl, by unfold g_seen; rw [hk]; rfl⟩
  · refine ⟨rcv_ok rfl own114 rfl, kI (m_isWork w M hw hW) (Nat.le_of_ble_eq_true rfl) rfl rfl (Nat.le_of_ble_eq_true rfl) (Nat.le_of_ble_eq_true rfl) rfl ?_⟩
    refine wpx_ok hS bk149 (sp := sp149) 60 12 _ _ _ _ ?_
    simp only [LCM, B2, Bool.not_eq_false, Bool.not_eq_true, decide_eq_true_eq, decide_eq_false_iff_not, Int.not_lt, Int.not_le, CST, TN, WX, WA, WB, GS, LOC, BT149, SP149, CLS, FLD, ARR, CD, true_and, and_true, and_self, forall_const, true_implies, false_implies, implies_true, not_true_eq_false, not_false_eq_true, if_true, if_false, rgI, rgL, scr, swl, lkl, cats, cat, is2, List.drop_succ_cons, List.drop_zero, List.drop_nil, List.cons_append, List.nil_append, Option.toList_some, Option.toList_none, List.length_cons, List.length_nil, ne_eq, Classical.not_not, reduceCtorEq, Nat.reduceAdd, Nat.reduceSub, Nat.reduceMul, Nat.reduceLT, Nat.reduceLeDiff, Nat.reduceEqDiff, Nat.reduceBEq, Int.reduceToNat, Int.reduceLE, Int.reduceLT, Int.reduceEq, Int.reduceNeg, Int.reduceAdd, Int.reduceSub, Int.reduceMul, Int.toNat_natCast, Nat.zero_add, Int.add_zero, Nat.add_zero, ite_true, ite_false, Option.some.injEq, Nat.le_refl, or_true, true_or, or_false, false_or, if_pos, reduceIte, Nat.reduceGT, ms_ne, ms_eq, ms_nj]
    refine ⟨fun h1 => ⟨by omega, fun h2 => ?_, fun h2 => ?_⟩, fun h1 => ?_⟩
    · have hk : okSeen M d w = true := by unfold okSeen; rw [h, decide_eq_true h1]; rfl
      refine ⟨by omega, by omega, by omega, hb, rt149 ⟨rfl, ?_, ?_⟩⟩
      · unfold f_seen
        rw [hk, if_pos rfl, if_neg h2]
      · unfold g_seen
        rw [if_pos ⟨hk, h2⟩]
    · have hk : okSeen M d w = true := by unfold okSeen; rw [h, decide_eq_true h1]; rfl
      exact rt149 ⟨rfl, by unfold f_seen; rw [hk, if_pos rfl, if_pos h2], by unfold g_seen; rw [if_neg (fun z => z.2 h2)]⟩
    · have hk : okSeen M d w = false := by unfold okSeen; rw [decide_eq_false h1]; simp
      exact rt149 ⟨rfl, by unfold f_seen; rw [hk]; rfl, by unfold g_seen; rw [hk]; rfl⟩
theorem m_forget (M : MM) : oQ 1 150 [vR 55] M (fun r M' => r = some (Sum.inl (M 55 11)) ∧ M' = mset M 55 11 0) := by
  refine go150 (fun S hS => ?_)
  refine wpx_ok hS bk150 (sp := sp150) 60 0 _ _ _ _ ?_
  simp only [LCM, B2, Bool.not_eq_false, Bool.not_eq_true, decide_eq_true_eq, decide_eq_false_iff_not, Int.not_lt, Int.not_le, CST, TN, WX, WA, WB, GS, LOC, BT150, SP150, CLS, FLD, ARR, CD, true_and, and_true, and_self, forall_const, true_implies, false_implies, implies_true, not_true_eq_false, not_false_eq_true, if_true, if_false, rgI, rgL, scr, swl, lkl, cats, cat, is2, List.drop_succ_cons, List.drop_zero, List.drop_nil, List.cons_append, List.nil_append, Option.toList_some, Option.toList_none, List.length_cons, List.length_nil, ne_eq, Classical.not_not, reduceCtorEq, Nat.reduceAdd, Nat.reduceSub, Nat.reduceMul, Nat.reduceLT, Nat.reduceLeDiff, Nat.reduceEqDiff, Nat.reduceBEq, Int.reduceToNat, Int.reduceLE, Int.reduceLT, Int.reduceEq, Int.reduceNeg, Int.reduceAdd, Int.reduceSub, Int.reduceMul, Int.toNat_natCast, Nat.zero_add, Int.add_zero, Nat.add_zero, ite_true, ite_false, Option.some.injEq, Nat.le_refl, or_true, true_or, or_false, false_or, if_pos, reduceIte, Nat.reduceGT]
  exact rt150 ⟨rfl, rfl, rfl⟩
theorem m_wipe (M : MM) : oQ 1 104 [vR 55] M (fun r M' => r = some (Sum.inl (M 55 0)) ∧ M' = mset M 55 0 0) := by
  refine go104 (fun S hS => ?_)
  refine wpx_ok hS bk104 (sp := sp104) 60 0 _ _ _ _ ?_
  simp only [LCM, B2, Bool.not_eq_false, Bool.not_eq_true, decide_eq_true_eq, decide_eq_false_iff_not, Int.not_lt, Int.not_le, CST, TN, WX, WA, WB, GS, LOC, BT104, SP104, CLS, FLD, ARR, CD, true_and, and_true, and_self, forall_const, true_implies, false_implies, implies_true, not_true_eq_false, not_false_eq_true, if_true, if_false, rgI, rgL, scr, swl, lkl, cats, cat, is2, List.drop_succ_cons, List.drop_zero, List.drop_nil, List.cons_append, List.nil_append, Option.toList_some, Option.toList_none, List.length_cons, List.length_nil, ne_eq, Classical.not_not, reduceCtorEq, Nat.reduceAdd, Nat.reduceSub, Nat.reduceMul, Nat.reduceLT, Nat.reduceLeDiff, Nat.reduceEqDiff, Nat.reduceBEq, Int.reduceToNat, Int.reduceLE, Int.reduceLT, Int.reduceEq, Int.reduceNeg, Int.reduceAdd, Int.reduceSub, Int.reduceMul, Int.toNat_natCast, Nat.zero_add, Int.add_zero, Nat.add_zero, ite_true, ite_false, Option.some.injEq, Nat.le_refl, or_true, true_or, or_false, false_or, if_pos, reduceIte, Nat.reduceGT]
  exact rt104 ⟨rfl, rfl, rfl⟩
def fd (z n d : Int) : Int := d + (7919 * z + 1) * (7919 * z + 1) % 65521 % n
theorem fd_rg {z n d : Int} (hz : 0 ≤ z ∧ z ≤ 9999) (hn : 1 ≤ n ∧ n ≤ 999) (hd : 0 ≤ d ∧ d ≤ 1000000000000000) : 0 ≤ (7919 * z + 1) * (7919 * z + 1) ∧ (7919 * z + 1) * (7919 * z + 1) ≤ 10000000000000000 ∧ 0 ≤ (7919 * z + 1) * (7919 * z + 1) % 65521 ∧ (7919 * z + 1) * (7919 * z + 1) % 65521 < 65521 ∧ 0 ≤ fd z n d ∧ fd z n d ≤ 2000000000000000 := by
  have h1 : 0 ≤ 7919 * z + 1 ∧ 7919 * z + 1 ≤ 79182082 := by omega
  have h2 : (7919 * z + 1) * (7919 * z + 1) ≤ 79182082 * 79182082 := Int.mul_le_mul h1.2 h1.2 h1.1 (by omega)
  have h3 : 0 ≤ (7919 * z + 1) * (7919 * z + 1) := Int.mul_nonneg h1.1 h1.1
  have h4 := Int.emod_nonneg ((7919 * z + 1) * (7919 * z + 1)) (show (65521 : Int) ≠ 0 by omega)
  have h5 := Int.emod_lt_of_pos ((7919 * z + 1) * (7919 * z + 1)) (show (0 : Int) < 65521 by omega)
  have h6 := Int.emod_nonneg ((7919 * z + 1) * (7919 * z + 1) % 65521) (show n ≠ 0 by omega)
  have h7 := Int.emod_lt_of_pos ((7919 * z + 1) * (7919 * z + 1) % 65521) (show 0 < n by omega)
  unfold fd
  omega
theorem m_fireDay (z n d : Int) (M : MM) (hz : 0 ≤ z ∧ z ≤ 9999) (hn : 1 ≤ n ∧ n ≤ 999) (hd : 0 ≤ d ∧ d ≤ 1000000000000000) : oL 1 152 [vI z, vI n, vL d] M (fd z n d) := by
  have hf := fd_rg hz hn hd
  refine go152 (fun S hS => ?_)
  refine wpx_ok hS bk152 (sp := sp152) 60 0 _ _ _ _ ?_
  simp only [LCM, B2, Bool.not_eq_false, Bool.not_eq_true, decide_eq_true_eq, decide_eq_false_iff_not, Int.not_lt, Int.not_le, CST, TN, WX, WA, WB, GS, LOC, BT152, SP152, CLS, FLD, ARR, CD, true_and, and_true, and_self, forall_const, true_implies, false_implies, implies_true, not_true_eq_false, not_false_eq_true, if_true, if_false, rgI, rgL, scr, swl, lkl, cats, cat, is2, List.drop_succ_cons, List.drop_zero, List.drop_nil, List.cons_append, List.nil_append, Option.toList_some, Option.toList_none, List.length_cons, List.length_nil, ne_eq, Classical.not_not, reduceCtorEq, Nat.reduceAdd, Nat.reduceSub, Nat.reduceMul, Nat.reduceLT, Nat.reduceLeDiff, Nat.reduceEqDiff, Nat.reduceBEq, Int.reduceToNat, Int.reduceLE, Int.reduceLT, Int.reduceEq, Int.reduceNeg, Int.reduceAdd, Int.reduceSub, Int.reduceMul, Int.toNat_natCast, Nat.zero_add, Int.add_zero, Nat.add_zero, ite_true, ite_false, Option.some.injEq, Nat.le_refl, or_true, true_or, or_false, false_or, if_pos, reduceIte, Nat.reduceGT]
  refine ⟨by omega, by omega, by omega, by omega, ?_⟩
  exact rt152 ⟨rfl, rfl, rfl⟩
def okFire (z n d what : Int) : Bool := decide (0 ≤ z ∧ z ≤ 9999) && (decide (1 ≤ n ∧ n ≤ 999) && (isDayB d && decide (0 ≤ what ∧ what ≤ 2)))
def f_fire (T : MM) (z n d what : Int) : Int := if okFire z n d what then (if what = 1 then cnt (upP T (fd z n d)) 10 else cnt (fun k => rsB T (fd ((z + k) % 10000) n d) (T 60 0).toNat) (if what = 0 then 1 else 100)) else -1
theorem m_fire (z n d what : Int) (M : MM) (hW : WFt M) (hz : rgI z) (hn : rgI n) (hd : rgL d) (hw : rgI what) : oI 4 153 [vR 55, vI z, vI n, vL d, vI what] M (f_fire M z n d what) := by
  have hck := hW.2.2.2.2.1
  have hH := hW.H
  refine go153 (fun S hS => ?_)
  refine wpx_ok hS bk153 (sp := sp153) 60 0 _ _ _ _ ?_
  simp only [LCM, B2, Bool.not_eq_false, Bool.not_eq_true, decide_eq_true_eq, decide_eq_false_iff_not, Int.not_lt, Int.not_le, CST, TN, WX, WA, WB, GS, LOC, BT153, SP153, CLS, FLD, ARR, CD, true_and, and_true, and_self, forall_const, true_implies, false_implies, implies_true, not_true_eq_false, not_false_eq_true, if_true, if_false, rgI, rgL, scr, swl, lkl, cats, cat, is2, List.drop_succ_cons, List.drop_zero, List.drop_nil, List.cons_append, List.nil_append, Option.toList_some, Option.toList_none, List.length_cons, List.length_nil, ne_eq, Classical.not_not, reduceCtorEq, Nat.reduceAdd, Nat.reduceSub, Nat.reduceMul, Nat.reduceLT, Nat.reduceLeDiff, Nat.reduceEqDiff, Nat.reduceBEq, Int.reduceToNat, Int.reduceLE, Int.reduceLT, Int.reduceEq, Int.reduceNeg, Int.reduceAdd, Int.reduceSub, Int.reduceMul, Int.toNat_natCast, Nat.zero_add, Int.add_zero, Nat.add_zero, ite_true, ite_false, Option.some.injEq, Nat.le_refl, or_true, true_or, or_false, false_or, if_pos, reduceIte, Nat.reduceGT]
  refine ⟨hz, ?_⟩
  refine kI (c_in z 0 9999 M (by unfold rgL rgI at *; omega) (by unfold rgL; omega) (by unfold rgL; omega)) (Nat.le_of_ble_eq_true rfl) rfl rfl (Nat.le_of_ble_eq_true rfl) (Nat.le_of_ble_eq_true rfl) rfl ?_
  refine wpx_ok hS bk153 (sp := sp153) 60 9 _ _ _ _ ?_
  simp only [LCM, B2, Bool.not_eq_false, Bool.not_eq_true, decide_eq_true_eq, decide_eq_false_iff_not, Int.not_lt, Int.not_le, CST, TN, WX, WA, WB, GS, LOC, BT153, SP153, CLS, FLD, ARR, CD, true_and, and_true, and_self, forall_const, true_implies, false_implies, implies_true, not_true_eq_false, not_false_eq_true, if_true, if_false, rgI, rgL, scr, swl, lkl, cats, cat, is2, List.drop_succ_cons, List.drop_zero, List.drop_nil, List.cons_append, List.nil_append, Option.toList_some, Option.toList_none, List.length_cons, List.length_nil, ne_eq, Classical.not_not, reduceCtorEq, Nat.reduceAdd, Nat.reduceSub, Nat.reduceMul, Nat.reduceLT, Nat.reduceLeDiff, Nat.reduceEqDiff, Nat.reduceBEq, Int.reduceToNat, Int.reduceLE, Int.reduceLT, Int.reduceEq, Int.reduceNeg, Int.reduceAdd, Int.reduceSub, Int.reduceMul, Int.toNat_natCast, Nat.zero_add, Int.add_zero, Nat.add_zero, ite_true, ite_false, Option.some.injEq, Nat.le_refl, or_true, true_or, or_false, false_or, if_pos, reduceIte, Nat.reduceGT]
  refine ⟨fun h => ?_, fun h => ?_⟩
  · exact rt153 ⟨rfl, by unfold f_fire okFire; rw [decide_eq_false h]; rfl, rfl⟩
  refine ⟨hn, ?_⟩
  refine kI (c_in n 1 999 M (by unfold rgL rgI at *; omega) (by unfold rgL; omega) (by unfold rgL; omega)) (Nat.le_of_ble_eq_true rfl) rfl rfl (Nat.le_of_ble_eq_true rfl) (Nat.le_of_ble_eq_true rfl) rfl ?_
  refine wpx_ok hS bk153 (sp := sp153) 60 21 _ _ _ _ ?_
  simp only [LCM, B2, Bool.not_eq_false, Bool.not_eq_true, decide_eq_true_eq, decide_eq_false_iff_not, Int.not_lt, Int.not_le, CST, TN, WX, WA, WB, GS, LOC, BT153, SP153, CLS, FLD, ARR, CD, true_and, and_true, and_self, forall_const, true_implies, false_implies, implies_true, not_true_eq_false, not_false_eq_true, if_true, if_false, rgI, rgL, scr, swl, lkl, cats, cat, is2, List.drop_succ_cons, List.drop_zero, List.drop_nil, List.cons_append, List.nil_append, Option.toList_some, Option.toList_none, List.length_cons, List.length_nil, ne_eq, Classical.not_not, reduceCtorEq, Nat.reduceAdd, Nat.reduceSub, Nat.reduceMul, Nat.reduceLT, Nat.reduceLeDiff, Nat.reduceEqDiff, Nat.reduceBEq, Int.reduceToNat, Int.reduceLE, Int.reduceLT, Int.reduceEq, Int.reduceNeg, Int.reduceAdd, Int.reduceSub, Int.reduceMul, Int.toNat_natCast, Nat.zero_add, Int.add_zero, Nat.add_zero, ite_true, ite_false, Option.some.injEq, Nat.le_refl, or_true, true_or, or_false, false_or, if_pos, reduceIte, Nat.reduceGT]
  refine ⟨fun h1 => ?_, fun h1 => ?_⟩
  · exact rt153 ⟨rfl, by unfold f_fire okFire; rw [decide_eq_false h1]; simp, rfl⟩
  refine kI (m_isDay d M hd) (Nat.le_of_ble_eq_true rfl) rfl rfl (Nat.le_of_ble_eq_true rfl) (Nat.le_of_ble_eq_true rfl) rfl ?_
  refine wpx_ok hS bk153 (sp := sp153) 60 28 _ _ _ _ ?_
  simp only [LCM, B2, Bool.not_eq_false, Bool.not_eq_true, decide_eq_true_eq, decide_eq_false_iff_not, Int.not_lt, Int.not_le, CST, TN, WX, WA, WB, GS, LOC, BT153, SP153, CLS, FLD, ARR, CD, true_and, and_true, and_self, forall_const, true_implies, false_implies, implies_true, not_true_eq_false, not_false_eq_true, if_true, if_false, rgI, rgL, scr, swl, lkl, cats, cat, is2, List.drop_succ_cons, List.drop_zero, List.drop_nil, List.cons_append, List.nil_append, Option.toList_some, Option.toList_none, List.length_cons, List.length_nil, ne_eq, Classical.not_not, reduceCtorEq, Nat.reduceAdd, Nat.reduceSub, Nat.reduceMul, Nat.reduceLT, Nat.reduceLeDiff, Nat.reduceEqDiff, Nat.reduceBEq, Int.reduceToNat, Int.reduceLE, Int.reduceLT, Int.reduceEq, Int.reduceNeg, Int.reduceAdd, Int.reduceSub, Int.reduceMul, Int.toNat_natCast, Nat.zero_add, Int.add_zero, Nat.add_zero, ite_true, ite_false, Option.some.injEq, Nat.le_refl, or_true, true_or, or_false, false_or, if_pos, reduceIte, Nat.reduceGT]
  refine ⟨fun h2 => ?_, fun h2 => ?_⟩
  · exact rt153 ⟨rfl, by unfold f_fire okFire; rw [h2]; simp, rfl⟩
  refine ⟨hw, ?_⟩
  refine kI (c_in what 0 2 M (by unfold rgL rgI at *; omega) (by unfold rgL; omega) (by unfold rgL; omega)) (Nat.le_of_ble_eq_true rfl) rfl rfl (Nat.le_of_ble_eq_true rfl) (Nat.le_of_ble_eq_true rfl) rfl ?_
  refine wpx_ok hS bk153 (sp := sp153) 60 41 _ _ _ _ ?_
  simp only [LCM, B2, Bool.not_eq_false, Bool.not_eq_true, decide_eq_true_eq, decide_eq_false_iff_not, Int.not_lt, Int.not_le, CST, TN, WX, WA, WB, GS, LOC, BT153, SP153, CLS, FLD, ARR, CD, true_and, and_true, and_self, forall_const, true_implies, false_implies, implies_true, not_true_eq_false, not_false_eq_true, if_true, if_false, rgI, rgL, scr, swl, lkl, cats, cat, is2, List.drop_succ_cons, List.drop_zero, List.drop_nil, List.cons_append, List.nil_append, Option.toList_some, Option.toList_none, List.length_cons, List.length_nil, ne_eq, Classical.not_not, reduceCtorEq, Nat.reduceAdd, Nat.reduceSub, Nat.reduceMul, Nat.reduceLT, Nat.reduceLeDiff, Nat.reduceEqDiff, Nat.reduceBEq, Int.reduceToNat, Int.reduceLE, Int.reduceLT, Int.reduceEq, Int.reduceNeg, Int.reduceAdd, Int.reduceSub, Int.reduceMul, Int.toNat_natCast, Nat.zero_add, Int.add_zero, Nat.add_zero, ite_true, ite_false, Option.some.injEq, Nat.le_refl, or_true, true_or, or_false, false_or, if_pos, reduceIte, Nat.reduceGT]
  refine ⟨fun h3 => ⟨hw, fun h4 => ?_, fun h4 => ?_⟩, fun h3 => ?_⟩
  · have hok : okFire z n d what = true := by unfold okFire; rw [decide_eq_true h, decide_eq_true h1, h2, decide_eq_true h3]; rfl
    have h2' := isDayB_iff.mp h2
    have head : ∀ (m k : Nat), k + m = (if what = 0 then 1 else 100) → S 72 [some (vR 55), some (vI z), some (vI n), some (vL d), none, some (vI what), some (vI (cnt (fun k => rsB M (fd ((z + k) % 10000) n d) (M 60 0).toNat) k)), some (vI k)] [] (sh0, 0, 0) M := by
      intro m
      induction m with
      | zero =>
        intro k hk
        have hv : f_fire M z n d what = cnt (fun k => rsB M (fd ((z + k) % 10000) n d) (M 60 0).toNat) k := by
          unfold f_fire
          rw [hok, if_pos rfl, if_neg h4, ← hk, Nat.add_zero]
        refine wpx_ok hS bk153 (sp := sp153) 60 72 _ _ _ _ ?_
        simp only [LCM, B2, Bool.not_eq_false, Bool.not_eq_true, decide_eq_true_eq, decide_eq_false_iff_not, Int.not_lt, Int.not_le, CST, TN, WX, WA, WB, GS, LOC, BT153, SP153, CLS, FLD, ARR, CD, true_and, and_true, and_self, forall_const, true_implies, false_implies, implies_true, not_true_eq_false, not_false_eq_true, if_true, if_false, rgI, rgL, scr, swl, lkl, cats, cat, is2, List.drop_succ_cons, List.drop_zero, List.drop_nil, List.cons_append, List.nil_append, Option.toList_some, Option.toList_none, List.length_cons, List.length_nil, ne_eq, Classical.not_not, reduceCtorEq, Nat.reduceAdd, Nat.reduceSub, Nat.reduceMul, Nat.reduceLT, Nat.reduceLeDiff, Nat.reduceEqDiff, Nat.reduceBEq, Int.reduceToNat, Int.reduceLE, Int.reduceLT, Int.reduceEq, Int.reduceNeg, Int.reduceAdd, Int.reduceSub, Int.reduceMul, Int.toNat_natCast, Nat.zero_add, Int.add_zero, Nat.add_zero, ite_true, ite_false, Option.some.injEq, Nat.le_refl, or_true, true_or, or_false, false_or, if_pos, reduceIte, Nat.reduceGT]
        refine ⟨hw, fun h5 => ?_, fun h5 => ?_⟩
        · rw [if_neg h5] at hk
          exact ⟨by omega, fun _ => rt153 ⟨rfl, by rw [hv], rfl⟩, fun h6 => by omega⟩
        · rw [if_pos h5] at hk
          exact ⟨by omega, fun _ => rt153 ⟨rfl, by rw [hv], rfl⟩, fun h6 => by omega⟩
      | succ m ih =>
        intro k hk
        have hkb : k < 100 := by split at hk <;> omega
        have hz2 : 0 ≤ (z + k) % 10000 ∧ (z + k) % 10000 ≤ 9999 := by omega
        have hfr := fd_rg hz2 h1 h2'
        have ek : cnt (fun k => rsB M (fd ((z + k) % 10000) n d) (M 60 0).toNat) (k + 1) = cnt (fun k => rsB M (fd ((z + k) % 10000) n d) (M 60 0).toNat) k + b2i (rsB M (fd ((z + k) % 10000) n d) (M 60 0).toNat) := rfl
        have ih2 := ih (k + 1) (by omega)
        rw [ek] at ih2
        have body : wpc (Run 3) 0 0 152 3 (wpl (Run 3) none 0 0 (fun t => bif sp153 t then S t else wpx (Run 3) none 0 0 S (Rtn 153 0 0 fun r sh M' => sh = sh0 ∧ r = some (Sum.inl (f_fire M z n d what)) ∧ M' = M) bt153 sp153 56 t) (Rtn 153 0 0 fun r sh M' => sh = sh0 ∧ r = some (Sum.inl (f_fire M z n d what)) ∧ M' = M) [] 110) [some (vR 55), some (vI z), some (vI n), some (vL d), none, some (vI what), some (vI (cnt (fun k => rsB M (fd ((z + k) % 10000) n d) (M 60 0).toNat) k)), some (vI k)] [Sum.inr (Sum.inl d), Sum.inl n, Sum.inl ((z + k) % 10000), Sum.inl (M 60 0), Sum.inr (Sum.inr 55), Sum.inl (cnt (fun k => rsB M (fd ((z + k) % 10000) n d) (M 60 0).toNat) k)] (sh0, 0, 0) M := by
          refine kL (m_fireDay ((z + k) % 10000) n d M hz2 h1 h2') (Nat.le_of_ble_eq_true rfl) rfl rfl (Nat.le_of_ble_eq_true rfl) (Nat.le_of_ble_eq_true rfl) rfl ?_
          refine wpx_ok hS bk153 (sp := sp153) 60 110 _ _ _ _ ?_
          simp only [LCM, B2, Bool.not_eq_false, Bool.not_eq_true, decide_eq_true_eq, decide_eq_false_iff_not, Int.not_lt, Int.not_le, CST, TN, WX, WA, WB, GS, LOC, BT153, SP153, CLS, FLD, ARR, CD, true_and, and_true, and_self, forall_const, true_implies, false_implies, implies_true, not_true_eq_false, not_false_eq_true, if_true, if_false, rgI, rgL, scr, swl, lkl, cats, cat, is2, List.drop_succ_cons, List.drop_zero, List.drop_nil, List.cons_append, List.nil_append, Option.toList_some, Option.toList_none, List.length_cons, List.length_nil, ne_eq, Classical.not_not, reduceCtorEq, Nat.reduceAdd, Nat.reduceSub, Nat.reduceMul, Nat.reduceLT, Nat.reduceLeDiff, Nat.reduceEqDiff, Nat.reduceBEq, Int.reduceToNat, Int.reduceLE, Int.reduceLT, Int.reduceEq, Int.reduceNeg, Int.reduceAdd, Int.reduceSub, Int.reduceMul, Int.toNat_natCast, Nat.zero_add, Int.add_zero, Nat.add_zero, ite_true, ite_false, Option.some.injEq, Nat.le_refl, or_true, true_or, or_false, false_or, if_pos, reduceIte, Nat.reduceGT]
          have hcc : M 60 0 = ((M 60 0).toNat : Int) := by omega
          rw [hcc]
          refine ⟨rcv_ok rfl own118 rfl, kI (m_isUp (M 60 0).toNat (fd ((z + k) % 10000) n d) M hW (by omega) (by omega)) (Nat.le_of_ble_eq_true rfl) rfl rfl (Nat.le_of_ble_eq_true rfl) (Nat.le_of_ble_eq_true rfl) rfl ?_⟩
          refine wpx_ok hS bk153 (sp := sp153) 60 113 _ _ _ _ ?_
          simp only [LCM, B2, Bool.not_eq_false, Bool.not_eq_true, decide_eq_true_eq, decide_eq_false_iff_not, Int.not_lt, Int.not_le, CST, TN, WX, WA, WB, GS, LOC, BT153, SP153, CLS, FLD, ARR, CD, true_and, and_true, and_self, forall_const, true_implies, false_implies, implies_true, not_true_eq_false, not_false_eq_true, if_true, if_false, rgI, rgL, scr, swl, lkl, cats, cat, is2, List.drop_succ_cons, List.drop_zero, List.drop_nil, List.cons_append, List.nil_append, Option.toList_some, Option.toList_none, List.length_cons, List.length_nil, ne_eq, Classical.not_not, reduceCtorEq, Nat.reduceAdd, Nat.reduceSub, Nat.reduceMul, Nat.reduceLT, Nat.reduceLeDiff, Nat.reduceEqDiff, Nat.reduceBEq, Int.reduceToNat, Int.reduceLE, Int.reduceLT, Int.reduceEq, Int.reduceNeg, Int.reduceAdd, Int.reduceSub, Int.reduceMul, Int.toNat_natCast, Nat.zero_add, Int.add_zero, Nat.add_zero, ite_true, ite_false, Option.some.injEq, Nat.le_refl, or_true, true_or, or_false, false_or, if_pos, reduceIte, Nat.reduceGT]
          refine ⟨fun h6 => ?_, fun h6 => ?_⟩
          · have h7 : rsB M (fd ((z + k) % 10000) n d) (M 60 0).toNat = true := by simpa using h6
            rw [h7] at ih2
            exact ih2
          · have h7 : rsB M (fd ((z + k) % 10000) n d) (M 60 0).toNat = false := by simpa using h6
            rw [h7, show b2i false = 0 from rfl, Int.add_zero] at ih2
            exact ih2
        refine wpx_ok hS bk153 (sp := sp153) 60 72 _ _ _ _ ?_
        simp only [LCM, B2, Bool.not_eq_false, Bool.not_eq_true, decide_eq_true_eq, decide_eq_false_iff_not, Int.not_lt, Int.not_le, CST, TN, WX, WA, WB, GS, LOC, BT153, SP153, CLS, FLD, ARR, CD, true_and, and_true, and_self, forall_const, true_implies, false_implies, implies_true, not_true_eq_false, not_false_eq_true, if_true, if_false, rgI, rgL, scr, swl, lkl, cats, cat, is2, List.drop_succ_cons, List.drop_zero, List.drop_nil, List.cons_append, List.nil_append, Option.toList_some, Option.toList_none, List.length_cons, List.length_nil, ne_eq, Classical.not_not, reduceCtorEq, Nat.reduceAdd, Nat.reduceSub, Nat.reduceMul, Nat.reduceLT, Nat.reduceLeDiff, Nat.reduceEqDiff, Nat.reduceBEq, Int.reduceToNat, Int.reduceLE, Int.reduceLT, Int.reduceEq, Int.reduceNeg, Int.reduceAdd, Int.reduceSub, Int.reduceMul, Int.toNat_natCast, Nat.zero_add, Int.add_zero, Nat.add_zero, ite_true, ite_false, Option.some.injEq, Nat.le_refl, or_true, true_or, or_false, false_or, if_pos, reduceIte, Nat.reduceGT]
        refine ⟨hw, fun h5 => ?_, fun h5 => ?_⟩
        · rw [if_neg h5] at hk
          exact ⟨by omega, fun h6 => by omega, fun h6 => ⟨by omega, body⟩⟩
        · rw [if_pos h5] at hk
          exact ⟨by omega, fun h6 => by omega, fun h6 => ⟨by omega, body⟩⟩
    exact head (if what = 0 then 1 else 100) 0 (by omega)
  · have hok : okFire z n d what = true := by unfold okFire; rw [decide_eq_true h, decide_eq_true h1, h2, decide_eq_true h3]; rfl
    have h2' := isDayB_iff.mp h2
    have hfr := fd_rg h h1 h2'
    refine kL (m_fireDay z n d M h h1 h2') (Nat.le_of_ble_eq_true rfl) rfl rfl (Nat.le_of_ble_eq_true rfl) (Nat.le_of_ble_eq_true rfl) rfl ?_
    refine wpx_ok hS bk153 (sp := sp153) 60 59 _ _ _ _ ?_
    simp only [LCM, B2, Bool.not_eq_false, Bool.not_eq_true, decide_eq_true_eq, decide_eq_false_iff_not, Int.not_lt, Int.not_le, CST, TN, WX, WA, WB, GS, LOC, BT153, SP153, CLS, FLD, ARR, CD, true_and, and_true, and_self, forall_const, true_implies, false_implies, implies_true, not_true_eq_false, not_false_eq_true, if_true, if_false, rgI, rgL, scr, swl, lkl, cats, cat, is2, List.drop_succ_cons, List.drop_zero, List.drop_nil, List.cons_append, List.nil_append, Option.toList_some, Option.toList_none, List.length_cons, List.length_nil, ne_eq, Classical.not_not, reduceCtorEq, Nat.reduceAdd, Nat.reduceSub, Nat.reduceMul, Nat.reduceLT, Nat.reduceLeDiff, Nat.reduceEqDiff, Nat.reduceBEq, Int.reduceToNat, Int.reduceLE, Int.reduceLT, Int.reduceEq, Int.reduceNeg, Int.reduceAdd, Int.reduceSub, Int.reduceMul, Int.toNat_natCast, Nat.zero_add, Int.add_zero, Nat.add_zero, ite_true, ite_false, Option.some.injEq, Nat.le_refl, or_true, true_or, or_false, false_or, if_pos, reduceIte, Nat.reduceGT]
    refine ⟨rcv_ok rfl own120 rfl, kI (m_upOn (fd z n d) M hW (by omega)) (Nat.le_of_ble_eq_true rfl) rfl rfl (Nat.le_of_ble_eq_true rfl) (Nat.le_of_ble_eq_true rfl) rfl ?_⟩
    refine wpx_ok hS bk153 (sp := sp153) 60 62 _ _ _ _ ?_
    simp only [LCM, B2, Bool.not_eq_false, Bool.not_eq_true, decide_eq_true_eq, decide_eq_false_iff_not, Int.not_lt, Int.not_le, CST, TN, WX, WA, WB, GS, LOC, BT153, SP153, CLS, FLD, ARR, CD, true_and, and_true, and_self, forall_const, true_implies, false_implies, implies_true, not_true_eq_false, not_false_eq_true, if_true, if_false, rgI, rgL, scr, swl, lkl, cats, cat, is2, List.drop_succ_cons, List.drop_zero, List.drop_nil, List.cons_append, List.nil_append, Option.toList_some, Option.toList_none, List.length_cons, List.length_nil, ne_eq, Classical.not_not, reduceCtorEq, Nat.reduceAdd, Nat.reduceSub, Nat.reduceMul, Nat.reduceLT, Nat.reduceLeDiff, Nat.reduceEqDiff, Nat.reduceBEq, Int.reduceToNat, Int.reduceLE, Int.reduceLT, Int.reduceEq, Int.reduceNeg, Int.reduceAdd, Int.reduceSub, Int.reduceMul, Int.toNat_natCast, Nat.zero_add, Int.add_zero, Nat.add_zero, ite_true, ite_false, Option.some.injEq, Nat.le_refl, or_true, true_or, or_false, false_or, if_pos, reduceIte, Nat.reduceGT]
    refine kI (m_bits (upP M (fd z n d)) M) (Nat.le_of_ble_eq_true rfl) rfl rfl (Nat.le_of_ble_eq_true rfl) (Nat.le_of_ble_eq_true rfl) rfl ?_
    refine wpx_ok hS bk153 (sp := sp153) 60 65 _ _ _ _ ?_
    simp only [LCM, B2, Bool.not_eq_false, Bool.not_eq_true, decide_eq_true_eq, decide_eq_false_iff_not, Int.not_lt, Int.not_le, CST, TN, WX, WA, WB, GS, LOC, BT153, SP153, CLS, FLD, ARR, CD, true_and, and_true, and_self, forall_const, true_implies, false_implies, implies_true, not_true_eq_false, not_false_eq_true, if_true, if_false, rgI, rgL, scr, swl, lkl, cats, cat, is2, List.drop_succ_cons, List.drop_zero, List.drop_nil, List.cons_append, List.nil_append, Option.toList_some, Option.toList_none, List.length_cons, List.length_nil, ne_eq, Classical.not_not, reduceCtorEq, Nat.reduceAdd, Nat.reduceSub, Nat.reduceMul, Nat.reduceLT, Nat.reduceLeDiff, Nat.reduceEqDiff, Nat.reduceBEq, Int.reduceToNat, Int.reduceLE, Int.reduceLT, Int.reduceEq, Int.reduceNeg, Int.reduceAdd, Int.reduceSub, Int.reduceMul, Int.toNat_natCast, Nat.zero_add, Int.add_zero, Nat.add_zero, ite_true, ite_false, Option.some.injEq, Nat.le_refl, or_true, true_or, or_false, false_or, if_pos, reduceIte, Nat.reduceGT]
    exact rt153 ⟨rfl, by unfold f_fire; rw [hok, if_pos rfl, if_pos h4], rfl⟩
  · exact rt153 ⟨rfl, by unfold f_fire okFire; rw [decide_eq_false h3]; simp, rfl⟩
def f_change (T : MM) (i r : Int) : Int := if (0 ≤ i ∧ i < T 58 0) ∧ 0 ≤ r ∧ r < len T i.toNat then T 61 (4 * i.toNat + 1) else -1
def g_change (T : MM) (i r : Int) : MM := if (0 ≤ i ∧ i < T 58 0) ∧ 0 ≤ r ∧ r < len T i.toNat then mset T 61 (4 * i.toNat + 1) r else T
theorem m_change (i r : Int) (M : MM) (hW : WFt M) (hi : rgI i) (hr : rgI r) : oQ 3 154 [vR 55, vI i, vI r] M (fun x M' => x = some (Sum.inl (f_change M i r)) ∧ M' = g_change M i r) := by
  have hH := hW.H
  refine go154 (fun S hS => ?_)
  refine wpx_ok hS bk154 (sp := sp154) 60 0 _ _ _ _ ?_
  simp only [LCM, B2, Bool.not_eq_false, Bool.not_eq_true, decide_eq_true_eq, decide_eq_false_iff_not, Int.not_lt, Int.not_le, CST, TN, WX, WA, WB, GS, LOC, BT154, SP154, CLS, FLD, ARR, CD, true_and, and_true, and_self, forall_const, true_implies, false_implies, implies_true, not_true_eq_false, not_false_eq_true, if_true, if_false, rgI, rgL, scr, swl, lkl, cats, cat, is2, List.drop_succ_cons, List.drop_zero, List.drop_nil, List.cons_append, List.nil_append, Option.toList_some, Option.toList_none, List.length_cons, List.length_nil, ne_eq, Classical.not_not, reduceCtorEq, Nat.reduceAdd, Nat.reduceSub, Nat.reduceMul, Nat.reduceLT, Nat.reduceLeDiff, Nat.reduceEqDiff, Nat.reduceBEq, Int.reduceToNat, Int.reduceLE, Int.reduceLT, Int.reduceEq, Int.reduceNeg, Int.reduceAdd, Int.reduceSub, Int.reduceMul, Int.toNat_natCast, Nat.zero_add, Int.add_zero, Nat.add_zero, ite_true, ite_false, Option.some.injEq, Nat.le_refl, or_true, true_or, or_false, false_or, if_pos, reduceIte, Nat.reduceGT]
  refine ⟨rcv_ok rfl own113 rfl, kI (m_isHouse i M hi hW) (Nat.le_of_ble_eq_true rfl) rfl rfl (Nat.le_of_ble_eq_true rfl) (Nat.le_of_ble_eq_true rfl) rfl ?_⟩
  refine wpx_ok hS bk154 (sp := sp154) 60 5 _ _ _ _ ?_
  simp only [LCM, B2, Bool.not_eq_false, Bool.not_eq_true, decide_eq_true_eq, decide_eq_false_iff_not, Int.not_lt, Int.not_le, CST, TN, WX, WA, WB, GS, LOC, BT154, SP154, CLS, FLD, ARR, CD, true_and, and_true, and_self, forall_const, true_implies, false_implies, implies_true, not_true_eq_false, not_false_eq_true, if_true, if_false, rgI, rgL, scr, swl, lkl, cats, cat, is2, List.drop_succ_cons, List.drop_zero, List.drop_nil, List.cons_append, List.nil_append, Option.toList_some, Option.toList_none, List.length_cons, List.length_nil, ne_eq, Classical.not_not, reduceCtorEq, Nat.reduceAdd, Nat.reduceSub, Nat.reduceMul, Nat.reduceLT, Nat.reduceLeDiff, Nat.reduceEqDiff, Nat.reduceBEq, Int.reduceToNat, Int.reduceLE, Int.reduceLT, Int.reduceEq, Int.reduceNeg, Int.reduceAdd, Int.reduceSub, Int.reduceMul, Int.toNat_natCast, Nat.zero_add, Int.add_zero, Nat.add_zero, ite_true, ite_false, Option.some.injEq, Nat.le_refl, or_true, true_or, or_false, false_or, if_pos, reduceIte, Nat.reduceGT]
  refine ⟨fun h => ?_, fun h => ?_⟩
  · exact rt154 ⟨rfl, by unfold f_change; rw [if_neg (fun z => h z.1)], by unfold g_change; rw [if_neg (fun z => h z.1)]⟩
  · obtain ⟨n, rfl⟩ : ∃ n : Nat, i = (n : Int) := ⟨i.toNat, by omega⟩
    have hln := hW.ln (i := n) (by omega)
    refine ⟨hr, ?_⟩
    refine ⟨rcv_ok rfl own117 rfl, kI (m_weekOf n M hW (by omega)) (Nat.le_of_ble_eq_true rfl) rfl rfl (Nat.le_of_ble_eq_true rfl) (Nat.le_of_ble_eq_true rfl) rfl ?_⟩
    refine wpx_ok hS bk154 (sp := sp154) 60 16 _ _ _ _ ?_
    simp only [LCM, B2, Bool.not_eq_false, Bool.not_eq_true, decide_eq_true_eq, decide_eq_false_iff_not, Int.not_lt, Int.not_le, CST, TN, WX, WA, WB, GS, LOC, BT154, SP154, CLS, FLD, ARR, CD, true_and, and_true, and_self, forall_const, true_implies, false_implies, implies_true, not_true_eq_false, not_false_eq_true, if_true, if_false, rgI, rgL, scr, swl, lkl, cats, cat, is2, List.drop_succ_cons, List.drop_zero, List.drop_nil, List.cons_append, List.nil_append, Option.toList_some, Option.toList_none, List.length_cons, List.length_nil, ne_eq, Classical.not_not, reduceCtorEq, Nat.reduceAdd, Nat.reduceSub, Nat.reduceMul, Nat.reduceLT, Nat.reduceLeDiff, Nat.reduceEqDiff, Nat.reduceBEq, Int.reduceToNat, Int.reduceLE, Int.reduceLT, Int.reduceEq, Int.reduceNeg, Int.reduceAdd, Int.reduceSub, Int.reduceMul, Int.toNat_natCast, Nat.zero_add, Int.add_zero, Nat.add_zero, ite_true, ite_false, Option.some.injEq, Nat.le_refl, or_true, true_or, or_false, false_or, if_pos, reduceIte, Nat.reduceGT]
    refine ⟨by omega, ?_⟩
    refine kI (c_in r 0 (len M n - 1) M (by unfold rgL rgI at *; omega) (by unfold rgL; omega) (by unfold rgL; omega)) (Nat.le_of_ble_eq_true rfl) rfl rfl (Nat.le_of_ble_eq_true rfl) (Nat.le_of_ble_eq_true rfl) rfl ?_
    refine wpx_ok hS bk154 (sp := sp154) 60 22 _ _ _ _ ?_
    simp only [LCM, B2, Bool.not_eq_false, Bool.not_eq_true, decide_eq_true_eq, decide_eq_false_iff_not, Int.not_lt, Int.not_le, CST, TN, WX, WA, WB, GS, LOC, BT154, SP154, CLS, FLD, ARR, CD, true_and, and_true, and_self, forall_const, true_implies, false_implies, implies_true, not_true_eq_false, not_false_eq_true, if_true, if_false, rgI, rgL, scr, swl, lkl, cats, cat, is2, List.drop_succ_cons, List.drop_zero, List.drop_nil, List.cons_append, List.nil_append, Option.toList_some, Option.toList_none, List.length_cons, List.length_nil, ne_eq, Classical.not_not, reduceCtorEq, Nat.reduceAdd, Nat.reduceSub, Nat.reduceMul, Nat.reduceLT, Nat.reduceLeDiff, Nat.reduceEqDiff, Nat.reduceBEq, Int.reduceToNat, Int.reduceLE, Int.reduceLT, Int.reduceEq, Int.reduceNeg, Int.reduceAdd, Int.reduceSub, Int.reduceMul, Int.toNat_natCast, Nat.zero_add, Int.add_zero, Nat.add_zero, ite_true, ite_false, Option.some.injEq, Nat.le_refl, or_true, true_or, or_false, false_or, if_pos, reduceIte, Nat.reduceGT]
    refine ⟨fun h1 => ⟨by omega, by omega, rt154 ⟨rfl, ?_, ?_⟩⟩, fun h1 => ?_⟩
    · unfold f_change
      rw [if_pos ⟨h, by rw [Int.toNat_natCast]; omega⟩, Int.toNat_natCast]
    · unfold g_change
      rw [if_pos ⟨h, by rw [Int.toNat_natCast]; omega⟩, Int.toNat_natCast]
    · exact rt154 ⟨rfl, by unfold f_change; rw [if_neg (fun z => h1 (by rw [Int.toNat_natCast] at z; omega))], by unfold g_change; rw [if_neg (fun z => h1 (by rw [Int.toNat_natCast] at z; omega))]⟩
def okWed (T : MM) (i j : Int) : Bool := decide ((0 ≤ i ∧ i < T 58 0) ∧ (0 ≤ j ∧ j < T 58 0) ∧ i ≠ j)
def g_wedN (T : MM) (i j : Nat) : MM := mset (mset T 61 (4 * j) (T 61 (4 * i))) 61 (4 * j + 1) (T 61 (4 * i + 1))
def f_wed (T : MM) (i j : Int) : Int := if okWed T i j then T 61 (4 * j.toNat + 1) else -1
def g_wed (T : MM) (i j : Int) : MM := if okWed T i j then g_wedN T i.toNat j.toNat else T
theorem m_wed (i j : Int) (M : MM) (hW : WFt M) (hi : rgI i) (hj : rgI j) : oQ 3 155 [vR 55, vI i, vI j] M (fun x M' => x = some (Sum.inl (f_wed M i j)) ∧ M' = g_wed M i j) := by
  have hH := hW.H
  refine go155 (fun S hS => ?_)
  refine wpx_ok hS bk155 (sp := sp155) 60 0 _ _ _ _ ?_
  simp only [LCM, B2, Bool.not_eq_false, Bool.not_eq_true, decide_eq_true_eq, decide_eq_false_iff_not, Int.not_lt, Int.not_le, CST, TN, WX, WA, WB, GS, LOC, BT155, SP155, CLS, FLD, ARR, CD, true_and, and_true, and_self, forall_const, true_implies, false_implies, implies_true, not_true_eq_false, not_false_eq_true, if_true, if_false, rgI, rgL, scr, swl, lkl, cats, cat, is2, List.drop_succ_cons, List.drop_zero, List.drop_nil, List.cons_append, List.nil_append, Option.toList_some, Option.toList_none, List.length_cons, List.length_nil, ne_eq, Classical.not_not, reduceCtorEq, Nat.reduceAdd, Nat.reduceSub, Nat.reduceMul, Nat.reduceLT, Nat.reduceLeDiff, Nat.reduceEqDiff, Nat.reduceBEq, Int.reduceToNat, Int.reduceLE, Int.reduceLT, Int.reduceEq, Int.reduceNeg, Int.reduceAdd, Int.reduceSub, Int.reduceMul, Int.toNat_natCast, Nat.zero_add, Int.add_zero, Nat.add_zero, ite_true, ite_false, Option.some.injEq, Nat.le_refl, or_true, true_or, or_false, false_or, if_pos, reduceIte, Nat.reduceGT]
  refine ⟨rcv_ok rfl own113 rfl, kI (m_isHouse i M hi hW) (Nat.le_of_ble_eq_true rfl) rfl rfl (Nat.le_of_ble_eq_true rfl) (Nat.le_of_ble_eq_true rfl) rfl ?_⟩
  refine wpx_ok hS bk155 (sp := sp155) 60 5 _ _ _ _ ?_
  simp only [LCM, B2, Bool.not_eq_false, Bool.not_eq_true, decide_eq_true_eq, decide_eq_false_iff_not, Int.not_lt, Int.not_le, CST, TN, WX, WA, WB, GS, LOC, BT155, SP155, CLS, FLD, ARR, CD, true_and, and_true, and_self, forall_const, true_implies, false_implies, implies_true, not_true_eq_false, not_false_eq_true, if_true, if_false, rgI, rgL, scr, swl, lkl, cats, cat, is2, List.drop_succ_cons, List.drop_zero, List.drop_nil, List.cons_append, List.nil_append, Option.toList_some, Option.toList_none, List.length_cons, List.length_nil, ne_eq, Classical.not_not, reduceCtorEq, Nat.reduceAdd, Nat.reduceSub, Nat.reduceMul, Nat.reduceLT, Nat.reduceLeDiff, Nat.reduceEqDiff, Nat.reduceBEq, Int.reduceToNat, Int.reduceLE, Int.reduceLT, Int.reduceEq, Int.reduceNeg, Int.reduceAdd, Int.reduceSub, Int.reduceMul, Int.toNat_natCast, Nat.zero_add, Int.add_zero, Nat.add_zero, ite_true, ite_false, Option.some.injEq, Nat.le_refl, or_true, true_or, or_false, false_or, if_pos, reduceIte, Nat.reduceGT]
  refine ⟨fun h => ?_, fun h => ?_⟩
  · have hk : okWed M i j = false := by unfold okWed; exact decide_eq_false (fun z => h z.1)
    exact rt155 ⟨rfl, by unfold f_wed; rw [hk]; rfl, by unfold g_wed; rw [hk]; rfl⟩
  refine ⟨rcv_ok rfl own113 rfl, kI (m_isHouse j M hj hW) (Nat.le_of_ble_eq_true rfl) rfl rfl (Nat.le_of_ble_eq_true rfl) (Nat.le_of_ble_eq_true rfl) rfl ?_⟩
  refine wpx_ok hS bk155 (sp := sp155) 60 13 _ _ _ _ ?_
  simp only [LCM, B2, Bool.not_eq_false, Bool.not_eq_true, decide_eq_true_eq, decide_eq_false_iff_not, Int.not_lt, Int.not_le, CST, TN, WX, WA, WB, GS, LOC, BT155, SP155, CLS, FLD, ARR, CD, true_and, and_true, and_self, forall_const, true_implies, false_implies, implies_true, not_true_eq_false, not_false_eq_true, if_true, if_false, rgI, rgL, scr, swl, lkl, cats, cat, is2, List.drop_succ_cons, List.drop_zero, List.drop_nil, List.cons_append, List.nil_append, Option.toList_some, Option.toList_none, List.length_cons, List.length_nil, ne_eq, Classical.not_not, reduceCtorEq, Nat.reduceAdd, Nat.reduceSub, Nat.reduceMul, Nat.reduceLT, Nat.reduceLeDiff, Nat.reduceEqDiff, Nat.reduceBEq, Int.reduceToNat, Int.reduceLE, Int.reduceLT, Int.reduceEq, Int.reduceNeg, Int.reduceAdd, Int.reduceSub, Int.reduceMul, Int.toNat_natCast, Nat.zero_add, Int.add_zero, Nat.add_zero, ite_true, ite_false, Option.some.injEq, Nat.le_refl, or_true, true_or, or_false, false_or, if_pos, reduceIte, Nat.reduceGT]
  refine ⟨fun h1 => ?_, fun h1 => ?_⟩
  · have hk : okWed M i j = false := by unfold okWed; exact decide_eq_false (fun z => h1 z.2.1)
    exact rt155 ⟨rfl, by unfold f_wed; rw [hk]; rfl, by unfold g_wed; rw [hk]; rfl⟩
  refine ⟨⟨hi, hj⟩, fun h2 => ?_, fun h2 => ?_⟩
  · have hk : okWed M i j = true := by unfold okWed; exact decide_eq_true ⟨h, h1, h2⟩
    obtain ⟨n, rfl⟩ : ∃ n : Nat, i = (n : Int) := ⟨i.toNat, by omega⟩
    obtain ⟨k, rfl⟩ : ∃ k : Nat, j = (k : Int) := ⟨j.toNat, by omega⟩
    simp only [TN, Int.toNat_natCast]
    refine ⟨by omega, by omega, by omega, by omega, by omega, rt155 ⟨rfl, ?_, ?_⟩⟩
    · unfold f_wed
      rw [hk, if_pos rfl, Int.toNat_natCast]
    · unfold g_wed g_wedN
      rw [hk, if_pos rfl, Int.toNat_natCast, Int.toNat_natCast, ms_nj (show 4 * n + 1 ≠ 4 * k by omega)]
  · have hk : okWed M i j = false := by unfold okWed; exact decide_eq_false (fun z => z.2.2 h2)
    exact rt155 ⟨rfl, by unfold f_wed; rw [hk]; rfl, by unfold g_wed; rw [hk]; rfl⟩
theorem m_newMany (M : MM) (hW : WFt M) : oI 1 156 [vR 55] M (cnt (newB M) (hN M)) := by
  have hH := hW.H
  refine go156 (fun S hS => ?_)
  have head : ∀ (n i : Nat), i + n = hN M → S 4 [some (vR 55), some (vI (cnt (newB M) i)), some (vI i)] [] (sh0, 0, 0) M := by
    intro n
    induction n with
    | zero =>
      intro i hi
      refine wpx_ok hS bk156 (sp := sp156) 60 4 _ _ _ _ ?_
      simp only [LCM, B2, Bool.not_eq_false, Bool.not_eq_true, decide_eq_true_eq, decide_eq_false_iff_not, Int.not_lt, Int.not_le, CST, TN, WX, WA, WB, GS, LOC, BT156, SP156, CLS, FLD, ARR, CD, true_and, and_true, and_self, forall_const, true_implies, false_implies, implies_true, not_true_eq_false, not_false_eq_true, if_true, if_false, rgI, rgL, scr, swl, lkl, cats, cat, is2, List.drop_succ_cons, List.drop_zero, List.drop_nil, List.cons_append, List.nil_append, Option.toList_some, Option.toList_none, List.length_cons, List.length_nil, ne_eq, Classical.not_not, reduceCtorEq, Nat.reduceAdd, Nat.reduceSub, Nat.reduceMul, Nat.reduceLT, Nat.reduceLeDiff, Nat.reduceEqDiff, Nat.reduceBEq, Int.reduceToNat, Int.reduceLE, Int.reduceLT, Int.reduceEq, Int.reduceNeg, Int.reduceAdd, Int.reduceSub, Int.reduceMul, Int.toNat_natCast, Nat.zero_add, Int.add_zero, Nat.add_zero, ite_true, ite_false, Option.some.injEq, Nat.le_refl, or_true, true_or, or_false, false_or, if_pos, reduceIte, Nat.reduceGT]
      refine ⟨by omega, fun h => rt156 ⟨rfl, by rw [show i = hN M by omega], rfl⟩, fun h => by omega⟩
    | succ n ih =>
      intro i hi
      have hn := (hW.2.2.2.2.2.2.2.1 i (by omega)).1
      have ih2 := ih (i + 1) (by omega)
      rw [show cnt (newB M) (i + 1) = cnt (newB M) i + b2i (newB M i) from rfl] at ih2
      refine wpx_ok hS bk156 (sp := sp156) 60 4 _ _ _ _ ?_
      simp only [LCM, B2, Bool.not_eq_false, Bool.not_eq_true, decide_eq_true_eq, decide_eq_false_iff_not, Int.not_lt, Int.not_le, CST, TN, WX, WA, WB, GS, LOC, BT156, SP156, CLS, FLD, ARR, CD, true_and, and_true, and_self, forall_const, true_implies, false_implies, implies_true, not_true_eq_false, not_false_eq_true, if_true, if_false, rgI, rgL, scr, swl, lkl, cats, cat, is2, List.drop_succ_cons, List.drop_zero, List.drop_nil, List.cons_append, List.nil_append, Option.toList_some, Option.toList_none, List.length_cons, List.length_nil, ne_eq, Classical.not_not, reduceCtorEq, Nat.reduceAdd, Nat.reduceSub, Nat.reduceMul, Nat.reduceLT, Nat.reduceLeDiff, Nat.reduceEqDiff, Nat.reduceBEq, Int.reduceToNat, Int.reduceLE, Int.reduceLT, Int.reduceEq, Int.reduceNeg, Int.reduceAdd, Int.reduceSub, Int.reduceMul, Int.toNat_natCast, Nat.zero_add, Int.add_zero, Nat.add_zero, ite_true, ite_false, Option.some.injEq, Nat.le_refl, or_true, true_or, or_false, false_or, if_pos, reduceIte, Nat.reduceGT]
      refine ⟨by omega, fun h => by omega, fun h => ⟨by omega, by omega, fun h1 => ?_, fun h1 => ?_⟩⟩
      · rw [show newB M i = false by unfold newB; exact decide_eq_false (by omega), show b2i false = 0 from rfl, Int.add_zero] at ih2
        exact ih2
      · rw [show newB M i = true by unfold newB; exact decide_eq_true (by omega)] at ih2
        exact ih2
  refine wpx_ok hS bk156 (sp := sp156) 60 0 _ _ _ _ ?_
  simp only [LCM, B2, Bool.not_eq_false, Bool.not_eq_true, decide_eq_true_eq, decide_eq_false_iff_not, Int.not_lt, Int.not_le, CST, TN, WX, WA, WB, GS, LOC, BT156, SP156, CLS, FLD, ARR, CD, true_and, and_true, and_self, forall_const, true_implies, false_implies, implies_true, not_true_eq_false, not_false_eq_true, if_true, if_false, rgI, rgL, scr, swl, lkl, cats, cat, is2, List.drop_succ_cons, List.drop_zero, List.drop_nil, List.cons_append, List.nil_append, Option.toList_some, Option.toList_none, List.length_cons, List.length_nil, ne_eq, Classical.not_not, reduceCtorEq, Nat.reduceAdd, Nat.reduceSub, Nat.reduceMul, Nat.reduceLT, Nat.reduceLeDiff, Nat.reduceEqDiff, Nat.reduceBEq, Int.reduceToNat, Int.reduceLE, Int.reduceLT, Int.reduceEq, Int.reduceNeg, Int.reduceAdd, Int.reduceSub, Int.reduceMul, Int.toNat_natCast, Nat.zero_add, Int.add_zero, Nat.add_zero, ite_true, ite_false, Option.some.injEq, Nat.le_refl, or_true, true_or, or_false, false_or, if_pos, reduceIte, Nat.reduceGT]
  exact head (hN M) 0 (by omega)
def f_count (T : MM) (what : Int) : Int := if what = 0 then T 58 0 else if what = 1 then T 59 0 else if what = 2 then T 55 0 else if what = 3 then cnt (newB T) (hN T) else if what = 4 then T 55 11 else if what = 5 then T 55 15 else if what = 6 then PN T else -1
theorem m_count (what : Int) (M : MM) (hW : WFt M) (hw : rgI what) : oI 2 160 [vR 55, vI what] M (f_count M what) := by
  refine go160 (fun S hS => ?_)
  refine wpx_ok hS bk160 (sp := sp160) 60 0 _ _ _ _ ?_
  simp only [LCM, B2, Bool.not_eq_false, Bool.not_eq_true, decide_eq_true_eq, decide_eq_false_iff_not, Int.not_lt, Int.not_le, CST, TN, WX, WA, WB, GS, LOC, BT160, SP160, CLS, FLD, ARR, CD, true_and, and_true, and_self, forall_const, true_implies, false_implies, implies_true, not_true_eq_false, not_false_eq_true, if_true, if_false, rgI, rgL, scr, swl, lkl, cats, cat, is2, List.drop_succ_cons, List.drop_zero, List.drop_nil, List.cons_append, List.nil_append, Option.toList_some, Option.toList_none, List.length_cons, List.length_nil, ne_eq, Classical.not_not, reduceCtorEq, Nat.reduceAdd, Nat.reduceSub, Nat.reduceMul, Nat.reduceLT, Nat.reduceLeDiff, Nat.reduceEqDiff, Nat.reduceBEq, Int.reduceToNat, Int.reduceLE, Int.reduceLT, Int.reduceEq, Int.reduceNeg, Int.reduceAdd, Int.reduceSub, Int.reduceMul, Int.toNat_natCast, Nat.zero_add, Int.add_zero, Nat.add_zero, ite_true, ite_false, Option.some.injEq, Nat.le_refl, or_true, true_or, or_false, false_or, if_pos, reduceIte, Nat.reduceGT]
  refine ⟨hw, fun h => ?_, fun h => ?_, fun h => ?_, fun h => ?_, fun h => ?_, fun h => ?_, fun h => ?_, fun h => ?_⟩
  · refine rt160 ⟨rfl, ?_, rfl⟩
    unfold f_count
    rw [if_neg (by omega), if_neg (by omega), if_neg (by omega), if_neg (by omega), if_neg (by omega), if_neg (by omega), if_neg (by omega)]
  · subst h; exact rt160 ⟨rfl, rfl, rfl⟩
  · subst h; exact rt160 ⟨rfl, rfl, rfl⟩
  · subst h; exact rt160 ⟨rfl, rfl, rfl⟩
  · refine ⟨rcv_ok rfl own156 rfl, kI (m_newMany M hW) (Nat.le_of_ble_eq_true rfl) rfl rfl (Nat.le_of_ble_eq_true rfl) (Nat.le_of_ble_eq_true rfl) rfl ?_⟩
    refine wpx_ok hS bk160 (sp := sp160) 60 67 _ _ _ _ ?_
    simp only [LCM, B2, Bool.not_eq_false, Bool.not_eq_true, decide_eq_true_eq, decide_eq_false_iff_not, Int.not_lt, Int.not_le, CST, TN, WX, WA, WB, GS, LOC, BT160, SP160, CLS, FLD, ARR, CD, true_and, and_true, and_self, forall_const, true_implies, false_implies, implies_true, not_true_eq_false, not_false_eq_true, if_true, if_false, rgI, rgL, scr, swl, lkl, cats, cat, is2, List.drop_succ_cons, List.drop_zero, List.drop_nil, List.cons_append, List.nil_append, Option.toList_some, Option.toList_none, List.length_cons, List.length_nil, ne_eq, Classical.not_not, reduceCtorEq, Nat.reduceAdd, Nat.reduceSub, Nat.reduceMul, Nat.reduceLT, Nat.reduceLeDiff, Nat.reduceEqDiff, Nat.reduceBEq, Int.reduceToNat, Int.reduceLE, Int.reduceLT, Int.reduceEq, Int.reduceNeg, Int.reduceAdd, Int.reduceSub, Int.reduceMul, Int.toNat_natCast, Nat.zero_add, Int.add_zero, Nat.add_zero, ite_true, ite_false, Option.some.injEq, Nat.le_refl, or_true, true_or, or_false, false_or, if_pos, reduceIte, Nat.reduceGT]
    subst h; exact rt160 ⟨rfl, rfl, rfl⟩
  · subst h; exact rt160 ⟨rfl, rfl, rfl⟩
  · subst h; exact rt160 ⟨rfl, rfl, rfl⟩
  · refine ⟨rcv_ok rfl own119 rfl, kI (m_period M hW) (Nat.le_of_ble_eq_true rfl) rfl rfl (Nat.le_of_ble_eq_true rfl) (Nat.le_of_ble_eq_true rfl) rfl ?_⟩
    refine wpx_ok hS bk160 (sp := sp160) 60 82 _ _ _ _ ?_
    simp only [LCM, B2, Bool.not_eq_false, Bool.not_eq_true, decide_eq_true_eq, decide_eq_false_iff_not, Int.not_lt, Int.not_le, CST, TN, WX, WA, WB, GS, LOC, BT160, SP160, CLS, FLD, ARR, CD, true_and, and_true, and_self, forall_const, true_implies, false_implies, implies_true, not_true_eq_false, not_false_eq_true, if_true, if_false, rgI, rgL, scr, swl, lkl, cats, cat, is2, List.drop_succ_cons, List.drop_zero, List.drop_nil, List.cons_append, List.nil_append, Option.toList_some, Option.toList_none, List.length_cons, List.length_nil, ne_eq, Classical.not_not, reduceCtorEq, Nat.reduceAdd, Nat.reduceSub, Nat.reduceMul, Nat.reduceLT, Nat.reduceLeDiff, Nat.reduceEqDiff, Nat.reduceBEq, Int.reduceToNat, Int.reduceLE, Int.reduceLT, Int.reduceEq, Int.reduceNeg, Int.reduceAdd, Int.reduceSub, Int.reduceMul, Int.toNat_natCast, Nat.zero_add, Int.add_zero, Nat.add_zero, ite_true, ite_false, Option.some.injEq, Nat.le_refl, or_true, true_or, or_false, false_or, if_pos, reduceIte, Nat.reduceGT]
    subst h; exact rt160 ⟨rfl, rfl, rfl⟩
/-! the text -/
def WFx (T : MM) : Prop := 0 ≤ T 55 0 ∧ T 55 0 ≤ 400
def byt (v : Int) (k : Nat) : Int := bByt (bByt (lShr v (8 * (k : Int))))
/-- n bytes of v behind the text: the highest first -/
def g_wr (T : MM) (v : Int) : Nat → MM
  | 0 => T
  | n + 1 => g_wr (mset (mset T 56 (T 55 0).toNat (byt v n)) 55 0 (T 55 0 + 1)) v n
def f_write (T : MM) (n : Int) : Int := if 1 ≤ n ∧ n ≤ 8 then (if 400 < T 55 0 + n then -3 else T 55 0 + n) else -1
def g_write (T : MM) (n v : Int) : MM := if (1 ≤ n ∧ n ≤ 8) ∧ T 55 0 + n ≤ 400 then g_wr T v n.toNat else T
theorem m_write (n v : Int) (M : MM) (hX : WFx M) (hn : rgI n) : oQ 2 103 [vR 55, vI n, vL v] M (fun r M' => r = some (Sum.inl (f_write M n)) ∧ M' = g_write M n v) := by
  unfold WFx at hX
  refine go103 (fun S hS => ?_)
  refine wpx_ok hS bk103 (sp := sp103) 60 0 _ _ _ _ ?_
  simp only [LCM, B2, Bool.not_eq_false, Bool.not_eq_true, decide_eq_true_eq, decide_eq_false_iff_not, Int.not_lt, Int.not_le, CST, TN, WX, WA, WB, GS, LOC, BT103, SP103, CLS, FLD, ARR, CD, true_and, and_true, and_self, forall_const, true_implies, false_implies, implies_true, not_true_eq_false, not_false_eq_true, if_true, if_false, rgI, rgL, scr, swl, lkl, cats, cat, is2, List.drop_succ_cons, List.drop_zero, List.drop_nil, List.cons_append, List.nil_append, Option.toList_some, Option.toList_none, List.length_cons, List.length_nil, ne_eq, Classical.not_not, reduceCtorEq, Nat.reduceAdd, Nat.reduceSub, Nat.reduceMul, Nat.reduceLT, Nat.reduceLeDiff, Nat.reduceEqDiff, Nat.reduceBEq, Int.reduceToNat, Int.reduceLE, Int.reduceLT, Int.reduceEq, Int.reduceNeg, Int.reduceAdd, Int.reduceSub, Int.reduceMul, Int.toNat_natCast, Nat.zero_add, Int.add_zero, Nat.add_zero, ite_true, ite_false, Option.some.injEq, Nat.le_refl, or_true, true_or, or_false, false_or, if_pos, reduceIte, Nat.reduceGT]
  refine ⟨hn, ?_⟩
  refine kI (c_in n 1 8 M (by unfold rgL rgI at *; omega) (by unfold rgL; omega) (by unfold rgL; omega)) (Nat.le_of_ble_eq_true rfl) rfl rfl (Nat.le_of_ble_eq_true rfl) (Nat.le_of_ble_eq_true rfl) rfl ?_
  refine wpx_ok hS bk103 (sp := sp103) 60 9 _ _ _ _ ?_
  simp only [LCM, B2, Bool.not_eq_false, Bool.not_eq_true, decide_eq_true_eq, decide_eq_false_iff_not, Int.not_lt, Int.not_le, CST, TN, WX, WA, WB, GS, LOC, BT103, SP103, CLS, FLD, ARR, CD, true_and, and_true, and_self, forall_const, true_implies, false_implies, implies_true, not_true_eq_false, not_false_eq_true, if_true, if_false, rgI, rgL, scr, swl, lkl, cats, cat, is2, List.drop_succ_cons, List.drop_zero, List.drop_nil, List.cons_append, List.nil_append, Option.toList_some, Option.toList_none, List.length_cons, List.length_nil, ne_eq, Classical.not_not, reduceCtorEq, Nat.reduceAdd, Nat.reduceSub, Nat.reduceMul, Nat.reduceLT, Nat.reduceLeDiff, Nat.reduceEqDiff, Nat.reduceBEq, Int.reduceToNat, Int.reduceLE, Int.reduceLT, Int.reduceEq, Int.reduceNeg, Int.reduceAdd, Int.reduceSub, Int.reduceMul, Int.toNat_natCast, Nat.zero_add, Int.add_zero, Nat.add_zero, ite_true, ite_false, Option.some.injEq, Nat.le_refl, or_true, true_or, or_false, false_or, if_pos, reduceIte, Nat.reduceGT]
  refine ⟨fun h => ⟨by omega, fun h1 => ?_, fun h1 => ?_⟩, fun h => ?_⟩
  · have head : ∀ (k : Nat) (N : MM), 0 ≤ N 55 0 → N 55 0 + k = M 55 0 + n → g_wr N v k = g_write M n v → S 34 [some (vR 55), some (vI n), some (vL v), none, some (vI ((k : Int) - 1))] [] (sh0, 0, 0) N := by
      intro k
      induction k with
      | zero =>
        intro N hN0 hN1 hg
        refine wpx_ok hS bk103 (sp := sp103) 60 34 _ _ _ _ ?_
        simp only [LCM, B2, Bool.not_eq_false, Bool.not_eq_true, decide_eq_true_eq, decide_eq_false_iff_not, Int.not_lt, Int.not_le, CST, TN, WX, WA, WB, GS, LOC, BT103, SP103, CLS, FLD, ARR, CD, true_and, and_true, and_self, forall_const, true_implies, false_implies, implies_true, not_true_eq_false, not_false_eq_true, if_true, if_false, rgI, rgL, scr, swl, lkl, cats, cat, is2, List.drop_succ_cons, List.drop_zero, List.drop_nil, List.cons_append, List.nil_append, Option.toList_some, Option.toList_none, List.length_cons, List.length_nil, ne_eq, Classical.not_not, reduceCtorEq, Nat.reduceAdd, Nat.reduceSub, Nat.reduceMul, Nat.reduceLT, Nat.reduceLeDiff, Nat.reduceEqDiff, Nat.reduceBEq, Int.reduceToNat, Int.reduceLE, Int.reduceLT, Int.reduceEq, Int.reduceNeg, Int.reduceAdd, Int.reduceSub, Int.reduceMul, Int.toNat_natCast, Nat.zero_add, Int.add_zero, Nat.add_zero, ite_true, ite_false, Option.some.injEq, Nat.le_refl, or_true, true_or, or_false, false_or, if_pos, reduceIte, Nat.reduceGT]
        refine rt103 ⟨rfl, ?_, hg⟩
        unfold f_write
        rw [if_pos h, if_neg (by omega)]
        congr 2
        omega
      | succ k ih =>
        intro N hN0 hN1 hg
        rw [g_wr] at hg
        have := ih _ (by rw [ms_eq]; omega) (by rw [ms_eq]; omega) hg
        refine wpx_ok hS bk103 (sp := sp103) 60 34 _ _ _ _ ?_
        simp only [LCM, B2, Bool.not_eq_false, Bool.not_eq_true, decide_eq_true_eq, decide_eq_false_iff_not, Int.not_lt, Int.not_le, CST, TN, WX, WA, WB, GS, LOC, BT103, SP103, CLS, FLD, ARR, CD, true_and, and_true, and_self, forall_const, true_implies, false_implies, implies_true, not_true_eq_false, not_false_eq_true, if_true, if_false, rgI, rgL, scr, swl, lkl, cats, cat, is2, List.drop_succ_cons, List.drop_zero, List.drop_nil, List.cons_append, List.nil_append, Option.toList_some, Option.toList_none, List.length_cons, List.length_nil, ne_eq, Classical.not_not, reduceCtorEq, Nat.reduceAdd, Nat.reduceSub, Nat.reduceMul, Nat.reduceLT, Nat.reduceLeDiff, Nat.reduceEqDiff, Nat.reduceBEq, Int.reduceToNat, Int.reduceLE, Int.reduceLT, Int.reduceEq, Int.reduceNeg, Int.reduceAdd, Int.reduceSub, Int.reduceMul, Int.toNat_natCast, Nat.zero_add, Int.add_zero, Nat.add_zero, ite_true, ite_false, Option.some.injEq, Nat.le_refl, or_true, true_or, or_false, false_or, if_pos, reduceIte, Nat.reduceGT, ms_ne, ms_eq, ms_nj]
        refine ⟨by omega, fun h2 => by omega, fun h2 => ⟨by omega, ?_⟩⟩
        rw [show ((k + 1 : Nat) : Int) - 1 = (k : Int) by omega, show bByt (bByt (lShr v (8 * (k : Int)))) = byt v k from rfl]
        exact this
    obtain ⟨m, rfl⟩ : ∃ m : Nat, n = (m : Int) := ⟨n.toNat, by omega⟩
    exact head m M (by omega) rfl (by unfold g_write; rw [if_pos ⟨h, h1⟩, Int.toNat_natCast])
  · exact rt103 ⟨rfl, by unfold f_write; rw [if_pos h, if_pos (by omega)], by unfold g_write; rw [if_neg (by omega)]⟩
  · exact rt103 ⟨rfl, by unfold f_write; rw [if_neg h], by unfold g_write; rw [if_neg (fun z => h z.1)]⟩

theorem x_shortDaysWed (i j b o : Nat) (M T : MM) (hC : RC M T) (hW : WFt T) (hi : i < hN T) (hj : j < hN T) (hij : i ≠ j) (hbo : (b = i ∧ o = j) ∨ (b = j ∧ o = i)) :
    oQ 4 91 [vR 0, vI i, vI j, vI b] M (fun r M' => r = some (Sum.inl (daysN (g_wedN T b o))) ∧ ∀ k j, ¬ ro k → M' k j = M k j) := by
  have hH := hW.H
  have hP := hW.P
  have hb : b < hN T := by omega
  have g := wedN_SW T b o
  have hW' : WFt (g_wedN T b o) := wedN_WF hW hb
  have hs := hW.hs hb
  have hl := hW.ln hb
  have hcr := fun n => cnt_rg (fun d => anyS (g_wedN T b o) d) n
  obtain ⟨wk, hwk⟩ : ∃ x : Nat, T 61 (4 * b) = (x : Int) := ⟨(T 61 (4 * b)).toNat, by omega⟩
  obtain ⟨rs, hrs⟩ : ∃ x : Nat, T 61 (4 * b + 1) = (x : Int) := ⟨(T 61 (4 * b + 1)).toNat, by omega⟩
  have hm : bOr (bShl 1 (i : Int)) (bShl 1 (j : Int)) = mk (fun x => x == i || x == j) := by rw [mk_one (by omega), mk_put (by omega)]
  have at_i : (if i = o then b else i) = b := by split <;> omega
  have at_j : (if j = o then b else j) = b := by split <;> omega
  have wi : g_wedN T b o 61 (4 * i) = wk ∧ g_wedN T b o 61 (4 * i + 1) = rs := by
    rw [(wedN_at T b o i).1, (wedN_at T b o i).2, at_i]
    exact ⟨hwk, hrs⟩
  have wj : g_wedN T b o 61 (4 * j) = wk ∧ g_wedN T b o 61 (4 * j + 1) = rs := by
    rw [(wedN_at T b o j).1, (wedN_at T b o j).2, at_j]
    exact ⟨hwk, hrs⟩
  refine go91 (fun S hS => ?_)
  refine wpx_ok hS bk91 (sp := sp91) 60 0 _ _ _ _ ?_
  simp only [LCM, B2, Bool.not_eq_false, Bool.not_eq_true, decide_eq_true_eq, decide_eq_false_iff_not, Int.not_lt, Int.not_le, CST, TN, WX, WA, WB, GS, LOC, BT91, SP91, CLS, FLD, ARR, CD, true_and, and_true, and_self, forall_const, true_implies, false_implies, implies_true, not_true_eq_false, not_false_eq_true, if_true, if_false, rgI, rgL, scr, swl, lkl, cats, cat, is2, List.drop_succ_cons, List.drop_zero, List.drop_nil, List.cons_append, List.nil_append, Option.toList_some, Option.toList_none, List.length_cons, List.length_nil, ne_eq, Classical.not_not, reduceCtorEq, Nat.reduceAdd, Nat.reduceSub, Nat.reduceMul, Nat.reduceLT, Nat.reduceLeDiff, Nat.reduceEqDiff, Nat.reduceBEq, Int.reduceToNat, Int.reduceLE, Int.reduceLT, Int.reduceEq, Int.reduceNeg, Int.reduceAdd, Int.reduceSub, Int.reduceMul, Int.toNat_natCast, Nat.zero_add, Int.add_zero, Nat.add_zero, ite_true, ite_false, Option.some.injEq, Nat.le_refl, or_true, true_or, or_false, false_or, if_pos, reduceIte, Nat.reduceGT]
  rw [hm]
  refine ⟨rcv_ok rfl own21 rfl, kQ (x_fill (fun x => x == i || x == j) M T hW hC) (Nat.le_of_ble_eq_true rfl) rfl rfl (Nat.le_of_ble_eq_true rfl) (Nat.le_of_ble_eq_true rfl) rfl ?_⟩
  rintro r N ⟨rfl, hO, hF⟩
  have hC1 : RC N T := hC.keep (fun k j h1 h2 => hF k j (by unfold ro; omega))
  have hO1 : RO N (g_wedN T b o) (fun x => pH T x && !(x == i || x == j)) := by
    refine hO.town rfl rfl (fun x _ hx => ?_)
    simp only [Bool.and_eq_true, Bool.not_eq_true', Bool.or_eq_false_iff, beq_eq_false_iff_ne] at hx
    rw [(wedN_at T b o x).1, (wedN_at T b o x).2, if_neg (by omega)]
    exact ⟨rfl, rfl⟩
  have bx := hC1.2.2.2.2.1 b hb
  refine wpx_ok hS bk91 (sp := sp91) 60 22 _ _ _ _ ?_
  simp only [LCM, B2, Bool.not_eq_false, Bool.not_eq_true, decide_eq_true_eq, decide_eq_false_iff_not, Int.not_lt, Int.not_le, CST, TN, WX, WA, WB, GS, LOC, BT91, SP91, CLS, FLD, ARR, CD, true_and, and_true, and_self, forall_const, true_implies, false_implies, implies_true, not_true_eq_false, not_false_eq_true, if_true, if_false, rgI, rgL, scr, swl, lkl, cats, cat, is2, List.drop_succ_cons, List.drop_zero, List.drop_nil, List.cons_append, List.nil_append, Option.toList_some, Option.toList_none, List.length_cons, List.length_nil, ne_eq, Classical.not_not, reduceCtorEq, Nat.reduceAdd, Nat.reduceSub, Nat.reduceMul, Nat.reduceLT, Nat.reduceLeDiff, Nat.reduceEqDiff, Nat.reduceBEq, Int.reduceToNat, Int.reduceLE, Int.reduceLT, Int.reduceEq, Int.reduceNeg, Int.reduceAdd, Int.reduceSub, Int.reduceMul, Int.toNat_natCast, Nat.zero_add, Int.add_zero, Nat.add_zero, ite_true, ite_false, Option.some.injEq, Nat.le_refl, or_true, true_or, or_false, false_or, if_pos, reduceIte, Nat.reduceGT]
  rw [bx.1, bx.2, hwk, hrs]
  refine ⟨by omega, by omega, ?_⟩
  refine ⟨rcv_ok rfl own22 rfl, kV (x_put i wk rs N (by omega) (by omega)) (Nat.le_of_ble_eq_true rfl) rfl rfl (Nat.le_of_ble_eq_true rfl) (Nat.le_of_ble_eq_true rfl) rfl ?_⟩
  have hO2 := hO1.put (by omega) (by omega) (by omega) wi.1 wi.2
  generalize hN1 : mset N (35 + wk) rs (bOr (N (35 + wk) rs) (bShl 1 i)) = N1 at hO2 ⊢
  have hF1 : ∀ k x, ¬ ro k → N1 k x = M k x := fun k x hk => by
    rw [← hN1, ms_ne (by unfold ro at hk; omega)]
    exact hF k x hk
  have hC2 : RC N1 T := hC.keep (fun k j h1 h2 => hF1 k j (by unfold ro; omega))
  have bx2 := hC2.2.2.2.2.1 b hb
  refine wpx_ok hS bk91 (sp := sp91) 60 48 _ _ _ _ ?_
  simp only [LCM, B2, Bool.not_eq_false, Bool.not_eq_true, decide_eq_true_eq, decide_eq_false_iff_not, Int.not_lt, Int.not_le, CST, TN, WX, WA, WB, GS, LOC, BT91, SP91, CLS, FLD, ARR, CD, true_and, and_true, and_self, forall_const, true_implies, false_implies, implies_true, not_true_eq_false, not_false_eq_true, if_true, if_false, rgI, rgL, scr, swl, lkl, cats, cat, is2, List.drop_succ_cons, List.drop_zero, List.drop_nil, List.cons_append, List.nil_append, Option.toList_some, Option.toList_none, List.length_cons, List.length_nil, ne_eq, Classical.not_not, reduceCtorEq, Nat.reduceAdd, Nat.reduceSub, Nat.reduceMul, Nat.reduceLT, Nat.reduceLeDiff, Nat.reduceEqDiff, Nat.reduceBEq, Int.reduceToNat, Int.reduceLE, Int.reduceLT, Int.reduceEq, Int.reduceNeg, Int.reduceAdd, Int.reduceSub, Int.reduceMul, Int.toNat_natCast, Nat.zero_add, Int.add_zero, Nat.add_zero, ite_true, ite_false, Option.some.injEq, Nat.le_refl, or_true, true_or, or_false, false_or, if_pos, reduceIte, Nat.reduceGT]
  rw [bx2.1, bx2.2, hwk, hrs]
  refine ⟨by omega, by omega, ?_⟩
  refine ⟨rcv_ok rfl own22 rfl, kV (x_put j wk rs N1 (by omega) (by omega)) (Nat.le_of_ble_eq_true rfl) rfl rfl (Nat.le_of_ble_eq_true rfl) (Nat.le_of_ble_eq_true rfl) rfl ?_⟩
  have hO3 := hO2.put (by omega) (by omega) (by omega) wj.1 wj.2
  generalize hN2 : mset N1 (35 + wk) rs (bOr (N1 (35 + wk) rs) (bShl 1 j)) = N2 at hO3 ⊢
  have hF2 : ∀ k x, ¬ ro k → N2 k x = M k x := fun k x hk => by
    rw [← hN2, ms_ne (by unfold ro at hk; omega)]
    exact hF1 k x hk
  have hC3 : RC N2 T := hC.keep (fun k j h1 h2 => hF2 k j (by unfold ro; omega))
  have hO4 : RO N2 (g_wedN T b o) (pH (g_wedN T b o)) := by
    refine hO3.eqp (fun x _ => ?_)
    rw [g.eA]
    by_cases hxi : x = i
    · subst hxi; unfold pH; rw [decide_eq_true hi]; simp
    · by_cases hxj : x = j
      · subst hxj; unfold pH; rw [decide_eq_true hj]; simp
      · have b1 : (x == i) = false := beq_eq_false_iff_ne.mpr hxi
        have b2 : (x == j) = false := beq_eq_false_iff_ne.mpr hxj
        simp [b1, b2]
  have hshR : ∀ r w, shR T r w = shR (g_wedN T b o) r w := by
    intro r w
    unfold shR
    rw [show g_wedN T b o 63 (3 * w) = T 63 (3 * w) from rfl, show g_wedN T b o 63 (3 * w + 1) = T 63 (3 * w + 1) from rfl, show skP (g_wedN T b o) (T 63 (3 * w)).toNat = skP T (T 63 (3 * w)).toNat from funext (fun x => g.eK (T 63 (3 * w)).toNat x)]
  have head : ∀ (n d : Nat), d + n = PN T → S 89 [some (vR 0), some (vI i), some (vI j), some (vI b), some (vI (PN T)), some (vI (cnt (fun d => anyS (g_wedN T b o) d) d)), some (vI d)] [] (sh0, 0, 0) N2 := by
    intro n
    induction n with
    | zero =>
      intro d hd
      refine wpx_ok hS bk91 (sp := sp91) 60 89 _ _ _ _ ?_
      simp only [LCM, B2, Bool.not_eq_false, Bool.not_eq_true, decide_eq_true_eq, decide_eq_false_iff_not, Int.not_lt, Int.not_le, CST, TN, WX, WA, WB, GS, LOC, BT91, SP91, CLS, FLD, ARR, CD, true_and, and_true, and_self, forall_const, true_implies, false_implies, implies_true, not_true_eq_false, not_false_eq_true, if_true, if_false, rgI, rgL, scr, swl, lkl, cats, cat, is2, List.drop_succ_cons, List.drop_zero, List.drop_nil, List.cons_append, List.nil_append, Option.toList_some, Option.toList_none, List.length_cons, List.length_nil, ne_eq, Classical.not_not, reduceCtorEq, Nat.reduceAdd, Nat.reduceSub, Nat.reduceMul, Nat.reduceLT, Nat.reduceLeDiff, Nat.reduceEqDiff, Nat.reduceBEq, Int.reduceToNat, Int.reduceLE, Int.reduceLT, Int.reduceEq, Int.reduceNeg, Int.reduceAdd, Int.reduceSub, Int.reduceMul, Int.toNat_natCast, Nat.zero_add, Int.add_zero, Nat.add_zero, ite_true, ite_false, Option.some.injEq, Nat.le_refl, or_true, true_or, or_false, false_or, if_pos, reduceIte, Nat.reduceGT]
      refine ⟨by omega, fun h => rt91 ⟨rfl, ?_, hF2⟩, fun h => by omega⟩
      unfold daysN
      rw [show PN (g_wedN T b o) = PN T from rfl, show d = PN T by omega]
    | succ n ih =>
      intro d hd
      have ih2 := ih (d + 1) (by omega)
      rw [show cnt (fun d => anyS (g_wedN T b o) d) (d + 1) = cnt (fun d => anyS (g_wedN T b o) d) d + b2i (anyS (g_wedN T b o) d) from rfl] at ih2
      refine wpx_ok hS bk91 (sp := sp91) 60 89 _ _ _ _ ?_
      simp only [LCM, B2, Bool.not_eq_false, Bool.not_eq_true, decide_eq_true_eq, decide_eq_false_iff_not, Int.not_lt, Int.not_le, CST, TN, WX, WA, WB, GS, LOC, BT91, SP91, CLS, FLD, ARR, CD, true_and, and_true, and_self, forall_const, true_implies, false_implies, implies_true, not_true_eq_false, not_false_eq_true, if_true, if_false, rgI, rgL, scr, swl, lkl, cats, cat, is2, List.drop_succ_cons, List.drop_zero, List.drop_nil, List.cons_append, List.nil_append, Option.toList_some, Option.toList_none, List.length_cons, List.length_nil, ne_eq, Classical.not_not, reduceCtorEq, Nat.reduceAdd, Nat.reduceSub, Nat.reduceMul, Nat.reduceLT, Nat.reduceLeDiff, Nat.reduceEqDiff, Nat.reduceBEq, Int.reduceToNat, Int.reduceLE, Int.reduceLT, Int.reduceEq, Int.reduceNeg, Int.reduceAdd, Int.reduceSub, Int.reduceMul, Int.toNat_natCast, Nat.zero_add, Int.add_zero, Nat.add_zero, ite_true, ite_false, Option.some.injEq, Nat.le_refl, or_true, true_or, or_false, false_or, if_pos, reduceIte, Nat.reduceGT]
      refine ⟨by omega, fun h => by omega, fun h => ⟨by omega, ?_⟩⟩
      refine ⟨rcv_ok rfl own24 rfl, kI (x_restingOn d N2 (g_wedN T b o) (pH (g_wedN T b o)) hW' hO4 (fun i h => of_decide_eq_true h) (by omega)) (Nat.le_of_ble_eq_true rfl) rfl rfl (Nat.le_of_ble_eq_true rfl) (Nat.le_of_ble_eq_true rfl) rfl ?_⟩
      refine wpx_ok hS bk91 (sp := sp91) 60 107 _ _ _ _ ?_
      simp only [LCM, B2, Bool.not_eq_false, Bool.not_eq_true, decide_eq_true_eq, decide_eq_false_iff_not, Int.not_lt, Int.not_le, CST, TN, WX, WA, WB, GS, LOC, BT91, SP91, CLS, FLD, ARR, CD, true_and, and_true, and_self, forall_const, true_implies, false_implies, implies_true, not_true_eq_false, not_false_eq_true, if_true, if_false, rgI, rgL, scr, swl, lkl, cats, cat, is2, List.drop_succ_cons, List.drop_zero, List.drop_nil, List.cons_append, List.nil_append, Option.toList_some, Option.toList_none, List.length_cons, List.length_nil, ne_eq, Classical.not_not, reduceCtorEq, Nat.reduceAdd, Nat.reduceSub, Nat.reduceMul, Nat.reduceLT, Nat.reduceLeDiff, Nat.reduceEqDiff, Nat.reduceBEq, Int.reduceToNat, Int.reduceLE, Int.reduceLT, Int.reduceEq, Int.reduceNeg, Int.reduceAdd, Int.reduceSub, Int.reduceMul, Int.toNat_natCast, Nat.zero_add, Int.add_zero, Nat.add_zero, ite_true, ite_false, Option.some.injEq, Nat.le_refl, or_true, true_or, or_false, false_or, if_pos, reduceIte, Nat.reduceGT]
      refine ⟨rcv_ok rfl own85 rfl, kI (x_firstShort (fun i => pH (g_wedN T b o) i && rsB (g_wedN T b o) d i) N2 T hW hC3) (Nat.le_of_ble_eq_true rfl) rfl rfl (Nat.le_of_ble_eq_true rfl) (Nat.le_of_ble_eq_true rfl) rfl ?_⟩
      have e1 : fstF (shR T (fun i => pH (g_wedN T b o) i && rsB (g_wedN T b o) d i)) 0 (wN T) = shO (g_wedN T b o) d := by
        rw [← fst_shO hW']
        rw [show wN (g_wedN T b o) = wN T from rfl]
        refine fstF_eq (fun w _ _ => hshR _ w)
      rw [e1]
      have hz := oZ_shO (T := g_wedN T b o) d
      have hr := shO_rg4 (d := (d : Int)) hW'
      refine wpx_ok hS bk91 (sp := sp91) 60 110 _ _ _ _ ?_
      simp only [LCM, B2, Bool.not_eq_false, Bool.not_eq_true, decide_eq_true_eq, decide_eq_false_iff_not, Int.not_lt, Int.not_le, CST, TN, WX, WA, WB, GS, LOC, BT91, SP91, CLS, FLD, ARR, CD, true_and, and_true, and_self, forall_const, true_implies, false_implies, implies_true, not_true_eq_false, not_false_eq_true, if_true, if_false, rgI, rgL, scr, swl, lkl, cats, cat, is2, List.drop_succ_cons, List.drop_zero, List.drop_nil, List.cons_append, List.nil_append, Option.toList_some, Option.toList_none, List.length_cons, List.length_nil, ne_eq, Classical.not_not, reduceCtorEq, Nat.reduceAdd, Nat.reduceSub, Nat.reduceMul, Nat.reduceLT, Nat.reduceLeDiff, Nat.reduceEqDiff, Nat.reduceBEq, Int.reduceToNat, Int.reduceLE, Int.reduceLT, Int.reduceEq, Int.reduceNeg, Int.reduceAdd, Int.reduceSub, Int.reduceMul, Int.toNat_natCast, Nat.zero_add, Int.add_zero, Nat.add_zero, ite_true, ite_false, Option.some.injEq, Nat.le_refl, or_true, true_or, or_false, false_or, if_pos, reduceIte, Nat.reduceGT]
      refine ⟨by omega, fun h1 => ?_, fun h1 => ?_⟩
      · rw [hz.1.mp h1, show b2i false = 0 from rfl, Int.add_zero] at ih2
        exact ih2
      · have h2 : anyS (g_wedN T b o) d = true := by
          cases hq : anyS (g_wedN T b o) d with
          | true => rfl
          | false => exact absurd (hz.1.mpr hq) h1
        rw [h2] at ih2
        exact ih2
  refine wpx_ok hS bk91 (sp := sp91) 60 74 _ _ _ _ ?_
  simp only [LCM, B2, Bool.not_eq_false, Bool.not_eq_true, decide_eq_true_eq, decide_eq_false_iff_not, Int.not_lt, Int.not_le, CST, TN, WX, WA, WB, GS, LOC, BT91, SP91, CLS, FLD, ARR, CD, true_and, and_true, and_self, forall_const, true_implies, false_implies, implies_true, not_true_eq_false, not_false_eq_true, if_true, if_false, rgI, rgL, scr, swl, lkl, cats, cat, is2, List.drop_succ_cons, List.drop_zero, List.drop_nil, List.cons_append, List.nil_append, Option.toList_some, Option.toList_none, List.length_cons, List.length_nil, ne_eq, Classical.not_not, reduceCtorEq, Nat.reduceAdd, Nat.reduceSub, Nat.reduceMul, Nat.reduceLT, Nat.reduceLeDiff, Nat.reduceEqDiff, Nat.reduceBEq, Int.reduceToNat, Int.reduceLE, Int.reduceLT, Int.reduceEq, Int.reduceNeg, Int.reduceAdd, Int.reduceSub, Int.reduceMul, Int.toNat_natCast, Nat.zero_add, Int.add_zero, Nat.add_zero, ite_true, ite_false, Option.some.injEq, Nat.le_refl, or_true, true_or, or_false, false_or, if_pos, reduceIte, Nat.reduceGT]
  refine ⟨rcv_ok rfl own31 rfl, kI (x_period N2 T hC3 hW) (Nat.le_of_ble_eq_true rfl) rfl rfl (Nat.le_of_ble_eq_true rfl) (Nat.le_of_ble_eq_true rfl) rfl ?_⟩
  refine wpx_ok hS bk91 (sp := sp91) 60 81 _ _ _ _ ?_
  simp only [LCM, B2, Bool.not_eq_false, Bool.not_eq_true, decide_eq_true_eq, decide_eq_false_iff_not, Int.not_lt, Int.not_le, CST, TN, WX, WA, WB, GS, LOC, BT91, SP91, CLS, FLD, ARR, CD, true_and, and_true, and_self, forall_const, true_implies, false_implies, implies_true, not_true_eq_false, not_false_eq_true, if_true, if_false, rgI, rgL, scr, swl, lkl, cats, cat, is2, List.drop_succ_cons, List.drop_zero, List.drop_nil, List.cons_append, List.nil_append, Option.toList_some, Option.toList_none, List.length_cons, List.length_nil, ne_eq, Classical.not_not, reduceCtorEq, Nat.reduceAdd, Nat.reduceSub, Nat.reduceMul, Nat.reduceLT, Nat.reduceLeDiff, Nat.reduceEqDiff, Nat.reduceBEq, Int.reduceToNat, Int.reduceLE, Int.reduceLT, Int.reduceEq, Int.reduceNeg, Int.reduceAdd, Int.reduceSub, Int.reduceMul, Int.toNat_natCast, Nat.zero_add, Int.add_zero, Nat.add_zero, ite_true, ite_false, Option.some.injEq, Nat.le_refl, or_true, true_or, or_false, false_or, if_pos, reduceIte, Nat.reduceGT]
  exact head (PN T) 0 (by omega)
theorem x_wedding (i j what : Int) (M T : MM) (hW : WFt T) (hC : RC M T) (hi : rgI i) (hj : rgI j) (hw : rgI what) : oQ 5 61 [vR 0, vI i, vI j, vI what] M (fun r M' => r = some (Sum.inl (f_wedding T i j what)) ∧ kC M M') := by
  have hH := hW.H
  refine go61 (fun S hS => ?_)
  refine wpx_ok hS bk61 (sp := sp61) 60 0 _ _ _ _ ?_
  simp only [LCM, B2, Bool.not_eq_false, Bool.not_eq_true, decide_eq_true_eq, decide_eq_false_iff_not, Int.not_lt, Int.not_le, CST, TN, WX, WA, WB, GS, LOC, BT61, SP61, CLS, FLD, ARR, CD, true_and, and_true, and_self, forall_const, true_implies, false_implies, implies_true, not_true_eq_false, not_false_eq_true, if_true, if_false, rgI, rgL, scr, swl, lkl, cats, cat, is2, List.drop_succ_cons, List.drop_zero, List.drop_nil, List.cons_append, List.nil_append, Option.toList_some, Option.toList_none, List.length_cons, List.length_nil, ne_eq, Classical.not_not, reduceCtorEq, Nat.reduceAdd, Nat.reduceSub, Nat.reduceMul, Nat.reduceLT, Nat.reduceLeDiff, Nat.reduceEqDiff, Nat.reduceBEq, Int.reduceToNat, Int.reduceLE, Int.reduceLT, Int.reduceEq, Int.reduceNeg, Int.reduceAdd, Int.reduceSub, Int.reduceMul, Int.toNat_natCast, Nat.zero_add, Int.add_zero, Nat.add_zero, ite_true, ite_false, Option.some.injEq, Nat.le_refl, or_true, true_or, or_false, false_or, if_pos, reduceIte, Nat.reduceGT]
  refine ⟨rcv_ok rfl own72 rfl, kI (x_isHouse i M T hC hW hi) (Nat.le_of_ble_eq_true rfl) rfl rfl (Nat.le_of_ble_eq_true rfl) (Nat.le_of_ble_eq_true rfl) rfl ?_⟩
  refine wpx_ok hS bk61 (sp := sp61) 60 5 _ _ _ _ ?_
  simp only [LCM, B2, Bool.not_eq_false, Bool.not_eq_true, decide_eq_true_eq, decide_eq_false_iff_not, Int.not_lt, Int.not_le, CST, TN, WX, WA, WB, GS, LOC, BT61, SP61, CLS, FLD, ARR, CD, true_and, and_true, and_self, forall_const, true_implies, false_implies, implies_true, not_true_eq_false, not_false_eq_true, if_true, if_false, rgI, rgL, scr, swl, lkl, cats, cat, is2, List.drop_succ_cons, List.drop_zero, List.drop_nil, List.cons_append, List.nil_append, Option.toList_some, Option.toList_none, List.length_cons, List.length_nil, ne_eq, Classical.not_not, reduceCtorEq, Nat.reduceAdd, Nat.reduceSub, Nat.reduceMul, Nat.reduceLT, Nat.reduceLeDiff, Nat.reduceEqDiff, Nat.reduceBEq, Int.reduceToNat, Int.reduceLE, Int.reduceLT, Int.reduceEq, Int.reduceNeg, Int.reduceAdd, Int.reduceSub, Int.reduceMul, Int.toNat_natCast, Nat.zero_add, Int.add_zero, Nat.add_zero, ite_true, ite_false, Option.some.injEq, Nat.le_refl, or_true, true_or, or_false, false_or, if_pos, reduceIte, Nat.reduceGT]
  refine ⟨fun h => ?_, fun h => ?_⟩
  · have hk : okWed T i j = false := by unfold okWed; exact decide_eq_false (fun z => h z.1)
    exact rt61 ⟨rfl, by unfold f_wedding; rw [hk]; rfl, kC.rf M⟩
  refine ⟨rcv_ok rfl own72 rfl, kI (x_isHouse j M T hC hW hj) (Nat.le_of_ble_eq_true rfl) rfl rfl (Nat.le_of_ble_eq_true rfl) (Nat.le_of_ble_eq_true rfl) rfl ?_⟩
  refine wpx_ok hS bk61 (sp := sp61) 60 13 _ _ _ _ ?_
  simp only [LCM, B2, Bool.not_eq_false, Bool.not_eq_true, decide_eq_true_eq, decide_eq_false_iff_not, Int.not_lt, Int.not_le, CST, TN, WX, WA, WB, GS, LOC, BT61, SP61, CLS, FLD, ARR, CD, true_and, and_true, and_self, forall_const, true_implies, false_implies, implies_true, not_true_eq_false, not_false_eq_true, if_true, if_false, rgI, rgL, scr, swl, lkl, cats, cat, is2, List.drop_succ_cons, List.drop_zero, List.drop_nil, List.cons_append, List.nil_append, Option.toList_some, Option.toList_none, List.length_cons, List.length_nil, ne_eq, Classical.not_not, reduceCtorEq, Nat.reduceAdd, Nat.reduceSub, Nat.reduceMul, Nat.reduceLT, Nat.reduceLeDiff, Nat.reduceEqDiff, Nat.reduceBEq, Int.reduceToNat, Int.reduceLE, Int.reduceLT, Int.reduceEq, Int.reduceNeg, Int.reduceAdd, Int.reduceSub, Int.reduceMul, Int.toNat_natCast, Nat.zero_add, Int.add_zero, Nat.add_zero, ite_true, ite_false, Option.some.injEq, Nat.le_refl, or_true, true_or, or_false, false_or, if_pos, reduceIte, Nat.reduceGT]
  refine ⟨fun h1 => ?_, fun h1 => ?_⟩
  · have hk : okWed T i j = false := by unfold okWed; exact decide_eq_false (fun z => h1 z.2.1)
    exact rt61 ⟨rfl, by unfold f_wedding; rw [hk]; rfl, kC.rf M⟩
  refine ⟨⟨hi, hj⟩, fun h2 => ?_, fun h2 => ⟨hw, fun h3 => ?_, fun h3 => ⟨hw, fun h4 => ?_, fun h4 => ?_⟩⟩⟩
  · have hk : okWed T i j = false := by unfold okWed; exact decide_eq_false (fun z => z.2.2 h2)
    exact rt61 ⟨rfl, by unfold f_wedding; rw [hk]; rfl, kC.rf M⟩
  · exact rt61 ⟨rfl, by unfold f_wedding; rw [if_neg (by omega)], kC.rf M⟩
  · have hk : okWed T i j = true := by unfold okWed; exact decide_eq_true ⟨h, h1, h2⟩
    obtain ⟨n, rfl⟩ : ∃ n : Nat, i = (n : Int) := ⟨i.toNat, by omega⟩
    obtain ⟨k, rfl⟩ : ∃ k : Nat, j = (k : Int) := ⟨j.toNat, by omega⟩
    have hval : f_wedding T n k what = (if what = 0 then min (daysN (g_wedN T n k)) (daysN (g_wedN T k n)) else if daysN (g_wedN T k n) < daysN (g_wedN T n k) then 1 else 0) := by
      unfold f_wedding
      rw [if_pos ⟨hk, by omega⟩]
      rfl
    have r1 := daysN_rg (wedN_WF (j := k) hW (show n < hN T by omega))
    have r2 := daysN_rg (wedN_WF (j := n) hW (show k < hN T by omega))
    refine ⟨rcv_ok rfl own91 rfl, kQ (x_shortDaysWed n k n k M T hC hW (by omega) (by omega) (by omega) (Or.inl ⟨rfl, rfl⟩)) (Nat.le_of_ble_eq_true rfl) rfl rfl (Nat.le_of_ble_eq_true rfl) (Nat.le_of_ble_eq_true rfl) rfl ?_⟩
    rintro v N ⟨rfl, hF⟩
    have hC1 : RC N T := hC.keep (fun k j h1 h2 => hF k j (by unfold ro; omega))
    refine wpx_ok hS bk61 (sp := sp61) 60 39 _ _ _ _ ?_
    simp only [LCM, B2, Bool.not_eq_false, Bool.not_eq_true, decide_eq_true_eq, decide_eq_false_iff_not, Int.not_lt, Int.not_le, CST, TN, WX, WA, WB, GS, LOC, BT61, SP61, CLS, FLD, ARR, CD, true_and, and_true, and_self, forall_const, true_implies, false_implies, implies_true, not_true_eq_false, not_false_eq_true, if_true, if_false, rgI, rgL, scr, swl, lkl, cats, cat, is2, List.drop_succ_cons, List.drop_zero, List.drop_nil, List.cons_append, List.nil_append, Option.toList_some, Option.toList_none, List.length_cons, List.length_nil, ne_eq, Classical.not_not, reduceCtorEq, Nat.reduceAdd, Nat.reduceSub, Nat.reduceMul, Nat.reduceLT, Nat.reduceLeDiff, Nat.reduceEqDiff, Nat.reduceBEq, Int.reduceToNat, Int.reduceLE, Int.reduceLT, Int.reduceEq, Int.reduceNeg, Int.reduceAdd, Int.reduceSub, Int.reduceMul, Int.toNat_natCast, Nat.zero_add, Int.add_zero, Nat.add_zero, ite_true, ite_false, Option.some.injEq, Nat.le_refl, or_true, true_or, or_false, false_or, if_pos, reduceIte, Nat.reduceGT]
    refine ⟨rcv_ok rfl own91 rfl, kQ (x_shortDaysWed n k k n N T hC1 hW (by omega) (by omega) (by omega) (Or.inr ⟨rfl, rfl⟩)) (Nat.le_of_ble_eq_true rfl) rfl rfl (Nat.le_of_ble_eq_true rfl) (Nat.le_of_ble_eq_true rfl) rfl ?_⟩
    rintro v N2 ⟨rfl, hF2⟩
    have hF3 : kC M N2 := kC.ofro (fun k j hk => (hF2 k j hk).trans (hF k j hk))
    refine wpx_ok hS bk61 (sp := sp61) 60 48 _ _ _ _ ?_
    simp only [LCM, B2, Bool.not_eq_false, Bool.not_eq_true, decide_eq_true_eq, decide_eq_false_iff_not, Int.not_lt, Int.not_le, CST, TN, WX, WA, WB, GS, LOC, BT61, SP61, CLS, FLD, ARR, CD, true_and, and_true, and_self, forall_const, true_implies, false_implies, implies_true, not_true_eq_false, not_false_eq_true, if_true, if_false, rgI, rgL, scr, swl, lkl, cats, cat, is2, List.drop_succ_cons, List.drop_zero, List.drop_nil, List.cons_append, List.nil_append, Option.toList_some, Option.toList_none, List.length_cons, List.length_nil, ne_eq, Classical.not_not, reduceCtorEq, Nat.reduceAdd, Nat.reduceSub, Nat.reduceMul, Nat.reduceLT, Nat.reduceLeDiff, Nat.reduceEqDiff, Nat.reduceBEq, Int.reduceToNat, Int.reduceLE, Int.reduceLT, Int.reduceEq, Int.reduceNeg, Int.reduceAdd, Int.reduceSub, Int.reduceMul, Int.toNat_natCast, Nat.zero_add, Int.add_zero, Nat.add_zero, ite_true, ite_false, Option.some.injEq, Nat.le_refl, or_true, true_or, or_false, false_or, if_pos, reduceIte, Nat.reduceGT]
    refine ⟨hw, fun h4 => ⟨by omega, fun h5 => ?_, fun h5 => ?_⟩, fun h4 => ⟨by omega, by omega, ?_⟩⟩
    · exact rt61 ⟨rfl, by rw [hval, if_neg h4, if_neg (by omega)], hF3⟩
    · exact rt61 ⟨rfl, by rw [hval, if_neg h4, if_pos (by omega)], hF3⟩
    · exact rt61 ⟨rfl, by rw [hval, if_pos h4], hF3⟩
  · exact rt61 ⟨rfl, by unfold f_wedding; rw [if_neg (by omega)], kC.rf M⟩

theorem wtC_false {T : MM} (h : WFt T) (c : Nat) {v : Int} (hv : MX (fun d => d < PN (cd T c)) (cD (cd T c) (pH (cd T c)) (fun _ => true)) v) : v = wtC T false c := by
  have h1 := ms_MX (cd_WF h c)
  rw [hv.uniq h1]
  unfold wtC
  rw [(cd_SW T c).eP]
  rfl
theorem RO.code {M T : MM} {c : Nat} (h : RO M (cd T c) (pUp T 0)) (c' : Nat) : RO M (cd T c') (pUp T 0) := by
  refine h.town ?_ ?_ (fun i hi hp => ?_)
  · rw [(cd_SW T c').1 57 0 (by decide), (cd_SW T c).1 57 0 (by decide)]
  · rw [(cd_SW T c').1 57 1 (by decide), (cd_SW T c).1 57 1 (by decide)]
  · unfold pUp pH at hp
    simp only [Bool.and_eq_true, decide_eq_true_eq, Bool.or_eq_true, Bool.not_eq_true', Nat.not_lt_zero, decide_false, Bool.false_eq_true, or_false] at hp
    rw [(cd_at c' hp.1).1, (cd_at c' hp.1).2, (cd_at c hp.1).1, (cd_at c hp.1).2, hp.2]
    exact ⟨rfl, rfl⟩
theorem RO.code0 {M T : MM} (h : RO M T (fun i => pH T i && !newP T i)) : RO M (cd T 0) (pUp T 0) := by
  have h1 : RO M T (pUp T 0) := h.eqp (fun i _ => by unfold pUp newP; simp)
  refine h1.town ?_ ?_ (fun i hi hp => ?_)
  · rw [(cd_SW T 0).1 57 0 (by decide)]
  · rw [(cd_SW T 0).1 57 1 (by decide)]
  · unfold pUp pH at hp
    simp only [Bool.and_eq_true, decide_eq_true_eq, Bool.or_eq_true, Bool.not_eq_true', Nat.not_lt_zero, decide_false, Bool.false_eq_true, or_false] at hp
    rw [(cd_at 0 hp.1).1, (cd_at 0 hp.1).2, hp.2]
    exact ⟨rfl, rfl⟩
def goP (M T : MM) (b : Bool) : Option AV → MM → Prop := fun r M' => r = none ∧ WS M' T ∧ WV M' T b (codes T) ∧ ∀ k j, ¬ row k → M' k j = M k j
theorem x_goSettled (M T : MM) (hC : RC M T) (hW : WFt T) : oQ 6 92 [vR 0] M (goP M T false) := by
  have hn3 := nM_3 hW
  have hH := hW.H
  have hcs : 1 ≤ codes T ∧ codes T ≤ 1728 := pw_sm hW (n := hN T) (Nat.le_refl _)
  have hcr := fun c => cnt_rg (okC T false) c
  refine go92 (fun S hS => ?_)
  have head : ∀ (n c : Nat) (N : MM), c + n = codes T → WS N T → WD N T c → RO N (cd T c) (pUp T 0) → WV N T false c → (∀ k j, ¬ row k → N k j = M k j) → S 39 [some (vR 0), some (vI c)] [] (sh0, 0, 0) N := by
    intro n
    induction n with
    | zero =>
      intro c N hc hs hd hr hv hF
      have hcc : c = codes T := by omega
      subst hcc
      refine wpx_ok hS bk92 (sp := sp92) 60 39 _ _ _ _ ?_
      simp only [LCM, B2, Bool.not_eq_false, Bool.not_eq_true, decide_eq_true_eq, decide_eq_false_iff_not, Int.not_lt, Int.not_le, CST, TN, WX, WA, WB, GS, LOC, BT92, SP92, CLS, FLD, ARR, CD, true_and, and_true, and_self, forall_const, true_implies, false_implies, implies_true, not_true_eq_false, not_false_eq_true, if_true, if_false, rgI, rgL, scr, swl, lkl, cats, cat, is2, List.drop_succ_cons, List.drop_zero, List.drop_nil, List.cons_append, List.nil_append, Option.toList_some, Option.toList_none, List.length_cons, List.length_nil, ne_eq, Classical.not_not, reduceCtorEq, Nat.reduceAdd, Nat.reduceSub, Nat.reduceMul, Nat.reduceLT, Nat.reduceLeDiff, Nat.reduceEqDiff, Nat.reduceBEq, Int.reduceToNat, Int.reduceLE, Int.reduceLT, Int.reduceEq, Int.reduceNeg, Int.reduceAdd, Int.reduceSub, Int.reduceMul, Int.toNat_natCast, Nat.zero_add, Int.add_zero, Nat.add_zero, ite_true, ite_false, Option.some.injEq, Nat.le_refl, or_true, true_or, or_false, false_or, if_pos, reduceIte, Nat.reduceGT]
      rw [hs.2.1]
      exact ⟨by omega, fun _ => rt92 (Nat.le_refl _) (Nat.le_refl _) ⟨rfl, rfl, hs, hv, hF⟩, fun h => by omega⟩
    | succ n ih =>
      intro c N hc hs hd hr hv hF
      have hWc := cd_WF hW c
      have g := cd_SW T c
      refine wpx_ok hS bk92 (sp := sp92) 60 39 _ _ _ _ ?_
      simp only [LCM, B2, Bool.not_eq_false, Bool.not_eq_true, decide_eq_true_eq, decide_eq_false_iff_not, Int.not_lt, Int.not_le, CST, TN, WX, WA, WB, GS, LOC, BT92, SP92, CLS, FLD, ARR, CD, true_and, and_true, and_self, forall_const, true_implies, false_implies, implies_true, not_true_eq_false, not_false_eq_true, if_true, if_false, rgI, rgL, scr, swl, lkl, cats, cat, is2, List.drop_succ_cons, List.drop_zero, List.drop_nil, List.cons_append, List.nil_append, Option.toList_some, Option.toList_none, List.length_cons, List.length_nil, ne_eq, Classical.not_not, reduceCtorEq, Nat.reduceAdd, Nat.reduceSub, Nat.reduceMul, Nat.reduceLT, Nat.reduceLeDiff, Nat.reduceEqDiff, Nat.reduceBEq, Int.reduceToNat, Int.reduceLE, Int.reduceLT, Int.reduceEq, Int.reduceNeg, Int.reduceAdd, Int.reduceSub, Int.reduceMul, Int.toNat_natCast, Nat.zero_add, Int.add_zero, Nat.add_zero, ite_true, ite_false, Option.some.injEq, Nat.le_refl, or_true, true_or, or_false, false_or, if_pos, reduceIte, Nat.reduceGT]
      rw [hs.2.1]
      refine ⟨by omega, fun h => by omega, fun h => ?_⟩
      refine ⟨rcv_ok rfl own37 rfl, kQ (x_putInto c N T hW hs hd hr) (Nat.le_of_ble_eq_true rfl) rfl rfl (Nat.le_of_ble_eq_true rfl) (Nat.le_of_ble_eq_true rfl) rfl ?_⟩
      rintro r N1 ⟨rfl, hO1, hF1⟩
      have hs1 : WS N1 T := hs.keep (fun k j hk => hF1 k j (by unfold ro; omega))
      have hd1 : WD N1 T c := fun i hi hb => by rw [hF1 41 _ (by unfold ro; omega)]; exact hd i hi hb
      have hv1 : WV N1 T false c := hv.keep (fun k j hk => hF1 k j (by unfold ro; omega))
      have hF2 : ∀ k j, ¬ row k → N1 k j = M k j := fun k j hk => by rw [hF1 k j (fun z => hk (Or.inl z))]; exact hF k j hk
      have hC1 : RC N1 T := hC.keep (fun k j h1 h2 => hF2 k j (by unfold row ro; omega))
      have hO2 : RO N1 (cd T c) (pH (cd T c)) := hO1.eqp (fun i _ => (g.eA i).symm)
      have tail : ∀ N2 : MM, WS N2 T → WD N2 T c → RO N2 (cd T c) (pH T) → WV N2 T false (c + 1) → (∀ k j, ¬ row k → N2 k j = M k j) → S 85 [some (vR 0), some (vI c)] [] (sh0, 0, 0) N2 := by
        intro N2 ks kd kr kv kF
        refine wpx_ok hS bk92 (sp := sp92) 60 85 _ _ _ _ ?_
        simp only [LCM, B2, Bool.not_eq_false, Bool.not_eq_true, decide_eq_true_eq, decide_eq_false_iff_not, Int.not_lt, Int.not_le, CST, TN, WX, WA, WB, GS, LOC, BT92, SP92, CLS, FLD, ARR, CD, true_and, and_true, and_self, forall_const, true_implies, false_implies, implies_true, not_true_eq_false, not_false_eq_true, if_true, if_false, rgI, rgL, scr, swl, lkl, cats, cat, is2, List.drop_succ_cons, List.drop_zero, List.drop_nil, List.cons_append, List.nil_append, Option.toList_some, Option.toList_none, List.length_cons, List.length_nil, ne_eq, Classical.not_not, reduceCtorEq, Nat.reduceAdd, Nat.reduceSub, Nat.reduceMul, Nat.reduceLT, Nat.reduceLeDiff, Nat.reduceEqDiff, Nat.reduceBEq, Int.reduceToNat, Int.reduceLE, Int.reduceLT, Int.reduceEq, Int.reduceNeg, Int.reduceAdd, Int.reduceSub, Int.reduceMul, Int.toNat_natCast, Nat.zero_add, Int.add_zero, Nat.add_zero, ite_true, ite_false, Option.some.injEq, Nat.le_refl, or_true, true_or, or_false, false_or, if_pos, reduceIte, Nat.reduceGT]
        refine ⟨rcv_ok rfl own38 rfl, kQ (x_liftFrom c N2 T hW ks kd kr) (Nat.le_of_ble_eq_true rfl) rfl rfl (Nat.le_of_ble_eq_true rfl) (Nat.le_of_ble_eq_true rfl) rfl ?_⟩
        rintro r N3 ⟨rfl, hO3, hF3⟩
        have hs3 : WS N3 T := ks.keep (fun k j hk => hF3 k j (by unfold ro; omega))
        have hd3 : WD N3 T c := fun i hi hb => by rw [hF3 41 _ (by unfold ro; omega)]; exact kd i hi hb
        have hv3 : WV N3 T false (c + 1) := kv.keep (fun k j hk => hF3 k j (by unfold ro; omega))
        refine wpx_ok hS bk92 (sp := sp92) 60 96 _ _ _ _ ?_
        simp only [LCM, B2, Bool.not_eq_false, Bool.not_eq_true, decide_eq_true_eq, decide_eq_false_iff_not, Int.not_lt, Int.not_le, CST, TN, WX, WA, WB, GS, LOC, BT92, SP92, CLS, FLD, ARR, CD, true_and, and_true, and_self, forall_const, true_implies, false_implies, implies_true, not_true_eq_false, not_false_eq_true, if_true, if_false, rgI, rgL, scr, swl, lkl, cats, cat, is2, List.drop_succ_cons, List.drop_zero, List.drop_nil, List.cons_append, List.nil_append, Option.toList_some, Option.toList_none, List.length_cons, List.length_nil, ne_eq, Classical.not_not, reduceCtorEq, Nat.reduceAdd, Nat.reduceSub, Nat.reduceMul, Nat.reduceLT, Nat.reduceLeDiff, Nat.reduceEqDiff, Nat.reduceBEq, Int.reduceToNat, Int.reduceLE, Int.reduceLT, Int.reduceEq, Int.reduceNeg, Int.reduceAdd, Int.reduceSub, Int.reduceMul, Int.toNat_natCast, Nat.zero_add, Int.add_zero, Nat.add_zero, ite_true, ite_false, Option.some.injEq, Nat.le_refl, or_true, true_or, or_false, false_or, if_pos, reduceIte, Nat.reduceGT]
        refine ⟨rcv_ok rfl own36 rfl, kQ (x_advance c N3 T hW hs3 hd3) (Nat.le_of_ble_eq_true rfl) rfl rfl (Nat.le_of_ble_eq_true rfl) (Nat.le_of_ble_eq_true rfl) rfl ?_⟩
        rintro r N4 ⟨rfl, hd4, hF4⟩
        refine wpx_ok hS bk92 (sp := sp92) 60 103 _ _ _ _ ?_
        simp only [LCM, B2, Bool.not_eq_false, Bool.not_eq_true, decide_eq_true_eq, decide_eq_false_iff_not, Int.not_lt, Int.not_le, CST, TN, WX, WA, WB, GS, LOC, BT92, SP92, CLS, FLD, ARR, CD, true_and, and_true, and_self, forall_const, true_implies, false_implies, implies_true, not_true_eq_false, not_false_eq_true, if_true, if_false, rgI, rgL, scr, swl, lkl, cats, cat, is2, List.drop_succ_cons, List.drop_zero, List.drop_nil, List.cons_append, List.nil_append, Option.toList_some, Option.toList_none, List.length_cons, List.length_nil, ne_eq, Classical.not_not, reduceCtorEq, Nat.reduceAdd, Nat.reduceSub, Nat.reduceMul, Nat.reduceLT, Nat.reduceLeDiff, Nat.reduceEqDiff, Nat.reduceBEq, Int.reduceToNat, Int.reduceLE, Int.reduceLT, Int.reduceEq, Int.reduceNeg, Int.reduceAdd, Int.reduceSub, Int.reduceMul, Int.toNat_natCast, Nat.zero_add, Int.add_zero, Nat.add_zero, ite_true, ite_false, Option.some.injEq, Nat.le_refl, or_true, true_or, or_false, false_or, if_pos, reduceIte, Nat.reduceGT]
        refine ih (c + 1) N4 (by omega) (hs3.keep (fun k j hk => hF4 k j (by omega))) hd4 ((hO3.keep (fun k j h1 h2 => hF4 k j (by omega))).code (c + 1)) (hv3.keep (fun k j hk => hF4 k j (by omega))) (fun k j hk => ?_)
        rw [hF4 k j (fun z => hk (Or.inr (by omega))), hF3 k j (fun z => hk (Or.inl z))]
        exact kF k j hk
      refine wpx_ok hS bk92 (sp := sp92) 60 61 _ _ _ _ ?_
      simp only [LCM, B2, Bool.not_eq_false, Bool.not_eq_true, decide_eq_true_eq, decide_eq_false_iff_not, Int.not_lt, Int.not_le, CST, TN, WX, WA, WB, GS, LOC, BT92, SP92, CLS, FLD, ARR, CD, true_and, and_true, and_self, forall_const, true_implies, false_implies, implies_true, not_true_eq_false, not_false_eq_true, if_true, if_false, rgI, rgL, scr, swl, lkl, cats, cat, is2, List.drop_succ_cons, List.drop_zero, List.drop_nil, List.cons_append, List.nil_append, Option.toList_some, Option.toList_none, List.length_cons, List.length_nil, ne_eq, Classical.not_not, reduceCtorEq, Nat.reduceAdd, Nat.reduceSub, Nat.reduceMul, Nat.reduceLT, Nat.reduceLeDiff, Nat.reduceEqDiff, Nat.reduceBEq, Int.reduceToNat, Int.reduceLE, Int.reduceLT, Int.reduceEq, Int.reduceNeg, Int.reduceAdd, Int.reduceSub, Int.reduceMul, Int.toNat_natCast, Nat.zero_add, Int.add_zero, Nat.add_zero, ite_true, ite_false, Option.some.injEq, Nat.le_refl, or_true, true_or, or_false, false_or, if_pos, reduceIte, Nat.reduceGT]
      refine ⟨rcv_ok rfl own90 rfl, kI (x_anyEverShort N1 T (cd T c) hC1 hW g hWc hO2) (Nat.le_of_ble_eq_true rfl) rfl rfl (Nat.le_of_ble_eq_true rfl) (Nat.le_of_ble_eq_true rfl) rfl ?_⟩
      refine wpx_ok hS bk92 (sp := sp92) 60 65 _ _ _ _ ?_
      simp only [LCM, B2, Bool.not_eq_false, Bool.not_eq_true, decide_eq_true_eq, decide_eq_false_iff_not, Int.not_lt, Int.not_le, CST, TN, WX, WA, WB, GS, LOC, BT92, SP92, CLS, FLD, ARR, CD, true_and, and_true, and_self, forall_const, true_implies, false_implies, implies_true, not_true_eq_false, not_false_eq_true, if_true, if_false, rgI, rgL, scr, swl, lkl, cats, cat, is2, List.drop_succ_cons, List.drop_zero, List.drop_nil, List.cons_append, List.nil_append, Option.toList_some, Option.toList_none, List.length_cons, List.length_nil, ne_eq, Classical.not_not, reduceCtorEq, Nat.reduceAdd, Nat.reduceSub, Nat.reduceMul, Nat.reduceLT, Nat.reduceLeDiff, Nat.reduceEqDiff, Nat.reduceBEq, Int.reduceToNat, Int.reduceLE, Int.reduceLT, Int.reduceEq, Int.reduceNeg, Int.reduceAdd, Int.reduceSub, Int.reduceMul, Int.toNat_natCast, Nat.zero_add, Int.add_zero, Nat.add_zero, ite_true, ite_false, Option.some.injEq, Nat.le_refl, or_true, true_or, or_false, false_or, if_pos, reduceIte, Nat.reduceGT]
      have hok : okC T false c = !anyE (cd T c) := alS_anyE (cd T c)
      refine ⟨fun h1 => ?_, fun h1 => ?_⟩
      · exact tail N1 hs1 hd1 hO1 (hv1.no (by rw [hok, h1]; rfl)) hF2
      · rw [← mk_1023]
        refine ⟨rcv_ok rfl own25 rfl, kQ (x_mostResting N1 (cd T c) (pH (cd T c)) (fun _ => true) hWc hO2 (fun i h => of_decide_eq_true h)) (Nat.le_of_ble_eq_true rfl) rfl rfl (Nat.le_of_ble_eq_true rfl) (Nat.le_of_ble_eq_true rfl) rfl ?_⟩
        rintro r N2 ⟨rfl, v, rfl, v0, v1, hm⟩
        have hwt := wtC_false hW c hm
        have hc0 := hcr c
        refine wpx_ok hS bk92 (sp := sp92) 60 82 _ _ _ _ ?_
        simp only [LCM, B2, Bool.not_eq_false, Bool.not_eq_true, decide_eq_true_eq, decide_eq_false_iff_not, Int.not_lt, Int.not_le, CST, TN, WX, WA, WB, GS, LOC, BT92, SP92, CLS, FLD, ARR, CD, true_and, and_true, and_self, forall_const, true_implies, false_implies, implies_true, not_true_eq_false, not_false_eq_true, if_true, if_false, rgI, rgL, scr, swl, lkl, cats, cat, is2, List.drop_succ_cons, List.drop_zero, List.drop_nil, List.cons_append, List.nil_append, Option.toList_some, Option.toList_none, List.length_cons, List.length_nil, ne_eq, Classical.not_not, reduceCtorEq, Nat.reduceAdd, Nat.reduceSub, Nat.reduceMul, Nat.reduceLT, Nat.reduceLeDiff, Nat.reduceEqDiff, Nat.reduceBEq, Int.reduceToNat, Int.reduceLE, Int.reduceLT, Int.reduceEq, Int.reduceNeg, Int.reduceAdd, Int.reduceSub, Int.reduceMul, Int.toNat_natCast, Nat.zero_add, Int.add_zero, Nat.add_zero, ite_true, ite_false, Option.some.injEq, Nat.le_refl, or_true, true_or, or_false, false_or, if_pos, reduceIte, Nat.reduceGT]
        refine ⟨rcv_ok rfl own39 rfl, kQ (x_find v N2 T hW hs1 (by omega) (by rw [hv1.1]; omega) hv1.2.1) (Nat.le_of_ble_eq_true rfl) rfl rfl (Nat.le_of_ble_eq_true rfl) (Nat.le_of_ble_eq_true rfl) rfl ?_⟩
        rintro r N3 ⟨rfl, a6, a7, a42, a43, aF⟩
        rw [hwt] at a7 a42
        refine tail N3 (hs1.keep (fun k j hk => aF k j (by omega) (by omega) (by omega))) (fun i hi hb => by rw [aF 41 _ (by omega) (by decide) (by decide)]; exact hd1 i hi hb) (hO1.keep (fun k j h2 h3 => aF k j (by omega) (by omega) (by omega))) (WV.yes hW hv1 hd1 (by rw [hok, h1]; rfl) a6 a7 a42 a43) (fun k j hk => ?_)
        unfold row at hk
        rw [aF k j (by omega) (by omega) (by omega)]
        exact hF2 k j hk
  refine wpx_ok hS bk92 (sp := sp92) 60 0 _ _ _ _ ?_
  simp only [LCM, B2, Bool.not_eq_false, Bool.not_eq_true, decide_eq_true_eq, decide_eq_false_iff_not, Int.not_lt, Int.not_le, CST, TN, WX, WA, WB, GS, LOC, BT92, SP92, CLS, FLD, ARR, CD, true_and, and_true, and_self, forall_const, true_implies, false_implies, implies_true, not_true_eq_false, not_false_eq_true, if_true, if_false, rgI, rgL, scr, swl, lkl, cats, cat, is2, List.drop_succ_cons, List.drop_zero, List.drop_nil, List.cons_append, List.nil_append, Option.toList_some, Option.toList_none, List.length_cons, List.length_nil, ne_eq, Classical.not_not, reduceCtorEq, Nat.reduceAdd, Nat.reduceSub, Nat.reduceMul, Nat.reduceLT, Nat.reduceLeDiff, Nat.reduceEqDiff, Nat.reduceBEq, Int.reduceToNat, Int.reduceLE, Int.reduceLT, Int.reduceEq, Int.reduceNeg, Int.reduceAdd, Int.reduceSub, Int.reduceMul, Int.toNat_natCast, Nat.zero_add, Int.add_zero, Nat.add_zero, ite_true, ite_false, Option.some.injEq, Nat.le_refl, or_true, true_or, or_false, false_or, if_pos, reduceIte, Nat.reduceGT]
  refine ⟨rcv_ok rfl own35 rfl, kQ (x_begin M T hC hW) (Nat.le_of_ble_eq_true rfl) rfl rfl (Nat.le_of_ble_eq_true rfl) (Nat.le_of_ble_eq_true rfl) rfl ?_⟩
  rintro r N ⟨rfl, hs, hd, h6, h7, h43, hF⟩
  have hC1 : RC N T := hC.keep (fun k j h1 h2 => hF k j (by omega))
  refine wpx_ok hS bk92 (sp := sp92) 60 15 _ _ _ _ ?_
  simp only [LCM, B2, Bool.not_eq_false, Bool.not_eq_true, decide_eq_true_eq, decide_eq_false_iff_not, Int.not_lt, Int.not_le, CST, TN, WX, WA, WB, GS, LOC, BT92, SP92, CLS, FLD, ARR, CD, true_and, and_true, and_self, forall_const, true_implies, false_implies, implies_true, not_true_eq_false, not_false_eq_true, if_true, if_false, rgI, rgL, scr, swl, lkl, cats, cat, is2, List.drop_succ_cons, List.drop_zero, List.drop_nil, List.cons_append, List.nil_append, Option.toList_some, Option.toList_none, List.length_cons, List.length_nil, ne_eq, Classical.not_not, reduceCtorEq, Nat.reduceAdd, Nat.reduceSub, Nat.reduceMul, Nat.reduceLT, Nat.reduceLeDiff, Nat.reduceEqDiff, Nat.reduceBEq, Int.reduceToNat, Int.reduceLE, Int.reduceLT, Int.reduceEq, Int.reduceNeg, Int.reduceAdd, Int.reduceSub, Int.reduceMul, Int.toNat_natCast, Nat.zero_add, Int.add_zero, Nat.add_zero, ite_true, ite_false, Option.some.injEq, Nat.le_refl, or_true, true_or, or_false, false_or, if_pos, reduceIte, Nat.reduceGT]
  rw [hC1.2.2.2.2.2]
  refine ⟨rcv_ok rfl own21 rfl, kQ (x_fill (newP T) N T hW hC1) (Nat.le_of_ble_eq_true rfl) rfl rfl (Nat.le_of_ble_eq_true rfl) (Nat.le_of_ble_eq_true rfl) rfl ?_⟩
  rintro r N1 ⟨rfl, hO, hF1⟩
  refine wpx_ok hS bk92 (sp := sp92) 60 37 _ _ _ _ ?_
  simp only [LCM, B2, Bool.not_eq_false, Bool.not_eq_true, decide_eq_true_eq, decide_eq_false_iff_not, Int.not_lt, Int.not_le, CST, TN, WX, WA, WB, GS, LOC, BT92, SP92, CLS, FLD, ARR, CD, true_and, and_true, and_self, forall_const, true_implies, false_implies, implies_true, not_true_eq_false, not_false_eq_true, if_true, if_false, rgI, rgL, scr, swl, lkl, cats, cat, is2, List.drop_succ_cons, List.drop_zero, List.drop_nil, List.cons_append, List.nil_append, Option.toList_some, Option.toList_none, List.length_cons, List.length_nil, ne_eq, Classical.not_not, reduceCtorEq, Nat.reduceAdd, Nat.reduceSub, Nat.reduceMul, Nat.reduceLT, Nat.reduceLeDiff, Nat.reduceEqDiff, Nat.reduceBEq, Int.reduceToNat, Int.reduceLE, Int.reduceLT, Int.reduceEq, Int.reduceNeg, Int.reduceAdd, Int.reduceSub, Int.reduceMul, Int.toNat_natCast, Nat.zero_add, Int.add_zero, Nat.add_zero, ite_true, ite_false, Option.some.injEq, Nat.le_refl, or_true, true_or, or_false, false_or, if_pos, reduceIte, Nat.reduceGT]
  refine head (codes T) 0 N1 (by omega) (hs.keep (fun k j hk => hF1 k j (by unfold ro; omega))) (fun i hi hb => by rw [hF1 41 _ (by unfold ro; omega)]; exact hd i hi hb) hO.code0 ⟨?_, ?_, fun h => absurd h (Int.lt_irrefl 0), fun i hi hb => ?_⟩ (fun k j hk => ?_)
  · rw [hF1 37 6 (by unfold ro; omega)]; exact h6
  · rw [hF1 37 7 (by unfold ro; omega)]; omega
  · rw [hF1 43 _ (by unfold ro; omega)]; exact h43 i hi hb
  · unfold row at hk
    rw [hF1 k j (fun z => hk (Or.inl z))]
    exact hF k j (fun z => hk (Or.inr z))
theorem x_goFits (M T : MM) (hC : RC M T) (hW : WFt T) (hs' : WFs T) (hRS : RS M T) : oQ 6 93 [vR 0] M (goP M T true) := by
  have hn3 := nM_3 hW
  have hH := hW.H
  have hcs : 1 ≤ codes T ∧ codes T ≤ 1728 := pw_sm hW (n := hN T) (Nat.le_refl _)
  have hcr := fun c => cnt_rg (okC T true) c
  refine go93 (fun S hS => ?_)
  have head : ∀ (n c : Nat) (N : MM), c + n = codes T → WS N T → WD N T c → RO N (cd T c) (pUp T 0) → WV N T true c → (∀ k j, ¬ row k → N k j = M k j) → S 39 [some (vR 0), some (vI c)] [] (sh0, 0, 0) N := by
    intro n
    induction n with
    | zero =>
      intro c N hc hs hd hr hv hF
      have hcc : c = codes T := by omega
      subst hcc
      refine wpx_ok hS bk93 (sp := sp93) 60 39 _ _ _ _ ?_
      simp only [LCM, B2, Bool.not_eq_false, Bool.not_eq_true, decide_eq_true_eq, decide_eq_false_iff_not, Int.not_lt, Int.not_le, CST, TN, WX, WA, WB, GS, LOC, BT93, SP93, CLS, FLD, ARR, CD, true_and, and_true, and_self, forall_const, true_implies, false_implies, implies_true, not_true_eq_false, not_false_eq_true, if_true, if_false, rgI, rgL, scr, swl, lkl, cats, cat, is2, List.drop_succ_cons, List.drop_zero, List.drop_nil, List.cons_append, List.nil_append, Option.toList_some, Option.toList_none, List.length_cons, List.length_nil, ne_eq, Classical.not_not, reduceCtorEq, Nat.reduceAdd, Nat.reduceSub, Nat.reduceMul, Nat.reduceLT, Nat.reduceLeDiff, Nat.reduceEqDiff, Nat.reduceBEq, Int.reduceToNat, Int.reduceLE, Int.reduceLT, Int.reduceEq, Int.reduceNeg, Int.reduceAdd, Int.reduceSub, Int.reduceMul, Int.toNat_natCast, Nat.zero_add, Int.add_zero, Nat.add_zero, ite_true, ite_false, Option.some.injEq, Nat.le_refl, or_true, true_or, or_false, false_or, if_pos, reduceIte, Nat.reduceGT]
      rw [hs.2.1]
      exact ⟨by omega, fun _ => rt93 (Nat.le_refl _) (Nat.le_refl _) ⟨rfl, rfl, hs, hv, hF⟩, fun h => by omega⟩
    | succ n ih =>
      intro c N hc hs hd hr hv hF
      have hWc := cd_WF hW c
      have g := cd_SW T c
      refine wpx_ok hS bk93 (sp := sp93) 60 39 _ _ _ _ ?_
      simp only [LCM, B2, Bool.not_eq_false, Bool.not_eq_true, decide_eq_true_eq, decide_eq_false_iff_not, Int.not_lt, Int.not_le, CST, TN, WX, WA, WB, GS, LOC, BT93, SP93, CLS, FLD, ARR, CD, true_and, and_true, and_self, forall_const, true_implies, false_implies, implies_true, not_true_eq_false, not_false_eq_true, if_true, if_false, rgI, rgL, scr, swl, lkl, cats, cat, is2, List.drop_succ_cons, List.drop_zero, List.drop_nil, List.cons_append, List.nil_append, Option.toList_some, Option.toList_none, List.length_cons, List.length_nil, ne_eq, Classical.not_not, reduceCtorEq, Nat.reduceAdd, Nat.reduceSub, Nat.reduceMul, Nat.reduceLT, Nat.reduceLeDiff, Nat.reduceEqDiff, Nat.reduceBEq, Int.reduceToNat, Int.reduceLE, Int.reduceLT, Int.reduceEq, Int.reduceNeg, Int.reduceAdd, Int.reduceSub, Int.reduceMul, Int.toNat_natCast, Nat.zero_add, Int.add_zero, Nat.add_zero, ite_true, ite_false, Option.some.injEq, Nat.le_refl, or_true, true_or, or_false, false_or, if_pos, reduceIte, Nat.reduceGT]
      rw [hs.2.1]
      refine ⟨by omega, fun h => by omega, fun h => ?_⟩
      refine ⟨rcv_ok rfl own37 rfl, kQ (x_putInto c N T hW hs hd hr) (Nat.le_of_ble_eq_true rfl) rfl rfl (Nat.le_of_ble_eq_true rfl) (Nat.le_of_ble_eq_true rfl) rfl ?_⟩
      rintro r N1 ⟨rfl, hO1, hF1⟩
      have hs1 : WS N1 T := hs.keep (fun k j hk => hF1 k j (by unfold ro; omega))
      have hd1 : WD N1 T c := fun i hi hb => by rw [hF1 41 _ (by unfold ro; omega)]; exact hd i hi hb
      have hv1 : WV N1 T true c := hv.keep (fun k j hk => hF1 k j (by unfold ro; omega))
      have hF2 : ∀ k j, ¬ row k → N1 k j = M k j := fun k j hk => by rw [hF1 k j (fun z => hk (Or.inl z))]; exact hF k j hk
      have hC1 : RC N1 T := hC.keep (fun k j h1 h2 => hF2 k j (by unfold row ro; omega))
      have hRS1 : RS N1 T := hRS.keep (fun k j h1 h2 => hF2 k j (by unfold row ro; omega))
      have hO2 : RO N1 (cd T c) (pH (cd T c)) := hO1.eqp (fun i _ => (g.eA i).symm)
      have tail : ∀ N2 : MM, WS N2 T → WD N2 T c → RO N2 (cd T c) (pH T) → WV N2 T true (c + 1) → (∀ k j, ¬ row k → N2 k j = M k j) → S 76 [some (vR 0), some (vI c)] [] (sh0, 0, 0) N2 := by
        intro N2 ks kd kr kv kF
        refine wpx_ok hS bk93 (sp := sp93) 60 76 _ _ _ _ ?_
        simp only [LCM, B2, Bool.not_eq_false, Bool.not_eq_true, decide_eq_true_eq, decide_eq_false_iff_not, Int.not_lt, Int.not_le, CST, TN, WX, WA, WB, GS, LOC, BT93, SP93, CLS, FLD, ARR, CD, true_and, and_true, and_self, forall_const, true_implies, false_implies, implies_true, not_true_eq_false, not_false_eq_true, if_true, if_false, rgI, rgL, scr, swl, lkl, cats, cat, is2, List.drop_succ_cons, List.drop_zero, List.drop_nil, List.cons_append, List.nil_append, Option.toList_some, Option.toList_none, List.length_cons, List.length_nil, ne_eq, Classical.not_not, reduceCtorEq, Nat.reduceAdd, Nat.reduceSub, Nat.reduceMul, Nat.reduceLT, Nat.reduceLeDiff, Nat.reduceEqDiff, Nat.reduceBEq, Int.reduceToNat, Int.reduceLE, Int.reduceLT, Int.reduceEq, Int.reduceNeg, Int.reduceAdd, Int.reduceSub, Int.reduceMul, Int.toNat_natCast, Nat.zero_add, Int.add_zero, Nat.add_zero, ite_true, ite_false, Option.some.injEq, Nat.le_refl, or_true, true_or, or_false, false_or, if_pos, reduceIte, Nat.reduceGT]
        refine ⟨rcv_ok rfl own38 rfl, kQ (x_liftFrom c N2 T hW ks kd kr) (Nat.le_of_ble_eq_true rfl) rfl rfl (Nat.le_of_ble_eq_true rfl) (Nat.le_of_ble_eq_true rfl) rfl ?_⟩
        rintro r N3 ⟨rfl, hO3, hF3⟩
        have hs3 : WS N3 T := ks.keep (fun k j hk => hF3 k j (by unfold ro; omega))
        have hd3 : WD N3 T c := fun i hi hb => by rw [hF3 41 _ (by unfold ro; omega)]; exact kd i hi hb
        have hv3 : WV N3 T true (c + 1) := kv.keep (fun k j hk => hF3 k j (by unfold ro; omega))
        refine wpx_ok hS bk93 (sp := sp93) 60 87 _ _ _ _ ?_
        simp only [LCM, B2, Bool.not_eq_false, Bool.not_eq_true, decide_eq_true_eq, decide_eq_false_iff_not, Int.not_lt, Int.not_le, CST, TN, WX, WA, WB, GS, LOC, BT93, SP93, CLS, FLD, ARR, CD, true_and, and_true, and_self, forall_const, true_implies, false_implies, implies_true, not_true_eq_false, not_false_eq_true, if_true, if_false, rgI, rgL, scr, swl, lkl, cats, cat, is2, List.drop_succ_cons, List.drop_zero, List.drop_nil, List.cons_append, List.nil_append, Option.toList_some, Option.toList_none, List.length_cons, List.length_nil, ne_eq, Classical.not_not, reduceCtorEq, Nat.reduceAdd, Nat.reduceSub, Nat.reduceMul, Nat.reduceLT, Nat.reduceLeDiff, Nat.reduceEqDiff, Nat.reduceBEq, Int.reduceToNat, Int.reduceLE, Int.reduceLT, Int.reduceEq, Int.reduceNeg, Int.reduceAdd, Int.reduceSub, Int.reduceMul, Int.toNat_natCast, Nat.zero_add, Int.add_zero, Nat.add_zero, ite_true, ite_false, Option.some.injEq, Nat.le_refl, or_true, true_or, or_false, false_or, if_pos, reduceIte, Nat.reduceGT]
        refine ⟨rcv_ok rfl own36 rfl, kQ (x_advance c N3 T hW hs3 hd3) (Nat.le_of_ble_eq_true rfl) rfl rfl (Nat.le_of_ble_eq_true rfl) (Nat.le_of_ble_eq_true rfl) rfl ?_⟩
        rintro r N4 ⟨rfl, hd4, hF4⟩
        refine wpx_ok hS bk93 (sp := sp93) 60 94 _ _ _ _ ?_
        simp only [LCM, B2, Bool.not_eq_false, Bool.not_eq_true, decide_eq_true_eq, decide_eq_false_iff_not, Int.not_lt, Int.not_le, CST, TN, WX, WA, WB, GS, LOC, BT93, SP93, CLS, FLD, ARR, CD, true_and, and_true, and_self, forall_const, true_implies, false_implies, implies_true, not_true_eq_false, not_false_eq_true, if_true, if_false, rgI, rgL, scr, swl, lkl, cats, cat, is2, List.drop_succ_cons, List.drop_zero, List.drop_nil, List.cons_append, List.nil_append, Option.toList_some, Option.toList_none, List.length_cons, List.length_nil, ne_eq, Classical.not_not, reduceCtorEq, Nat.reduceAdd, Nat.reduceSub, Nat.reduceMul, Nat.reduceLT, Nat.reduceLeDiff, Nat.reduceEqDiff, Nat.reduceBEq, Int.reduceToNat, Int.reduceLE, Int.reduceLT, Int.reduceEq, Int.reduceNeg, Int.reduceAdd, Int.reduceSub, Int.reduceMul, Int.toNat_natCast, Nat.zero_add, Int.add_zero, Nat.add_zero, ite_true, ite_false, Option.some.injEq, Nat.le_refl, or_true, true_or, or_false, false_or, if_pos, reduceIte, Nat.reduceGT]
        refine ih (c + 1) N4 (by omega) (hs3.keep (fun k j hk => hF4 k j (by omega))) hd4 ((hO3.keep (fun k j h1 h2 => hF4 k j (by omega))).code (c + 1)) (hv3.keep (fun k j hk => hF4 k j (by omega))) (fun k j hk => ?_)
        rw [hF4 k j (fun z => hk (Or.inr (by omega))), hF3 k j (fun z => hk (Or.inl z))]
        exact kF k j hk
      refine wpx_ok hS bk93 (sp := sp93) 60 61 _ _ _ _ ?_
      simp only [LCM, B2, Bool.not_eq_false, Bool.not_eq_true, decide_eq_true_eq, decide_eq_false_iff_not, Int.not_lt, Int.not_le, CST, TN, WX, WA, WB, GS, LOC, BT93, SP93, CLS, FLD, ARR, CD, true_and, and_true, and_self, forall_const, true_implies, false_implies, implies_true, not_true_eq_false, not_false_eq_true, if_true, if_false, rgI, rgL, scr, swl, lkl, cats, cat, is2, List.drop_succ_cons, List.drop_zero, List.drop_nil, List.cons_append, List.nil_append, Option.toList_some, Option.toList_none, List.length_cons, List.length_nil, ne_eq, Classical.not_not, reduceCtorEq, Nat.reduceAdd, Nat.reduceSub, Nat.reduceMul, Nat.reduceLT, Nat.reduceLeDiff, Nat.reduceEqDiff, Nat.reduceBEq, Int.reduceToNat, Int.reduceLE, Int.reduceLT, Int.reduceEq, Int.reduceNeg, Int.reduceAdd, Int.reduceSub, Int.reduceMul, Int.toNat_natCast, Nat.zero_add, Int.add_zero, Nat.add_zero, ite_true, ite_false, Option.some.injEq, Nat.le_refl, or_true, true_or, or_false, false_or, if_pos, reduceIte, Nat.reduceGT]
      refine ⟨rcv_ok rfl own94 rfl, kI (x_allSeen N1 T (cd T c) hC1 hW hs' hRS1 g hWc hO2) (Nat.le_of_ble_eq_true rfl) rfl rfl (Nat.le_of_ble_eq_true rfl) (Nat.le_of_ble_eq_true rfl) rfl ?_⟩
      refine wpx_ok hS bk93 (sp := sp93) 60 65 _ _ _ _ ?_
      simp only [LCM, B2, Bool.not_eq_false, Bool.not_eq_true, decide_eq_true_eq, decide_eq_false_iff_not, Int.not_lt, Int.not_le, CST, TN, WX, WA, WB, GS, LOC, BT93, SP93, CLS, FLD, ARR, CD, true_and, and_true, and_self, forall_const, true_implies, false_implies, implies_true, not_true_eq_false, not_false_eq_true, if_true, if_false, rgI, rgL, scr, swl, lkl, cats, cat, is2, List.drop_succ_cons, List.drop_zero, List.drop_nil, List.cons_append, List.nil_append, Option.toList_some, Option.toList_none, List.length_cons, List.length_nil, ne_eq, Classical.not_not, reduceCtorEq, Nat.reduceAdd, Nat.reduceSub, Nat.reduceMul, Nat.reduceLT, Nat.reduceLeDiff, Nat.reduceEqDiff, Nat.reduceBEq, Int.reduceToNat, Int.reduceLE, Int.reduceLT, Int.reduceEq, Int.reduceNeg, Int.reduceAdd, Int.reduceSub, Int.reduceMul, Int.toNat_natCast, Nat.zero_add, Int.add_zero, Nat.add_zero, ite_true, ite_false, Option.some.injEq, Nat.le_refl, or_true, true_or, or_false, false_or, if_pos, reduceIte, Nat.reduceGT]
      have hok : okC T true c = fsB (cd T c) (T 55 11).toNat := rfl
      refine ⟨fun h1 => ?_, fun h1 => ?_⟩
      · exact tail N1 hs1 hd1 hO1 (hv1.no (by rw [hok, h1])) hF2
      · have hc0 := hcr c
        refine ⟨rcv_ok rfl own39 rfl, kQ (x_find 0 N1 T hW hs1 (by omega) (by rw [hv1.1]; omega) hv1.2.1) (Nat.le_of_ble_eq_true rfl) rfl rfl (Nat.le_of_ble_eq_true rfl) (Nat.le_of_ble_eq_true rfl) rfl ?_⟩
        rintro r N3 ⟨rfl, a6, a7, a42, a43, aF⟩
        refine tail N3 (hs1.keep (fun k j hk => aF k j (by omega) (by omega) (by omega))) (fun i hi hb => by rw [aF 41 _ (by omega) (by decide) (by decide)]; exact hd1 i hi hb) (hO1.keep (fun k j h2 h3 => aF k j (by omega) (by omega) (by omega))) (WV.yes hW hv1 hd1 (by rw [hok, h1]) a6 a7 a42 a43) (fun k j hk => ?_)
        unfold row at hk
        rw [aF k j (by omega) (by omega) (by omega)]
        exact hF2 k j hk
  refine wpx_ok hS bk93 (sp := sp93) 60 0 _ _ _ _ ?_
  simp only [LCM, B2, Bool.not_eq_false, Bool.not_eq_true, decide_eq_true_eq, decide_eq_false_iff_not, Int.not_lt, Int.not_le, CST, TN, WX, WA, WB, GS, LOC, BT93, SP93, CLS, FLD, ARR, CD, true_and, and_true, and_self, forall_const, true_implies, false_implies, implies_true, not_true_eq_false, not_false_eq_true, if_true, if_false, rgI, rgL, scr, swl, lkl, cats, cat, is2, List.drop_succ_cons, List.drop_zero, List.drop_nil, List.cons_append, List.nil_append, Option.toList_some, Option.toList_none, List.length_cons, List.length_nil, ne_eq, Classical.not_not, reduceCtorEq, Nat.reduceAdd, Nat.reduceSub, Nat.reduceMul, Nat.reduceLT, Nat.reduceLeDiff, Nat.reduceEqDiff, Nat.reduceBEq, Int.reduceToNat, Int.reduceLE, Int.reduceLT, Int.reduceEq, Int.reduceNeg, Int.reduceAdd, Int.reduceSub, Int.reduceMul, Int.toNat_natCast, Nat.zero_add, Int.add_zero, Nat.add_zero, ite_true, ite_false, Option.some.injEq, Nat.le_refl, or_true, true_or, or_false, false_or, if_pos, reduceIte, Nat.reduceGT]
  refine ⟨rcv_ok rfl own35 rfl, kQ (x_begin M T hC hW) (Nat.le_of_ble_eq_true rfl) rfl rfl (Nat.le_of_ble_eq_true rfl) (Nat.le_of_ble_eq_true rfl) rfl ?_⟩
  rintro r N ⟨rfl, hs, hd, h6, h7, h43, hF⟩
  have hC1 : RC N T := hC.keep (fun k j h1 h2 => hF k j (by omega))
  refine wpx_ok hS bk93 (sp := sp93) 60 15 _ _ _ _ ?_
  simp only [LCM, B2, Bool.not_eq_false, Bool.not_eq_true, decide_eq_true_eq, decide_eq_false_iff_not, Int.not_lt, Int.not_le, CST, TN, WX, WA, WB, GS, LOC, BT93, SP93, CLS, FLD, ARR, CD, true_and, and_true, and_self, forall_const, true_implies, false_implies, implies_true, not_true_eq_false, not_false_eq_true, if_true, if_false, rgI, rgL, scr, swl, lkl, cats, cat, is2, List.drop_succ_cons, List.drop_zero, List.drop_nil, List.cons_append, List.nil_append, Option.toList_some, Option.toList_none, List.length_cons, List.length_nil, ne_eq, Classical.not_not, reduceCtorEq, Nat.reduceAdd, Nat.reduceSub, Nat.reduceMul, Nat.reduceLT, Nat.reduceLeDiff, Nat.reduceEqDiff, Nat.reduceBEq, Int.reduceToNat, Int.reduceLE, Int.reduceLT, Int.reduceEq, Int.reduceNeg, Int.reduceAdd, Int.reduceSub, Int.reduceMul, Int.toNat_natCast, Nat.zero_add, Int.add_zero, Nat.add_zero, ite_true, ite_false, Option.some.injEq, Nat.le_refl, or_true, true_or, or_false, false_or, if_pos, reduceIte, Nat.reduceGT]
  rw [hC1.2.2.2.2.2]
  refine ⟨rcv_ok rfl own21 rfl, kQ (x_fill (newP T) N T hW hC1) (Nat.le_of_ble_eq_true rfl) rfl rfl (Nat.le_of_ble_eq_true rfl) (Nat.le_of_ble_eq_true rfl) rfl ?_⟩
  rintro r N1 ⟨rfl, hO, hF1⟩
  refine wpx_ok hS bk93 (sp := sp93) 60 37 _ _ _ _ ?_
  simp only [LCM, B2, Bool.not_eq_false, Bool.not_eq_true, decide_eq_true_eq, decide_eq_false_iff_not, Int.not_lt, Int.not_le, CST, TN, WX, WA, WB, GS, LOC, BT93, SP93, CLS, FLD, ARR, CD, true_and, and_true, and_self, forall_const, true_implies, false_implies, implies_true, not_true_eq_false, not_false_eq_true, if_true, if_false, rgI, rgL, scr, swl, lkl, cats, cat, is2, List.drop_succ_cons, List.drop_zero, List.drop_nil, List.cons_append, List.nil_append, Option.toList_some, Option.toList_none, List.length_cons, List.length_nil, ne_eq, Classical.not_not, reduceCtorEq, Nat.reduceAdd, Nat.reduceSub, Nat.reduceMul, Nat.reduceLT, Nat.reduceLeDiff, Nat.reduceEqDiff, Nat.reduceBEq, Int.reduceToNat, Int.reduceLE, Int.reduceLT, Int.reduceEq, Int.reduceNeg, Int.reduceAdd, Int.reduceSub, Int.reduceMul, Int.toNat_natCast, Nat.zero_add, Int.add_zero, Nat.add_zero, ite_true, ite_false, Option.some.injEq, Nat.le_refl, or_true, true_or, or_false, false_or, if_pos, reduceIte, Nat.reduceGT]
  refine head (codes T) 0 N1 (by omega) (hs.keep (fun k j hk => hF1 k j (by unfold ro; omega))) (fun i hi hb => by rw [hF1 41 _ (by unfold ro; omega)]; exact hd i hi hb) hO.code0 ⟨?_, ?_, fun h => absurd h (Int.lt_irrefl 0), fun i hi hb => ?_⟩ (fun k j hk => ?_)
  · rw [hF1 37 6 (by unfold ro; omega)]; exact h6
  · rw [hF1 37 7 (by unfold ro; omega)]; omega
  · rw [hF1 43 _ (by unfold ro; omega)]; exact h43 i hi hb
  · unfold row at hk
    rw [hF1 k j (fun z => hk (Or.inl z))]
    exact hF k j (fun z => hk (Or.inr z))
theorem kC.ofrow {M M' : MM} (h : ∀ k j, ¬ row k → M' k j = M k j) : kC M M' := fun k j hk => h k j (fun z => hk (Or.inr (by unfold row ro at z; omega)))
theorem isNewB_iff {T : MM} {i : Int} : isNewB T i = true ↔ (0 ≤ i ∧ i < T 58 0) ∧ newB T i.toNat = true := by
  unfold isNewB
  simp only [Bool.and_eq_true, decide_eq_true_eq]
theorem x_settled (i : Int) (M T : MM) (hW : WFt T) (hC : RC M T) (hi : rgI i) : oQ 7 59 [vR 0, vI i] M (fun r M' => r = some (Sum.inl (f_settled T i)) ∧ kC M M') := by
  have hH := hW.H
  have hcs : 1 ≤ codes T ∧ codes T ≤ 1728 := pw_sm hW (n := hN T) (Nat.le_refl _)
  have hcr := cnt_rg (okC T false) (codes T)
  refine go59 (fun S hS => ?_)
  have fin : (i = -1 ∨ i = -2 ∨ isNewB T i = true) → S 21 [some (vR 0), some (vI i)] [] (sh0, 0, 0) M := by
    intro hok
    refine wpx_ok hS bk59 (sp := sp59) 60 21 _ _ _ _ ?_
    simp only [LCM, B2, Bool.not_eq_false, Bool.not_eq_true, decide_eq_true_eq, decide_eq_false_iff_not, Int.not_lt, Int.not_le, CST, TN, WX, WA, WB, GS, LOC, BT59, SP59, CLS, FLD, ARR, CD, true_and, and_true, and_self, forall_const, true_implies, false_implies, implies_true, not_true_eq_false, not_false_eq_true, if_true, if_false, rgI, rgL, scr, swl, lkl, cats, cat, is2, List.drop_succ_cons, List.drop_zero, List.drop_nil, List.cons_append, List.nil_append, Option.toList_some, Option.toList_none, List.length_cons, List.length_nil, ne_eq, Classical.not_not, reduceCtorEq, Nat.reduceAdd, Nat.reduceSub, Nat.reduceMul, Nat.reduceLT, Nat.reduceLeDiff, Nat.reduceEqDiff, Nat.reduceBEq, Int.reduceToNat, Int.reduceLE, Int.reduceLT, Int.reduceEq, Int.reduceNeg, Int.reduceAdd, Int.reduceSub, Int.reduceMul, Int.toNat_natCast, Nat.zero_add, Int.add_zero, Nat.add_zero, ite_true, ite_false, Option.some.injEq, Nat.le_refl, or_true, true_or, or_false, false_or, if_pos, reduceIte, Nat.reduceGT]
    refine ⟨rcv_ok rfl own92 rfl, kQ (x_goSettled M T hC hW) (Nat.le_of_ble_eq_true rfl) rfl rfl (Nat.le_of_ble_eq_true rfl) (Nat.le_of_ble_eq_true rfl) rfl ?_⟩
    rintro r N ⟨rfl, hs, hv, hF⟩
    refine wpx_ok hS bk59 (sp := sp59) 60 25 _ _ _ _ ?_
    simp only [LCM, B2, Bool.not_eq_false, Bool.not_eq_true, decide_eq_true_eq, decide_eq_false_iff_not, Int.not_lt, Int.not_le, CST, TN, WX, WA, WB, GS, LOC, BT59, SP59, CLS, FLD, ARR, CD, true_and, and_true, and_self, forall_const, true_implies, false_implies, implies_true, not_true_eq_false, not_false_eq_true, if_true, if_false, rgI, rgL, scr, swl, lkl, cats, cat, is2, List.drop_succ_cons, List.drop_zero, List.drop_nil, List.cons_append, List.nil_append, Option.toList_some, Option.toList_none, List.length_cons, List.length_nil, ne_eq, Classical.not_not, reduceCtorEq, Nat.reduceAdd, Nat.reduceSub, Nat.reduceMul, Nat.reduceLT, Nat.reduceLeDiff, Nat.reduceEqDiff, Nat.reduceBEq, Int.reduceToNat, Int.reduceLE, Int.reduceLT, Int.reduceEq, Int.reduceNeg, Int.reduceAdd, Int.reduceSub, Int.reduceMul, Int.toNat_natCast, Nat.zero_add, Int.add_zero, Nat.add_zero, ite_true, ite_false, Option.some.injEq, Nat.le_refl, or_true, true_or, or_false, false_or, if_pos, reduceIte, Nat.reduceGT]
    rw [hv.1]
    refine ⟨hi, fun h => ⟨by omega, fun h1 => ⟨hi, fun h2 => ?_, fun h2 => ?_⟩, fun h1 => ?_⟩, fun h => ?_⟩
    · have hnw := isNewB_iff.mp ((hok.resolve_left h).resolve_left h2)
      obtain ⟨n, rfl⟩ : ∃ n : Nat, i = (n : Int) := ⟨i.toNat, by omega⟩
      rw [Int.toNat_natCast] at hnw
      refine ⟨rcv_ok rfl own40 rfl, kI (x_chosenRest n N T hW hs (by omega) hnw.2) (Nat.le_of_ble_eq_true rfl) rfl rfl (Nat.le_of_ble_eq_true rfl) (Nat.le_of_ble_eq_true rfl) rfl ?_⟩
      refine wpx_ok hS bk59 (sp := sp59) 60 75 _ _ _ _ ?_
      simp only [LCM, B2, Bool.not_eq_false, Bool.not_eq_true, decide_eq_true_eq, decide_eq_false_iff_not, Int.not_lt, Int.not_le, CST, TN, WX, WA, WB, GS, LOC, BT59, SP59, CLS, FLD, ARR, CD, true_and, and_true, and_self, forall_const, true_implies, false_implies, implies_true, not_true_eq_false, not_false_eq_true, if_true, if_false, rgI, rgL, scr, swl, lkl, cats, cat, is2, List.drop_succ_cons, List.drop_zero, List.drop_nil, List.cons_append, List.nil_append, Option.toList_some, Option.toList_none, List.length_cons, List.length_nil, ne_eq, Classical.not_not, reduceCtorEq, Nat.reduceAdd, Nat.reduceSub, Nat.reduceMul, Nat.reduceLT, Nat.reduceLeDiff, Nat.reduceEqDiff, Nat.reduceBEq, Int.reduceToNat, Int.reduceLE, Int.reduceLT, Int.reduceEq, Int.reduceNeg, Int.reduceAdd, Int.reduceSub, Int.reduceMul, Int.toNat_natCast, Nat.zero_add, Int.add_zero, Nat.add_zero, ite_true, ite_false, Option.some.injEq, Nat.le_refl, or_true, true_or, or_false, false_or, if_pos, reduceIte, Nat.reduceGT]
      refine rt59 ⟨rfl, ?_, kC.ofrow hF⟩
      unfold f_settled
      rw [if_pos hok, if_neg h, if_neg h1, if_neg h2, (hv.2.2.1 (by omega)).2 n (by omega) hnw.2, Int.toNat_natCast]
    · refine wpx_ok hS bk59 (sp := sp59) 60 75 _ _ _ _ ?_
      simp only [LCM, B2, Bool.not_eq_false, Bool.not_eq_true, decide_eq_true_eq, decide_eq_false_iff_not, Int.not_lt, Int.not_le, CST, TN, WX, WA, WB, GS, LOC, BT59, SP59, CLS, FLD, ARR, CD, true_and, and_true, and_self, forall_const, true_implies, false_implies, implies_true, not_true_eq_false, not_false_eq_true, if_true, if_false, rgI, rgL, scr, swl, lkl, cats, cat, is2, List.drop_succ_cons, List.drop_zero, List.drop_nil, List.cons_append, List.nil_append, Option.toList_some, Option.toList_none, List.length_cons, List.length_nil, ne_eq, Classical.not_not, reduceCtorEq, Nat.reduceAdd, Nat.reduceSub, Nat.reduceMul, Nat.reduceLT, Nat.reduceLeDiff, Nat.reduceEqDiff, Nat.reduceBEq, Int.reduceToNat, Int.reduceLE, Int.reduceLT, Int.reduceEq, Int.reduceNeg, Int.reduceAdd, Int.reduceSub, Int.reduceMul, Int.toNat_natCast, Nat.zero_add, Int.add_zero, Nat.add_zero, ite_true, ite_false, Option.some.injEq, Nat.le_refl, or_true, true_or, or_false, false_or, if_pos, reduceIte, Nat.reduceGT]
      refine rt59 ⟨rfl, ?_, kC.ofrow hF⟩
      unfold f_settled
      rw [if_pos hok, if_neg h, if_neg h1, if_pos h2, (hv.2.2.1 (by omega)).1]
    · refine rt59 ⟨rfl, ?_, kC.ofrow hF⟩
      unfold f_settled
      rw [if_pos hok, if_neg h, if_pos h1]
    · refine rt59 ⟨rfl, ?_, kC.ofrow hF⟩
      unfold f_settled
      rw [if_pos hok, if_pos h]
  refine wpx_ok hS bk59 (sp := (fun t => sp59 t || t == 21)) 60 0 _ _ _ _ ?_
  simp only [LCM, B2, Bool.not_eq_false, Bool.not_eq_true, decide_eq_true_eq, decide_eq_false_iff_not, Int.not_lt, Int.not_le, CST, TN, WX, WA, WB, GS, LOC, BT59, SP59, CLS, FLD, ARR, CD, true_and, and_true, and_self, forall_const, true_implies, false_implies, implies_true, not_true_eq_false, not_false_eq_true, if_true, if_false, rgI, rgL, scr, swl, lkl, cats, cat, is2, List.drop_succ_cons, List.drop_zero, List.drop_nil, List.cons_append, List.nil_append, Option.toList_some, Option.toList_none, List.length_cons, List.length_nil, ne_eq, Classical.not_not, reduceCtorEq, Nat.reduceAdd, Nat.reduceSub, Nat.reduceMul, Nat.reduceLT, Nat.reduceLeDiff, Nat.reduceEqDiff, Nat.reduceBEq, Int.reduceToNat, Int.reduceLE, Int.reduceLT, Int.reduceEq, Int.reduceNeg, Int.reduceAdd, Int.reduceSub, Int.reduceMul, Int.toNat_natCast, Nat.zero_add, Int.add_zero, Nat.add_zero, ite_true, ite_false, Option.some.injEq, Nat.le_refl, or_true, true_or, or_false, false_or, if_pos, reduceIte, Nat.reduceGT, Bool.or_false, Bool.false_or, Bool.or_true, Bool.true_or, beq_self_eq_true, Nat.reduceBEq]
  refine ⟨hi, fun h => fin (Or.inl h), fun h => ⟨hi, fun h1 => fin (Or.inr (Or.inl h1)), fun h1 => ?_⟩⟩
  refine ⟨rcv_ok rfl own73 rfl, kI (x_isNewHouse i M T hC hW hi) (Nat.le_of_ble_eq_true rfl) rfl rfl (Nat.le_of_ble_eq_true rfl) (Nat.le_of_ble_eq_true rfl) rfl ?_⟩
  refine wpx_ok hS bk59 (sp := (fun t => sp59 t || t == 21)) 60 16 _ _ _ _ ?_
  simp only [LCM, B2, Bool.not_eq_false, Bool.not_eq_true, decide_eq_true_eq, decide_eq_false_iff_not, Int.not_lt, Int.not_le, CST, TN, WX, WA, WB, GS, LOC, BT59, SP59, CLS, FLD, ARR, CD, true_and, and_true, and_self, forall_const, true_implies, false_implies, implies_true, not_true_eq_false, not_false_eq_true, if_true, if_false, rgI, rgL, scr, swl, lkl, cats, cat, is2, List.drop_succ_cons, List.drop_zero, List.drop_nil, List.cons_append, List.nil_append, Option.toList_some, Option.toList_none, List.length_cons, List.length_nil, ne_eq, Classical.not_not, reduceCtorEq, Nat.reduceAdd, Nat.reduceSub, Nat.reduceMul, Nat.reduceLT, Nat.reduceLeDiff, Nat.reduceEqDiff, Nat.reduceBEq, Int.reduceToNat, Int.reduceLE, Int.reduceLT, Int.reduceEq, Int.reduceNeg, Int.reduceAdd, Int.reduceSub, Int.reduceMul, Int.toNat_natCast, Nat.zero_add, Int.add_zero, Nat.add_zero, ite_true, ite_false, Option.some.injEq, Nat.le_refl, or_true, true_or, or_false, false_or, if_pos, reduceIte, Nat.reduceGT, Bool.or_false, Bool.false_or, Bool.or_true, Bool.true_or, beq_self_eq_true, Nat.reduceBEq]
  refine ⟨fun h2 => fin (Or.inr (Or.inr h2)), fun h2 => rt59 ⟨rfl, ?_, kC.rf M⟩⟩
  unfold f_settled
  rw [if_neg (by rw [h2]; simp; omega)]
theorem x_fits (i : Int) (a : Bool) (M T : MM) (hW : WFt T) (hC : RC M T) (hs' : WFs T) (hRS : RS M T) (hi : rgI i) : oQ 7 64 [vR 0, vI i, vI (b2i a)] M (fun r M' => r = some (Sum.inl (f_fits T i a)) ∧ kC M M') := by
  have hH := hW.H
  have hcs : 1 ≤ codes T ∧ codes T ≤ 1728 := pw_sm hW (n := hN T) (Nat.le_refl _)
  have hcr := cnt_rg (okC T true) (codes T)
  refine go64 (fun S hS => ?_)
  have fin : (i = -1 ∨ isNewB T i = true) → S 15 [some (vR 0), some (vI i), some (vI (b2i a))] [] (sh0, 0, 0) M := by
    intro hok
    refine wpx_ok hS bk64 (sp := sp64) 60 15 _ _ _ _ ?_
    simp only [LCM, B2, Bool.not_eq_false, Bool.not_eq_true, decide_eq_true_eq, decide_eq_false_iff_not, Int.not_lt, Int.not_le, CST, TN, WX, WA, WB, GS, LOC, BT64, SP64, CLS, FLD, ARR, CD, true_and, and_true, and_self, forall_const, true_implies, false_implies, implies_true, not_true_eq_false, not_false_eq_true, if_true, if_false, rgI, rgL, scr, swl, lkl, cats, cat, is2, List.drop_succ_cons, List.drop_zero, List.drop_nil, List.cons_append, List.nil_append, Option.toList_some, Option.toList_none, List.length_cons, List.length_nil, ne_eq, Classical.not_not, reduceCtorEq, Nat.reduceAdd, Nat.reduceSub, Nat.reduceMul, Nat.reduceLT, Nat.reduceLeDiff, Nat.reduceEqDiff, Nat.reduceBEq, Int.reduceToNat, Int.reduceLE, Int.reduceLT, Int.reduceEq, Int.reduceNeg, Int.reduceAdd, Int.reduceSub, Int.reduceMul, Int.toNat_natCast, Nat.zero_add, Int.add_zero, Nat.add_zero, ite_true, ite_false, Option.some.injEq, Nat.le_refl, or_true, true_or, or_false, false_or, if_pos, reduceIte, Nat.reduceGT]
    refine ⟨rcv_ok rfl own93 rfl, kQ (x_goFits M T hC hW hs' hRS) (Nat.le_of_ble_eq_true rfl) rfl rfl (Nat.le_of_ble_eq_true rfl) (Nat.le_of_ble_eq_true rfl) rfl ?_⟩
    rintro r N ⟨rfl, hs, hv, hF⟩
    refine wpx_ok hS bk64 (sp := sp64) 60 19 _ _ _ _ ?_
    simp only [LCM, B2, Bool.not_eq_false, Bool.not_eq_true, decide_eq_true_eq, decide_eq_false_iff_not, Int.not_lt, Int.not_le, CST, TN, WX, WA, WB, GS, LOC, BT64, SP64, CLS, FLD, ARR, CD, true_and, and_true, and_self, forall_const, true_implies, false_implies, implies_true, not_true_eq_false, not_false_eq_true, if_true, if_false, rgI, rgL, scr, swl, lkl, cats, cat, is2, List.drop_succ_cons, List.drop_zero, List.drop_nil, List.cons_append, List.nil_append, Option.toList_some, Option.toList_none, List.length_cons, List.length_nil, ne_eq, Classical.not_not, reduceCtorEq, Nat.reduceAdd, Nat.reduceSub, Nat.reduceMul, Nat.reduceLT, Nat.reduceLeDiff, Nat.reduceEqDiff, Nat.reduceBEq, Int.reduceToNat, Int.reduceLE, Int.reduceLT, Int.reduceEq, Int.reduceNeg, Int.reduceAdd, Int.reduceSub, Int.reduceMul, Int.toNat_natCast, Nat.zero_add, Int.add_zero, Nat.add_zero, ite_true, ite_false, Option.some.injEq, Nat.le_refl, or_true, true_or, or_false, false_or, if_pos, reduceIte, Nat.reduceGT]
    rw [hv.1]
    refine ⟨hi, fun h => ⟨by omega, fun h1 => ?_, fun h1 => ?_⟩, fun h => ?_⟩
    · have hnw := isNewB_iff.mp (hok.resolve_left h)
      obtain ⟨n, rfl⟩ : ∃ n : Nat, i = (n : Int) := ⟨i.toNat, by omega⟩
      rw [Int.toNat_natCast] at hnw
      refine ⟨fun h2 => ?_, fun h2 => ?_⟩
      · refine ⟨rcv_ok rfl own40 rfl, kI (x_chosenRest n N T hW hs (by omega) hnw.2) (Nat.le_of_ble_eq_true rfl) rfl rfl (Nat.le_of_ble_eq_true rfl) (Nat.le_of_ble_eq_true rfl) rfl ?_⟩
        refine wpx_ok hS bk64 (sp := sp64) 60 68 _ _ _ _ ?_
        simp only [LCM, B2, Bool.not_eq_false, Bool.not_eq_true, decide_eq_true_eq, decide_eq_false_iff_not, Int.not_lt, Int.not_le, CST, TN, WX, WA, WB, GS, LOC, BT64, SP64, CLS, FLD, ARR, CD, true_and, and_true, and_self, forall_const, true_implies, false_implies, implies_true, not_true_eq_false, not_false_eq_true, if_true, if_false, rgI, rgL, scr, swl, lkl, cats, cat, is2, List.drop_succ_cons, List.drop_zero, List.drop_nil, List.cons_append, List.nil_append, Option.toList_some, Option.toList_none, List.length_cons, List.length_nil, ne_eq, Classical.not_not, reduceCtorEq, Nat.reduceAdd, Nat.reduceSub, Nat.reduceMul, Nat.reduceLT, Nat.reduceLeDiff, Nat.reduceEqDiff, Nat.reduceBEq, Int.reduceToNat, Int.reduceLE, Int.reduceLT, Int.reduceEq, Int.reduceNeg, Int.reduceAdd, Int.reduceSub, Int.reduceMul, Int.toNat_natCast, Nat.zero_add, Int.add_zero, Nat.add_zero, ite_true, ite_false, Option.some.injEq, Nat.le_refl, or_true, true_or, or_false, false_or, if_pos, reduceIte, Nat.reduceGT]
        refine rt64 ⟨rfl, ?_, kC.ofrow hF⟩
        unfold f_fits
        rw [if_pos hok, if_neg h, if_neg h1, h2, if_neg (by decide), (hv.2.2.1 (by omega)).2 n (by omega) hnw.2, Int.toNat_natCast]
      · refine ⟨rcv_ok rfl own41 rfl, kI (x_restsOfSome n N T hW hs (by omega) hnw.2) (Nat.le_of_ble_eq_true rfl) rfl rfl (Nat.le_of_ble_eq_true rfl) (Nat.le_of_ble_eq_true rfl) rfl ?_⟩
        refine wpx_ok hS bk64 (sp := sp64) 60 57 _ _ _ _ ?_
        simp only [LCM, B2, Bool.not_eq_false, Bool.not_eq_true, decide_eq_true_eq, decide_eq_false_iff_not, Int.not_lt, Int.not_le, CST, TN, WX, WA, WB, GS, LOC, BT64, SP64, CLS, FLD, ARR, CD, true_and, and_true, and_self, forall_const, true_implies, false_implies, implies_true, not_true_eq_false, not_false_eq_true, if_true, if_false, rgI, rgL, scr, swl, lkl, cats, cat, is2, List.drop_succ_cons, List.drop_zero, List.drop_nil, List.cons_append, List.nil_append, Option.toList_some, Option.toList_none, List.length_cons, List.length_nil, ne_eq, Classical.not_not, reduceCtorEq, Nat.reduceAdd, Nat.reduceSub, Nat.reduceMul, Nat.reduceLT, Nat.reduceLeDiff, Nat.reduceEqDiff, Nat.reduceBEq, Int.reduceToNat, Int.reduceLE, Int.reduceLT, Int.reduceEq, Int.reduceNeg, Int.reduceAdd, Int.reduceSub, Int.reduceMul, Int.toNat_natCast, Nat.zero_add, Int.add_zero, Nat.add_zero, ite_true, ite_false, Option.some.injEq, Nat.le_refl, or_true, true_or, or_false, false_or, if_pos, reduceIte, Nat.reduceGT]
        refine wpx_ok hS bk64 (sp := sp64) 60 68 _ _ _ _ ?_
        simp only [LCM, B2, Bool.not_eq_false, Bool.not_eq_true, decide_eq_true_eq, decide_eq_false_iff_not, Int.not_lt, Int.not_le, CST, TN, WX, WA, WB, GS, LOC, BT64, SP64, CLS, FLD, ARR, CD, true_and, and_true, and_self, forall_const, true_implies, false_implies, implies_true, not_true_eq_false, not_false_eq_true, if_true, if_false, rgI, rgL, scr, swl, lkl, cats, cat, is2, List.drop_succ_cons, List.drop_zero, List.drop_nil, List.cons_append, List.nil_append, Option.toList_some, Option.toList_none, List.length_cons, List.length_nil, ne_eq, Classical.not_not, reduceCtorEq, Nat.reduceAdd, Nat.reduceSub, Nat.reduceMul, Nat.reduceLT, Nat.reduceLeDiff, Nat.reduceEqDiff, Nat.reduceBEq, Int.reduceToNat, Int.reduceLE, Int.reduceLT, Int.reduceEq, Int.reduceNeg, Int.reduceAdd, Int.reduceSub, Int.reduceMul, Int.toNat_natCast, Nat.zero_add, Int.add_zero, Nat.add_zero, ite_true, ite_false, Option.some.injEq, Nat.le_refl, or_true, true_or, or_false, false_or, if_pos, reduceIte, Nat.reduceGT]
        refine rt64 ⟨rfl, ?_, kC.ofrow hF⟩
        unfold f_fits
        rw [if_pos hok, if_neg h, if_neg h1, h2, if_pos rfl, hv.2.2.2 n (by omega) hnw.2, Int.toNat_natCast]
    · refine rt64 ⟨rfl, ?_, kC.ofrow hF⟩
      unfold f_fits
      rw [if_pos hok, if_neg h, if_pos h1]
    · refine rt64 ⟨rfl, ?_, kC.ofrow hF⟩
      unfold f_fits
      rw [if_pos hok, if_pos h]
  refine wpx_ok hS bk64 (sp := (fun t => sp64 t || t == 15)) 60 0 _ _ _ _ ?_
  simp only [LCM, B2, Bool.not_eq_false, Bool.not_eq_true, decide_eq_true_eq, decide_eq_false_iff_not, Int.not_lt, Int.not_le, CST, TN, WX, WA, WB, GS, LOC, BT64, SP64, CLS, FLD, ARR, CD, true_and, and_true, and_self, forall_const, true_implies, false_implies, implies_true, not_true_eq_false, not_false_eq_true, if_true, if_false, rgI, rgL, scr, swl, lkl, cats, cat, is2, List.drop_succ_cons, List.drop_zero, List.drop_nil, List.cons_append, List.nil_append, Option.toList_some, Option.toList_none, List.length_cons, List.length_nil, ne_eq, Classical.not_not, reduceCtorEq, Nat.reduceAdd, Nat.reduceSub, Nat.reduceMul, Nat.reduceLT, Nat.reduceLeDiff, Nat.reduceEqDiff, Nat.reduceBEq, Int.reduceToNat, Int.reduceLE, Int.reduceLT, Int.reduceEq, Int.reduceNeg, Int.reduceAdd, Int.reduceSub, Int.reduceMul, Int.toNat_natCast, Nat.zero_add, Int.add_zero, Nat.add_zero, ite_true, ite_false, Option.some.injEq, Nat.le_refl, or_true, true_or, or_false, false_or, if_pos, reduceIte, Nat.reduceGT, Bool.or_false, Bool.false_or, Bool.or_true, Bool.true_or, beq_self_eq_true, Nat.reduceBEq]
  refine ⟨hi, fun h => fin (Or.inl h), fun h => ?_⟩
  refine ⟨rcv_ok rfl own73 rfl, kI (x_isNewHouse i M T hC hW hi) (Nat.le_of_ble_eq_true rfl) rfl rfl (Nat.le_of_ble_eq_true rfl) (Nat.le_of_ble_eq_true rfl) rfl ?_⟩
  refine wpx_ok hS bk64 (sp := (fun t => sp64 t || t == 15)) 60 10 _ _ _ _ ?_
  simp only [LCM, B2, Bool.not_eq_false, Bool.not_eq_true, decide_eq_true_eq, decide_eq_false_iff_not, Int.not_lt, Int.not_le, CST, TN, WX, WA, WB, GS, LOC, BT64, SP64, CLS, FLD, ARR, CD, true_and, and_true, and_self, forall_const, true_implies, false_implies, implies_true, not_true_eq_false, not_false_eq_true, if_true, if_false, rgI, rgL, scr, swl, lkl, cats, cat, is2, List.drop_succ_cons, List.drop_zero, List.drop_nil, List.cons_append, List.nil_append, Option.toList_some, Option.toList_none, List.length_cons, List.length_nil, ne_eq, Classical.not_not, reduceCtorEq, Nat.reduceAdd, Nat.reduceSub, Nat.reduceMul, Nat.reduceLT, Nat.reduceLeDiff, Nat.reduceEqDiff, Nat.reduceBEq, Int.reduceToNat, Int.reduceLE, Int.reduceLT, Int.reduceEq, Int.reduceNeg, Int.reduceAdd, Int.reduceSub, Int.reduceMul, Int.toNat_natCast, Nat.zero_add, Int.add_zero, Nat.add_zero, ite_true, ite_false, Option.some.injEq, Nat.le_refl, or_true, true_or, or_false, false_or, if_pos, reduceIte, Nat.reduceGT, Bool.or_false, Bool.false_or, Bool.or_true, Bool.true_or, beq_self_eq_true, Nat.reduceBEq]
  refine ⟨fun h2 => fin (Or.inr h2), fun h2 => rt64 ⟨rfl, ?_, kC.rf M⟩⟩
  unfold f_fits
  rw [if_neg (by rw [h2]; simp; omega)]
theorem new0 {T : MM} (h : WFt T) : mk (newP T) = 0 ↔ cnt (newB T) (hN T) = 0 := by
  have h3 := new3 h
  rw [mk_eq0, ← h3.2]
  constructor
  · intro h1; exact cnt_0 (fun i hi => h1 i hi)
  · intro h1 i hi
    cases hb : newP T i with
    | false => rfl
    | true =>
      have := cnt_pos (p := newB T) (n := 10) ⟨i, hi, hb⟩
      omega
/-- the component's cells behind settle -/
theorem x_settle (M T : MM) (hW : WFt T) (hC : RC M T) : oQ 7 68 [vR 0] M (fun r M' => r = some (Sum.inl (f_settle T)) ∧ RC M' (g_settle T) ∧ ∀ k j, ¬ (row k ∨ k = 28 ∨ (k = 26 ∧ j = 2)) → M' k j = M k j) := by
  have hH := hW.H
  have hn3 := nM_3 hW
  have hcs : 1 ≤ codes T ∧ codes T ≤ 1728 := pw_sm hW (n := hN T) (Nat.le_refl _)
  have hcr := cnt_rg (okC T false) (codes T)
  have hmr := mk_rg (newP T)
  refine go68 (fun S hS => ?_)
  refine wpx_ok hS bk68 (sp := sp68) 60 0 _ _ _ _ ?_
  simp only [LCM, B2, Bool.not_eq_false, Bool.not_eq_true, decide_eq_true_eq, decide_eq_false_iff_not, Int.not_lt, Int.not_le, CST, TN, WX, WA, WB, GS, LOC, BT68, SP68, CLS, FLD, ARR, CD, true_and, and_true, and_self, forall_const, true_implies, false_implies, implies_true, not_true_eq_false, not_false_eq_true, if_true, if_false, rgI, rgL, scr, swl, lkl, cats, cat, is2, List.drop_succ_cons, List.drop_zero, List.drop_nil, List.cons_append, List.nil_append, Option.toList_some, Option.toList_none, List.length_cons, List.length_nil, ne_eq, Classical.not_not, reduceCtorEq, Nat.reduceAdd, Nat.reduceSub, Nat.reduceMul, Nat.reduceLT, Nat.reduceLeDiff, Nat.reduceEqDiff, Nat.reduceBEq, Int.reduceToNat, Int.reduceLE, Int.reduceLT, Int.reduceEq, Int.reduceNeg, Int.reduceAdd, Int.reduceSub, Int.reduceMul, Int.toNat_natCast, Nat.zero_add, Int.add_zero, Nat.add_zero, ite_true, ite_false, Option.some.injEq, Nat.le_refl, or_true, true_or, or_false, false_or, if_pos, reduceIte, Nat.reduceGT]
  rw [hC.2.2.2.2.2, new0 hW]
  refine ⟨by omega, fun h => ?_, fun h => ?_⟩
  · refine ⟨rcv_ok rfl own92 rfl, kQ (x_goSettled M T hC hW) (Nat.le_of_ble_eq_true rfl) rfl rfl (Nat.le_of_ble_eq_true rfl) (Nat.le_of_ble_eq_true rfl) rfl ?_⟩
    rintro r N ⟨rfl, hs, hv, hF⟩
    have hC1 : RC N T := hC.keep (fun k j h1 h2 => hF k j (by unfold row ro; omega))
    refine wpx_ok hS bk68 (sp := sp68) 60 17 _ _ _ _ ?_
    simp only [LCM, B2, Bool.not_eq_false, Bool.not_eq_true, decide_eq_true_eq, decide_eq_false_iff_not, Int.not_lt, Int.not_le, CST, TN, WX, WA, WB, GS, LOC, BT68, SP68, CLS, FLD, ARR, CD, true_and, and_true, and_self, forall_const, true_implies, false_implies, implies_true, not_true_eq_false, not_false_eq_true, if_true, if_false, rgI, rgL, scr, swl, lkl, cats, cat, is2, List.drop_succ_cons, List.drop_zero, List.drop_nil, List.cons_append, List.nil_append, Option.toList_some, Option.toList_none, List.length_cons, List.length_nil, ne_eq, Classical.not_not, reduceCtorEq, Nat.reduceAdd, Nat.reduceSub, Nat.reduceMul, Nat.reduceLT, Nat.reduceLeDiff, Nat.reduceEqDiff, Nat.reduceBEq, Int.reduceToNat, Int.reduceLE, Int.reduceLT, Int.reduceEq, Int.reduceNeg, Int.reduceAdd, Int.reduceSub, Int.reduceMul, Int.toNat_natCast, Nat.zero_add, Int.add_zero, Nat.add_zero, ite_true, ite_false, Option.some.injEq, Nat.le_refl, or_true, true_or, or_false, false_or, if_pos, reduceIte, Nat.reduceGT]
    rw [hv.1]
    refine ⟨by omega, fun h1 => ?_, fun h1 => ?_⟩
    · have hok : okSt T = true := by unfold okSt; rw [decide_eq_true h, decide_eq_true h1]; rfl
      have h42 := (hv.2.2.1 (by omega)).2
      have head : ∀ (n k : Nat) (N1 : MM), k + n = nM T → (∀ k j, k ≠ 28 → N1 k j = N k j) → (∀ i, i < hN T → newB T i = true → ix T i < k → N1 28 i = dig T (bsC T false (codes T)) i) → (∀ i, i < hN T → ¬ (newB T i = true ∧ ix T i < k) → N1 28 i = N 28 i) → S 32 [some (vR 0), some (vI k)] [] (sh0, 0, 0) N1 := by
        intro n
        induction n with
        | zero =>
          intro k N1 hk hF1 hlo hot
          have hxl : ∀ i, i < hN T → newB T i = true → ix T i < k := fun i hi hb => by have := ix_lt (T := T) (j := hN T) hi hb; unfold nM at hk; omega
          refine wpx_ok hS bk68 (sp := sp68) 60 32 _ _ _ _ ?_
          simp only [LCM, B2, Bool.not_eq_false, Bool.not_eq_true, decide_eq_true_eq, decide_eq_false_iff_not, Int.not_lt, Int.not_le, CST, TN, WX, WA, WB, GS, LOC, BT68, SP68, CLS, FLD, ARR, CD, true_and, and_true, and_self, forall_const, true_implies, false_implies, implies_true, not_true_eq_false, not_false_eq_true, if_true, if_false, rgI, rgL, scr, swl, lkl, cats, cat, is2, List.drop_succ_cons, List.drop_zero, List.drop_nil, List.cons_append, List.nil_append, Option.toList_some, Option.toList_none, List.length_cons, List.length_nil, ne_eq, Classical.not_not, reduceCtorEq, Nat.reduceAdd, Nat.reduceSub, Nat.reduceMul, Nat.reduceLT, Nat.reduceLeDiff, Nat.reduceEqDiff, Nat.reduceBEq, Int.reduceToNat, Int.reduceLE, Int.reduceLT, Int.reduceEq, Int.reduceNeg, Int.reduceAdd, Int.reduceSub, Int.reduceMul, Int.toNat_natCast, Nat.zero_add, Int.add_zero, Nat.add_zero, ite_true, ite_false, Option.some.injEq, Nat.le_refl, or_true, true_or, or_false, false_or, if_pos, reduceIte, Nat.reduceGT, ms_ne, ms_eq, ms_nj]
          rw [hF1 37 0 (by decide), hs.1]
          refine ⟨by omega, fun _ => rt68 ⟨rfl, ?_, ?_, fun k j hk => ?_⟩, fun h => by omega⟩
          · unfold f_settle; rw [hok, if_pos rfl, hn3.2]
          · obtain ⟨c1, c2, c3, c4, c5, c6⟩ := hC1
            have eg : ∀ k j, k ≠ 64 → g_settle T k j = cd T (bsC T false (codes T)) k j := fun k j hk => by unfold g_settle; rw [hok, if_pos rfl, if_neg (fun z => hk z.1)]
            have es : ∀ k j, k ≠ 64 → k ≠ 61 → g_settle T k j = T k j := fun k j h1 h2 => by rw [eg k j h1]; exact (cd_SW T _).1 k j h2
            have eh : hN (g_settle T) = hN T := by unfold hN; rw [es 58 0 (by decide) (by decide)]
            have ew : wN (g_settle T) = wN T := by unfold wN; rw [es 59 0 (by decide) (by decide)]
            have e2 : ∀ i, g_settle T 61 (4 * i + 2) = T 61 (4 * i + 2) ∧ g_settle T 61 (4 * i + 3) = T 61 (4 * i + 3) := fun i => by rw [eg _ _ (by decide), eg _ _ (by decide)]; exact (cd_SW T _).2 i
            have eN : ∀ k j, k ≠ 28 → ¬ (k = 26 ∧ j = 2) → mset N1 26 2 0 k j = N k j := fun k j h1 h2 => by unfold mset; rw [if_neg h2]; exact hF1 k j h1
            refine ⟨⟨?_, ?_, ?_, ?_, ?_⟩, fun i hi => ?_, fun s hs => ?_, fun w hw => ?_, fun i hi => ?_, ?_⟩
            · rw [eN _ _ (by decide) (by decide), es _ _ (by decide) (by decide)]; exact c1.1
            · rw [eN _ _ (by decide) (by decide), es _ _ (by decide) (by decide)]; exact c1.2.1
            · rw [eN _ _ (by decide) (by decide), es _ _ (by decide) (by decide)]; exact c1.2.2.1
            · rw [eN _ _ (by decide) (by decide), es _ _ (by decide) (by decide)]; exact c1.2.2.2.1
            · rw [eN _ _ (by decide) (by decide), es _ _ (by decide) (by decide)]; exact c1.2.2.2.2
            · rw [eh] at hi
              rw [eN _ _ (by decide) (by omega), eN _ _ (by decide) (by omega), (e2 i).1, (e2 i).2]
              exact c2 i hi
            · rw [eN _ _ (by decide) (by omega), c3 s hs]
              refine mk_eq (fun i _ => ?_)
              unfold skP skB
              rw [eh, (e2 i).1]
            · rw [ew] at hw
              rw [eN _ _ (by decide) (by omega), eN _ _ (by decide) (by omega), eN _ _ (by decide) (by omega), es _ _ (by decide) (by decide), es _ _ (by decide) (by decide), es _ _ (by decide) (by decide)]
              exact c4 w hw
            · rw [eh] at hi
              rw [eN _ _ (by decide) (by omega), eg _ _ (by decide), eg _ _ (by decide), (cd_at _ hi).1, (cd_at _ hi).2, ms_ne (by decide)]
              refine ⟨(c5 i hi).1, ?_⟩
              cases hb : newB T i with
              | true => rw [hlo i hi hb (hxl i hi hb)]; rfl
              | false => rw [hot i hi (fun z => by rw [hb] at z; cases z.1)]; exact (c5 i hi).2
            · rw [ms_eq, ← mk_0]
              refine mk_eq (fun i hi => ?_)
              unfold newP newB g_settle
              rw [hok, if_pos rfl, if_pos ⟨rfl, hi⟩]
              rfl
          · unfold mset
            rw [if_neg (fun z => hk (Or.inr (Or.inr z))), hF1 k j (fun z => hk (Or.inr (Or.inl z)))]
            exact hF k j (fun z => hk (Or.inl z))
        | succ n ih =>
          intro k N1 hk hF1 hlo hot
          obtain ⟨i, hi, hb, hix⟩ := ix_surj (T := T) (n := hN T) (k := k) (by unfold nM at hk; omega)
          have e38 : N1 38 k = i := by rw [hF1 38 k (by decide), ← hix]; exact (hs.2.2 i hi hb).1
          have e42 : N1 42 k = dig T (bsC T false (codes T)) i := by rw [hF1 42 k (by decide), ← hix]; exact h42 i hi hb
          refine wpx_ok hS bk68 (sp := sp68) 60 32 _ _ _ _ ?_
          simp only [LCM, B2, Bool.not_eq_false, Bool.not_eq_true, decide_eq_true_eq, decide_eq_false_iff_not, Int.not_lt, Int.not_le, CST, TN, WX, WA, WB, GS, LOC, BT68, SP68, CLS, FLD, ARR, CD, true_and, and_true, and_self, forall_const, true_implies, false_implies, implies_true, not_true_eq_false, not_false_eq_true, if_true, if_false, rgI, rgL, scr, swl, lkl, cats, cat, is2, List.drop_succ_cons, List.drop_zero, List.drop_nil, List.cons_append, List.nil_append, Option.toList_some, Option.toList_none, List.length_cons, List.length_nil, ne_eq, Classical.not_not, reduceCtorEq, Nat.reduceAdd, Nat.reduceSub, Nat.reduceMul, Nat.reduceLT, Nat.reduceLeDiff, Nat.reduceEqDiff, Nat.reduceBEq, Int.reduceToNat, Int.reduceLE, Int.reduceLT, Int.reduceEq, Int.reduceNeg, Int.reduceAdd, Int.reduceSub, Int.reduceMul, Int.toNat_natCast, Nat.zero_add, Int.add_zero, Nat.add_zero, ite_true, ite_false, Option.some.injEq, Nat.le_refl, or_true, true_or, or_false, false_or, if_pos, reduceIte, Nat.reduceGT]
          rw [hF1 37 0 (by decide), hs.1, e38, e42]
          simp only [Int.toNat_natCast]
          refine ⟨by omega, fun h => by omega, fun h => ⟨by omega, by omega, by omega, ?_⟩⟩
          refine ih (k + 1) _ (by omega) (fun k j hk => by rw [ms_ne hk]; exact hF1 k j hk) (fun x hx hbx hxk => ?_) (fun x hx hnx => ?_)
          · by_cases hxi : x = i
            · subst hxi; rw [ms_eq]
            · have : ix T x ≠ k := fun z => hxi (ix_inj hbx hb (by omega))
              rw [ms_nj hxi]; exact hlo x hx hbx (by omega)
          · have hxi : x ≠ i := fun z => hnx (by subst z; exact ⟨hb, by omega⟩)
            rw [ms_nj hxi]
            exact hot x hx (fun z => hnx ⟨z.1, by omega⟩)
      exact head (nM T) 0 N (by omega) (fun _ _ _ => rfl) (fun i _ _ h => by omega) (fun _ _ _ => rfl)
    · have hok : okSt T = false := by unfold okSt; rw [decide_eq_false (show ¬ (cnt (okC T false) (codes T) ≠ 0) by omega), Bool.and_false]
      refine rt68 ⟨rfl, ?_, ?_, fun k j hk => hF k j (fun z => hk (Or.inl z))⟩
      · unfold f_settle; rw [hok]; rfl
      · unfold g_settle; rw [hok]; exact hC1
  · have hok : okSt T = false := by unfold okSt; rw [decide_eq_false (by omega)]; rfl
    refine rt68 ⟨rfl, ?_, ?_, fun _ _ _ => rfl⟩
    · unfold f_settle; rw [hok]; rfl
    · unfold g_settle; rw [hok]; exact hC

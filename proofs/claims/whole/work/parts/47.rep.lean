/-! the text -/
def RX (M T : MM) : Prop := M 0 1 = T 55 0 ∧ ∀ k : Nat, (k : Int) < T 55 0 → M 1 k = T 56 k
theorem RX.step {N G : MM} (h : RX N G) (h0 : 0 ≤ G 55 0) (b : Int) : RX (mset (mset N 1 (G 55 0).toNat b) 0 1 (G 55 0 + 1)) (mset (mset G 56 (G 55 0).toNat b) 55 0 (G 55 0 + 1)) := by
  refine ⟨rfl, fun k hk => ?_⟩
  rw [ms_eq] at hk
  rw [ms_ne (show (1 : Nat) ≠ 0 by decide), ms_ne (show (56 : Nat) ≠ 55 by decide)]
  by_cases hk2 : k = (G 55 0).toNat
  · subst hk2; rw [ms_eq, ms_eq]
  · rw [ms_nj hk2, ms_nj hk2]
    exact h.2 k (by omega)
theorem x_write (n v : Int) (M T : MM) (hX : RX M T) (hT : WFx T) (hn : rgI n) : oQ 1 44 [vR 0, vI n, vL v] M (fun r M' => r = some (Sum.inl (f_write T n)) ∧ RX M' (g_write T n v) ∧ ∀ k j, ¬ (k = 1 ∨ (k = 0 ∧ j = 1)) → M' k j = M k j) := by
  unfold WFx at hT
  have h01 := hX.1
  have bad : ∀ r : Int, f_write T n = r → g_write T n v = T → Rtn 44 0 0 (fun r sh M' => sh = sh0 ∧ r = some (Sum.inl (f_write T n)) ∧ RX M' (g_write T n v) ∧ ∀ k j, ¬ (k = 1 ∨ (k = 0 ∧ j = 1)) → M' k j = M k j) (some (Sum.inl r)) (sh0, 0, 0) M := by
    intro r h1 h2
    exact rt44 ⟨rfl, by rw [h1], by rw [h2]; exact hX, fun _ _ _ => rfl⟩
  have hbad1 : ¬ (1 ≤ n ∧ n ≤ 8) → f_write T n = -1 ∧ g_write T n v = T := fun h => ⟨by unfold f_write; rw [if_neg h], by unfold g_write; rw [if_neg (fun z => h z.1)]⟩
  refine go44 (fun S hS => ?_)
  refine wpx_ok hS bk44 (sp := sp44) 60 0 _ _ _ _ ?_
  simp only [LCM, B2, Bool.not_eq_false, Bool.not_eq_true, decide_eq_true_eq, decide_eq_false_iff_not, Int.not_lt, Int.not_le, CST, TN, WX, WA, WB, GS, LOC, BT44, SP44, CLS, FLD, ARR, CD, true_and, and_true, and_self, forall_const, true_implies, false_implies, implies_true, not_true_eq_false, not_false_eq_true, if_true, if_false, rgI, rgL, scr, swl, lkl, cats, cat, is2, List.drop_succ_cons, List.drop_zero, List.drop_nil, List.cons_append, List.nil_append, Option.toList_some, Option.toList_none, List.length_cons, List.length_nil, ne_eq, Classical.not_not, reduceCtorEq, Nat.reduceAdd, Nat.reduceSub, Nat.reduceMul, Nat.reduceLT, Nat.reduceLeDiff, Nat.reduceEqDiff, Nat.reduceBEq, Int.reduceToNat, Int.reduceLE, Int.reduceLT, Int.reduceEq, Int.reduceNeg, Int.reduceAdd, Int.reduceSub, Int.reduceMul, Int.toNat_natCast, Nat.zero_add, Int.add_zero, Nat.add_zero, ite_true, ite_false, Option.some.injEq, Nat.le_refl, or_true, true_or, or_false, false_or, if_pos, reduceIte, Nat.reduceGT]
  rw [h01]
  refine ⟨hn, fun h => bad _ (hbad1 (by omega)).1 (hbad1 (by omega)).2, fun h => ⟨hn, fun h1 => ⟨by omega, fun h2 => ?_, fun h2 => ?_⟩, fun h1 => bad _ (hbad1 (by omega)).1 (hbad1 (by omega)).2⟩⟩
  · have head : ∀ (k : Nat) (N G : MM), k ≤ 8 → RX N G → 0 ≤ G 55 0 → G 55 0 + k = T 55 0 + n → g_wr G v k = g_write T n v → (∀ k j, ¬ (k = 1 ∨ (k = 0 ∧ j = 1)) → N k j = M k j) → S 33 [some (vR 0), some (vI n), some (vL v), none, some (vI ((k : Int) - 1))] [] (sh0, 0, 0) N := by
      intro k
      induction k with
      | zero =>
        intro N G hk8 hR hG0 hG1 hg hF
        rw [show ((0 : Nat) : Int) - 1 = -1 from rfl]
        refine wpx_ok hS bk44 (sp := sp44) 60 33 _ _ _ _ ?_
        simp only [LCM, B2, Bool.not_eq_false, Bool.not_eq_true, decide_eq_true_eq, decide_eq_false_iff_not, Int.not_lt, Int.not_le, CST, TN, WX, WA, WB, GS, LOC, BT44, SP44, CLS, FLD, ARR, CD, true_and, and_true, and_self, forall_const, true_implies, false_implies, implies_true, not_true_eq_false, not_false_eq_true, if_true, if_false, rgI, rgL, scr, swl, lkl, cats, cat, is2, List.drop_succ_cons, List.drop_zero, List.drop_nil, List.cons_append, List.nil_append, Option.toList_some, Option.toList_none, List.length_cons, List.length_nil, ne_eq, Classical.not_not, reduceCtorEq, Nat.reduceAdd, Nat.reduceSub, Nat.reduceMul, Nat.reduceLT, Nat.reduceLeDiff, Nat.reduceEqDiff, Nat.reduceBEq, Int.reduceToNat, Int.reduceLE, Int.reduceLT, Int.reduceEq, Int.reduceNeg, Int.reduceAdd, Int.reduceSub, Int.reduceMul, Int.toNat_natCast, Nat.zero_add, Int.add_zero, Nat.add_zero, ite_true, ite_false, Option.some.injEq, Nat.le_refl, or_true, true_or, or_false, false_or, if_pos, reduceIte, Nat.reduceGT]
        refine rt44 ⟨rfl, ?_, by rw [← hg]; exact hR, hF⟩
        unfold f_write
        rw [if_pos ⟨h, h1⟩, if_neg (by omega), hR.1]
        congr 2
        omega
      | succ k ih =>
        intro N G hk8 hR hG0 hG1 hg hF
        rw [g_wr] at hg
        have h3 := ih _ _ (by omega) (hR.step hG0 (byt v k)) (by rw [ms_eq]; omega) (by rw [ms_eq]; omega) hg (fun x j hx => by
          rw [show mset (mset N 1 (G 55 0).toNat (byt v k)) 0 1 (G 55 0 + 1) x j = N x j by unfold mset; rw [if_neg (by omega), if_neg (by omega)]]
          exact hF x j hx)
        rw [show ((k + 1 : Nat) : Int) - 1 = (k : Int) by omega]
        refine wpx_ok hS bk44 (sp := sp44) 60 33 _ _ _ _ ?_
        simp only [LCM, B2, Bool.not_eq_false, Bool.not_eq_true, decide_eq_true_eq, decide_eq_false_iff_not, Int.not_lt, Int.not_le, CST, TN, WX, WA, WB, GS, LOC, BT44, SP44, CLS, FLD, ARR, CD, true_and, and_true, and_self, forall_const, true_implies, false_implies, implies_true, not_true_eq_false, not_false_eq_true, if_true, if_false, rgI, rgL, scr, swl, lkl, cats, cat, is2, List.drop_succ_cons, List.drop_zero, List.drop_nil, List.cons_append, List.nil_append, Option.toList_some, Option.toList_none, List.length_cons, List.length_nil, ne_eq, Classical.not_not, reduceCtorEq, Nat.reduceAdd, Nat.reduceSub, Nat.reduceMul, Nat.reduceLT, Nat.reduceLeDiff, Nat.reduceEqDiff, Nat.reduceBEq, Int.reduceToNat, Int.reduceLE, Int.reduceLT, Int.reduceEq, Int.reduceNeg, Int.reduceAdd, Int.reduceSub, Int.reduceMul, Int.toNat_natCast, Nat.zero_add, Int.add_zero, Nat.add_zero, ite_true, ite_false, Option.some.injEq, Nat.le_refl, or_true, true_or, or_false, false_or, if_pos, reduceIte, Nat.reduceGT, ms_ne, ms_eq, ms_nj]
        rw [hR.1, usr_shr v k (by omega), show bByt (bByt (lShr v (8 * (k : Int)))) = byt v k from rfl, show (k : Int) + -1 = (k : Int) - 1 by omega]
        exact ⟨by omega, fun h4 => by omega, fun h4 => ⟨by omega, h3⟩⟩
    obtain ⟨m, rfl⟩ : ∃ m : Nat, n = (m : Int) := ⟨n.toNat, by omega⟩
    exact head m M T (by omega) hX (by omega) rfl (by unfold g_write; rw [if_pos ⟨⟨h, h1⟩, h2⟩, Int.toNat_natCast]) (fun _ _ _ => rfl)
  · exact bad _ (by unfold f_write; rw [if_pos ⟨h, h1⟩, if_pos (by omega)]) (by unfold g_write; rw [if_neg (by omega)])
theorem x_wipe (M T : MM) (hX : RX M T) : oQ 1 45 [vR 0] M (fun r M' => r = some (Sum.inl (T 55 0)) ∧ M' = mset M 0 1 0) := by
  refine go45 (fun S hS => ?_)
  refine wpx_ok hS bk45 (sp := sp45) 60 0 _ _ _ _ ?_
  simp only [LCM, B2, Bool.not_eq_false, Bool.not_eq_true, decide_eq_true_eq, decide_eq_false_iff_not, Int.not_lt, Int.not_le, CST, TN, WX, WA, WB, GS, LOC, BT45, SP45, CLS, FLD, ARR, CD, true_and, and_true, and_self, forall_const, true_implies, false_implies, implies_true, not_true_eq_false, not_false_eq_true, if_true, if_false, rgI, rgL, scr, swl, lkl, cats, cat, is2, List.drop_succ_cons, List.drop_zero, List.drop_nil, List.cons_append, List.nil_append, Option.toList_some, Option.toList_none, List.length_cons, List.length_nil, ne_eq, Classical.not_not, reduceCtorEq, Nat.reduceAdd, Nat.reduceSub, Nat.reduceMul, Nat.reduceLT, Nat.reduceLeDiff, Nat.reduceEqDiff, Nat.reduceBEq, Int.reduceToNat, Int.reduceLE, Int.reduceLT, Int.reduceEq, Int.reduceNeg, Int.reduceAdd, Int.reduceSub, Int.reduceMul, Int.toNat_natCast, Nat.zero_add, Int.add_zero, Nat.add_zero, ite_true, ite_false, Option.some.injEq, Nat.le_refl, or_true, true_or, or_false, false_or, if_pos, reduceIte, Nat.reduceGT]
  rw [hX.1]
  exact rt45 ⟨rfl, rfl, rfl⟩
/-! the book -/
theorem x_settleAt (r i : Nat) (w d : Int) (M : MM) (hr : r = 13 ∨ r = 26) (hi : i < 10) : oV 1 2 [vR r, vI i, vI w, vI d] M (mset (mset M (r + 1) i w) (r + 2) i d) := by
  refine go2 (fun S hS => ?_)
  rcases hr with rfl | rfl
  · refine wpx_ok hS bk2 (sp := sp2) 60 0 _ _ _ _ ?_
    simp only [LCM, B2, Bool.not_eq_false, Bool.not_eq_true, decide_eq_true_eq, decide_eq_false_iff_not, Int.not_lt, Int.not_le, CST, TN, WX, WA, WB, GS, LOC, BT2, SP2, CLS, FLD, ARR, CD, true_and, and_true, and_self, forall_const, true_implies, false_implies, implies_true, not_true_eq_false, not_false_eq_true, if_true, if_false, rgI, rgL, scr, swl, lkl, cats, cat, is2, List.drop_succ_cons, List.drop_zero, List.drop_nil, List.cons_append, List.nil_append, Option.toList_some, Option.toList_none, List.length_cons, List.length_nil, ne_eq, Classical.not_not, reduceCtorEq, Nat.reduceAdd, Nat.reduceSub, Nat.reduceMul, Nat.reduceLT, Nat.reduceLeDiff, Nat.reduceEqDiff, Nat.reduceBEq, Int.reduceToNat, Int.reduceLE, Int.reduceLT, Int.reduceEq, Int.reduceNeg, Int.reduceAdd, Int.reduceSub, Int.reduceMul, Int.toNat_natCast, Nat.zero_add, Int.add_zero, Nat.add_zero, ite_true, ite_false, Option.some.injEq, Nat.le_refl, or_true, true_or, or_false, false_or, if_pos, reduceIte, Nat.reduceGT]
    exact ⟨by omega, by omega, rt2 (Nat.le_refl _) (Nat.le_refl _) ⟨rfl, rfl, rfl⟩⟩
  · refine wpx_ok hS bk2 (sp := sp2) 60 0 _ _ _ _ ?_
    simp only [LCM, B2, Bool.not_eq_false, Bool.not_eq_true, decide_eq_true_eq, decide_eq_false_iff_not, Int.not_lt, Int.not_le, CST, TN, WX, WA, WB, GS, LOC, BT2, SP2, CLS, FLD, ARR, CD, true_and, and_true, and_self, forall_const, true_implies, false_implies, implies_true, not_true_eq_false, not_false_eq_true, if_true, if_false, rgI, rgL, scr, swl, lkl, cats, cat, is2, List.drop_succ_cons, List.drop_zero, List.drop_nil, List.cons_append, List.nil_append, Option.toList_some, Option.toList_none, List.length_cons, List.length_nil, ne_eq, Classical.not_not, reduceCtorEq, Nat.reduceAdd, Nat.reduceSub, Nat.reduceMul, Nat.reduceLT, Nat.reduceLeDiff, Nat.reduceEqDiff, Nat.reduceBEq, Int.reduceToNat, Int.reduceLE, Int.reduceLT, Int.reduceEq, Int.reduceNeg, Int.reduceAdd, Int.reduceSub, Int.reduceMul, Int.toNat_natCast, Nat.zero_add, Int.add_zero, Nat.add_zero, ite_true, ite_false, Option.some.injEq, Nat.le_refl, or_true, true_or, or_false, false_or, if_pos, reduceIte, Nat.reduceGT]
    exact ⟨by omega, by omega, rt2 (Nat.le_refl _) (Nat.le_refl _) ⟨rfl, rfl, rfl⟩⟩
theorem RC.books {M M' T T' : MM} (h : RC M T) (g : SW T T') (hk : ∀ k j, 18 ≤ k → k ≤ 25 → M' k j = M k j) (hb : ∀ i, i < hN T → M' 27 i = T' 61 (4 * i) ∧ M' 28 i = T' 61 (4 * i + 1)) (hn : M' 26 2 = M 26 2) : RC M' T' := by
  obtain ⟨⟨a1, a2, a3, a4, a5⟩, b, c, d, e, f⟩ := h
  refine ⟨⟨?_, ?_, ?_, ?_, ?_⟩, fun i hi => ?_, fun s hs => ?_, fun w hw => ?_, fun i hi => ?_, ?_⟩
  · rw [hk _ _ (by omega) (by omega), g.1 57 0 (by decide)]; exact a1
  · rw [hk _ _ (by omega) (by omega), g.1 57 1 (by decide)]; exact a2
  · rw [hk _ _ (by omega) (by omega), g.1 58 0 (by decide)]; exact a3
  · rw [hk _ _ (by omega) (by omega), g.1 59 0 (by decide)]; exact a4
  · rw [hk _ _ (by omega) (by omega), g.1 60 0 (by decide)]; exact a5
  · rw [hk _ _ (by omega) (by omega), hk _ _ (by omega) (by omega), (g.2 i).1, (g.2 i).2]; exact b i (by rw [g.eH] at hi; exact hi)
  · rw [hk _ _ (by omega) (by omega), c s hs]; exact mk_eq (fun i _ => (g.eK s i).symm)
  · rw [hk _ _ (by omega) (by omega), hk _ _ (by omega) (by omega), hk _ _ (by omega) (by omega), g.1 63 _ (by decide), g.1 63 _ (by decide), g.1 63 _ (by decide)]; exact d w (by rw [g.eW] at hw; exact hw)
  · rw [g.eH] at hi; exact hb i hi
  · rw [hn, f]; exact mk_eq (fun i _ => (g.eN i).symm)
theorem x_change (i r : Int) (M T : MM) (hW : WFt T) (hC : RC M T) (hi : rgI i) (hr : rgI r) : oQ 2 66 [vR 0, vI i, vI r] M (fun x M' => x = some (Sum.inl (f_change T i r)) ∧ RC M' (g_change T i r) ∧ ∀ k j, k ≠ 28 → M' k j = M k j) := by
  have hH := hW.H
  have bad : ¬ ((0 ≤ i ∧ i < T 58 0) ∧ 0 ≤ r ∧ r < len T i.toNat) → Rtn 66 0 0 (fun x sh M' => sh = sh0 ∧ x = some (Sum.inl (f_change T i r)) ∧ RC M' (g_change T i r) ∧ ∀ k j, ¬ k = 28 → M' k j = M k j) (some (Sum.inl (-1))) (sh0, 0, 0) M := fun h =>
    rt66 ⟨rfl, by unfold f_change; rw [if_neg h], by unfold g_change; rw [if_neg h]; exact hC, fun _ _ _ => rfl⟩
  refine go66 (fun S hS => ?_)
  refine wpx_ok hS bk66 (sp := sp66) 60 0 _ _ _ _ ?_
  simp only [LCM, B2, Bool.not_eq_false, Bool.not_eq_true, decide_eq_true_eq, decide_eq_false_iff_not, Int.not_lt, Int.not_le, CST, TN, WX, WA, WB, GS, LOC, BT66, SP66, CLS, FLD, ARR, CD, true_and, and_true, and_self, forall_const, true_implies, false_implies, implies_true, not_true_eq_false, not_false_eq_true, if_true, if_false, rgI, rgL, scr, swl, lkl, cats, cat, is2, List.drop_succ_cons, List.drop_zero, List.drop_nil, List.cons_append, List.nil_append, Option.toList_some, Option.toList_none, List.length_cons, List.length_nil, ne_eq, Classical.not_not, reduceCtorEq, Nat.reduceAdd, Nat.reduceSub, Nat.reduceMul, Nat.reduceLT, Nat.reduceLeDiff, Nat.reduceEqDiff, Nat.reduceBEq, Int.reduceToNat, Int.reduceLE, Int.reduceLT, Int.reduceEq, Int.reduceNeg, Int.reduceAdd, Int.reduceSub, Int.reduceMul, Int.toNat_natCast, Nat.zero_add, Int.add_zero, Nat.add_zero, ite_true, ite_false, Option.some.injEq, Nat.le_refl, or_true, true_or, or_false, false_or, if_pos, reduceIte, Nat.reduceGT]
  refine ⟨rcv_ok rfl own72 rfl, kI (x_isHouse i M T hC hW hi) (Nat.le_of_ble_eq_true rfl) rfl rfl (Nat.le_of_ble_eq_true rfl) (Nat.le_of_ble_eq_true rfl) rfl ?_⟩
  refine wpx_ok hS bk66 (sp := sp66) 60 5 _ _ _ _ ?_
  simp only [LCM, B2, Bool.not_eq_false, Bool.not_eq_true, decide_eq_true_eq, decide_eq_false_iff_not, Int.not_lt, Int.not_le, CST, TN, WX, WA, WB, GS, LOC, BT66, SP66, CLS, FLD, ARR, CD, true_and, and_true, and_self, forall_const, true_implies, false_implies, implies_true, not_true_eq_false, not_false_eq_true, if_true, if_false, rgI, rgL, scr, swl, lkl, cats, cat, is2, List.drop_succ_cons, List.drop_zero, List.drop_nil, List.cons_append, List.nil_append, Option.toList_some, Option.toList_none, List.length_cons, List.length_nil, ne_eq, Classical.not_not, reduceCtorEq, Nat.reduceAdd, Nat.reduceSub, Nat.reduceMul, Nat.reduceLT, Nat.reduceLeDiff, Nat.reduceEqDiff, Nat.reduceBEq, Int.reduceToNat, Int.reduceLE, Int.reduceLT, Int.reduceEq, Int.reduceNeg, Int.reduceAdd, Int.reduceSub, Int.reduceMul, Int.toNat_natCast, Nat.zero_add, Int.add_zero, Nat.add_zero, ite_true, ite_false, Option.some.injEq, Nat.le_refl, or_true, true_or, or_false, false_or, if_pos, reduceIte, Nat.reduceGT]
  refine ⟨fun h => bad (fun z => h z.1), fun h => ⟨hr, fun h1 => bad (by omega), fun h1 => ?_⟩⟩
  obtain ⟨n, rfl⟩ : ∃ n : Nat, i = (n : Int) := ⟨i.toNat, by omega⟩
  have hln := hW.ln (i := n) (by omega)
  have bx := hC.2.2.2.2.1 n (by omega)
  refine ⟨rcv_ok rfl own79 rfl, kI (x_weekLength n M T hC hW (by omega)) (Nat.le_of_ble_eq_true rfl) rfl rfl (Nat.le_of_ble_eq_true rfl) (Nat.le_of_ble_eq_true rfl) rfl ?_⟩
  refine wpx_ok hS bk66 (sp := sp66) 60 18 _ _ _ _ ?_
  simp only [LCM, B2, Bool.not_eq_false, Bool.not_eq_true, decide_eq_true_eq, decide_eq_false_iff_not, Int.not_lt, Int.not_le, CST, TN, WX, WA, WB, GS, LOC, BT66, SP66, CLS, FLD, ARR, CD, true_and, and_true, and_self, forall_const, true_implies, false_implies, implies_true, not_true_eq_false, not_false_eq_true, if_true, if_false, rgI, rgL, scr, swl, lkl, cats, cat, is2, List.drop_succ_cons, List.drop_zero, List.drop_nil, List.cons_append, List.nil_append, Option.toList_some, Option.toList_none, List.length_cons, List.length_nil, ne_eq, Classical.not_not, reduceCtorEq, Nat.reduceAdd, Nat.reduceSub, Nat.reduceMul, Nat.reduceLT, Nat.reduceLeDiff, Nat.reduceEqDiff, Nat.reduceBEq, Int.reduceToNat, Int.reduceLE, Int.reduceLT, Int.reduceEq, Int.reduceNeg, Int.reduceAdd, Int.reduceSub, Int.reduceMul, Int.toNat_natCast, Nat.zero_add, Int.add_zero, Nat.add_zero, ite_true, ite_false, Option.some.injEq, Nat.le_refl, or_true, true_or, or_false, false_or, if_pos, reduceIte, Nat.reduceGT]
  rw [bx.2]
  refine ⟨⟨hr, by omega⟩, fun h2 => ⟨by omega, by omega, ?_⟩, fun h2 => bad (by rw [Int.toNat_natCast]; omega)⟩
  have hc : (0 ≤ (n : Int) ∧ (n : Int) < T 58 0) ∧ 0 ≤ r ∧ r < len T (n : Int).toNat := by rw [Int.toNat_natCast]; omega
  refine rt66 ⟨rfl, ?_, ?_, fun k j hk => ms_ne hk j⟩
  · unfold f_change; rw [if_pos hc, Int.toNat_natCast]
  · unfold g_change
    rw [if_pos hc, Int.toNat_natCast]
    refine hC.books (setR_SW T n r) (fun k j h1 h2 => ms_ne (by omega) j) (fun x hx => ?_) (ms_ne (by decide) _)
    rw [ms_ne (by decide), ms_nj (show 4 * x ≠ 4 * n + 1 by omega)]
    refine ⟨(hC.2.2.2.2.1 x hx).1, ?_⟩
    by_cases hxn : x = n
    · subst hxn; rw [ms_eq, ms_eq]
    · rw [ms_nj hxn, ms_nj (by omega)]; exact (hC.2.2.2.2.1 x hx).2
theorem x_wed (i j : Int) (M T : MM) (hW : WFt T) (hC : RC M T) (hi : rgI i) (hj : rgI j) : oQ 2 67 [vR 0, vI i, vI j] M (fun x M' => x = some (Sum.inl (f_wed T i j)) ∧ RC M' (g_wed T i j) ∧ ∀ k j, k ≠ 27 → k ≠ 28 → M' k j = M k j) := by
  have hH := hW.H
  have bad : okWed T i j = false → Rtn 67 0 0 (fun x sh M' => sh = sh0 ∧ x = some (Sum.inl (f_wed T i j)) ∧ RC M' (g_wed T i j) ∧ ∀ k j, ¬ k = 27 → ¬ k = 28 → M' k j = M k j) (some (Sum.inl (-1))) (sh0, 0, 0) M := fun h =>
    rt67 ⟨rfl, by unfold f_wed; rw [h]; rfl, by unfold g_wed; rw [h]; exact hC, fun _ _ _ _ => rfl⟩
  refine go67 (fun S hS => ?_)
  refine wpx_ok hS bk67 (sp := sp67) 60 0 _ _ _ _ ?_
  simp only [LCM, B2, Bool.not_eq_false, Bool.not_eq_true, decide_eq_true_eq, decide_eq_false_iff_not, Int.not_lt, Int.not_le, CST, TN, WX, WA, WB, GS, LOC, BT67, SP67, CLS, FLD, ARR, CD, true_and, and_true, and_self, forall_const, true_implies, false_implies, implies_true, not_true_eq_false, not_false_eq_true, if_true, if_false, rgI, rgL, scr, swl, lkl, cats, cat, is2, List.drop_succ_cons, List.drop_zero, List.drop_nil, List.cons_append, List.nil_append, Option.toList_some, Option.toList_none, List.length_cons, List.length_nil, ne_eq, Classical.not_not, reduceCtorEq, Nat.reduceAdd, Nat.reduceSub, Nat.reduceMul, Nat.reduceLT, Nat.reduceLeDiff, Nat.reduceEqDiff, Nat.reduceBEq, Int.reduceToNat, Int.reduceLE, Int.reduceLT, Int.reduceEq, Int.reduceNeg, Int.reduceAdd, Int.reduceSub, Int.reduceMul, Int.toNat_natCast, Nat.zero_add, Int.add_zero, Nat.add_zero, ite_true, ite_false, Option.some.injEq, Nat.le_refl, or_true, true_or, or_false, false_or, if_pos, reduceIte, Nat.reduceGT]
  refine ⟨rcv_ok rfl own72 rfl, kI (x_isHouse i M T hC hW hi) (Nat.le_of_ble_eq_true rfl) rfl rfl (Nat.le_of_ble_eq_true rfl) (Nat.le_of_ble_eq_true rfl) rfl ?_⟩
  refine wpx_ok hS bk67 (sp := sp67) 60 5 _ _ _ _ ?_
  simp only [LCM, B2, Bool.not_eq_false, Bool.not_eq_true, decide_eq_true_eq, decide_eq_false_iff_not, Int.not_lt, Int.not_le, CST, TN, WX, WA, WB, GS, LOC, BT67, SP67, CLS, FLD, ARR, CD, true_and, and_true, and_self, forall_const, true_implies, false_implies, implies_true, not_true_eq_false, not_false_eq_true, if_true, if_false, rgI, rgL, scr, swl, lkl, cats, cat, is2, List.drop_succ_cons, List.drop_zero, List.drop_nil, List.cons_append, List.nil_append, Option.toList_some, Option.toList_none, List.length_cons, List.length_nil, ne_eq, Classical.not_not, reduceCtorEq, Nat.reduceAdd, Nat.reduceSub, Nat.reduceMul, Nat.reduceLT, Nat.reduceLeDiff, Nat.reduceEqDiff, Nat.reduceBEq, Int.reduceToNat, Int.reduceLE, Int.reduceLT, Int.reduceEq, Int.reduceNeg, Int.reduceAdd, Int.reduceSub, Int.reduceMul, Int.toNat_natCast, Nat.zero_add, Int.add_zero, Nat.add_zero, ite_true, ite_false, Option.some.injEq, Nat.le_refl, or_true, true_or, or_false, false_or, if_pos, reduceIte, Nat.reduceGT]
  refine ⟨fun h => bad (by unfold okWed; exact decide_eq_false (fun z => h z.1)), fun h => ?_⟩
  refine ⟨rcv_ok rfl own72 rfl, kI (x_isHouse j M T hC hW hj) (Nat.le_of_ble_eq_true rfl) rfl rfl (Nat.le_of_ble_eq_true rfl) (Nat.le_of_ble_eq_true rfl) rfl ?_⟩
  refine wpx_ok hS bk67 (sp := sp67) 60 13 _ _ _ _ ?_
  simp only [LCM, B2, Bool.not_eq_false, Bool.not_eq_true, decide_eq_true_eq, decide_eq_false_iff_not, Int.not_lt, Int.not_le, CST, TN, WX, WA, WB, GS, LOC, BT67, SP67, CLS, FLD, ARR, CD, true_and, and_true, and_self, forall_const, true_implies, false_implies, implies_true, not_true_eq_false, not_false_eq_true, if_true, if_false, rgI, rgL, scr, swl, lkl, cats, cat, is2, List.drop_succ_cons, List.drop_zero, List.drop_nil, List.cons_append, List.nil_append, Option.toList_some, Option.toList_none, List.length_cons, List.length_nil, ne_eq, Classical.not_not, reduceCtorEq, Nat.reduceAdd, Nat.reduceSub, Nat.reduceMul, Nat.reduceLT, Nat.reduceLeDiff, Nat.reduceEqDiff, Nat.reduceBEq, Int.reduceToNat, Int.reduceLE, Int.reduceLT, Int.reduceEq, Int.reduceNeg, Int.reduceAdd, Int.reduceSub, Int.reduceMul, Int.toNat_natCast, Nat.zero_add, Int.add_zero, Nat.add_zero, ite_true, ite_false, Option.some.injEq, Nat.le_refl, or_true, true_or, or_false, false_or, if_pos, reduceIte, Nat.reduceGT]
  refine ⟨fun h1 => bad (by unfold okWed; exact decide_eq_false (fun z => h1 z.2.1)), fun h1 => ⟨⟨hi, hj⟩, fun h2 => ?_, fun h2 => bad (by unfold okWed; exact decide_eq_false (fun z => z.2.2 h2))⟩⟩
  have hk : okWed T i j = true := by unfold okWed; exact decide_eq_true ⟨h, h1, h2⟩
  obtain ⟨n, rfl⟩ : ∃ n : Nat, i = (n : Int) := ⟨i.toNat, by omega⟩
  obtain ⟨k, rfl⟩ : ∃ k : Nat, j = (k : Int) := ⟨j.toNat, by omega⟩
  simp only [Int.toNat_natCast]
  have bn := hC.2.2.2.2.1 n (by omega)
  have bk := hC.2.2.2.2.1 k (by omega)
  rw [bn.1, bn.2, bk.2]
  refine ⟨by omega, by omega, by omega, ?_⟩
  refine ⟨rcv_ok rfl own2 rfl, kV (x_settleAt 26 k (T 61 (4 * n)) (T 61 (4 * n + 1)) M (Or.inr rfl) (by omega)) (Nat.le_of_ble_eq_true rfl) rfl rfl (Nat.le_of_ble_eq_true rfl) (Nat.le_of_ble_eq_true rfl) rfl ?_⟩
  refine wpx_ok hS bk67 (sp := sp67) 60 59 _ _ _ _ ?_
  simp only [LCM, B2, Bool.not_eq_false, Bool.not_eq_true, decide_eq_true_eq, decide_eq_false_iff_not, Int.not_lt, Int.not_le, CST, TN, WX, WA, WB, GS, LOC, BT67, SP67, CLS, FLD, ARR, CD, true_and, and_true, and_self, forall_const, true_implies, false_implies, implies_true, not_true_eq_false, not_false_eq_true, if_true, if_false, rgI, rgL, scr, swl, lkl, cats, cat, is2, List.drop_succ_cons, List.drop_zero, List.drop_nil, List.cons_append, List.nil_append, Option.toList_some, Option.toList_none, List.length_cons, List.length_nil, ne_eq, Classical.not_not, reduceCtorEq, Nat.reduceAdd, Nat.reduceSub, Nat.reduceMul, Nat.reduceLT, Nat.reduceLeDiff, Nat.reduceEqDiff, Nat.reduceBEq, Int.reduceToNat, Int.reduceLE, Int.reduceLT, Int.reduceEq, Int.reduceNeg, Int.reduceAdd, Int.reduceSub, Int.reduceMul, Int.toNat_natCast, Nat.zero_add, Int.add_zero, Nat.add_zero, ite_true, ite_false, Option.some.injEq, Nat.le_refl, or_true, true_or, or_false, false_or, if_pos, reduceIte, Nat.reduceGT]
  refine rt67 ⟨rfl, ?_, ?_, fun k j h1 h2 => by rw [ms_ne h2, ms_ne h1]⟩
  · unfold f_wed; rw [hk, if_pos rfl, Int.toNat_natCast]
  · unfold g_wed
    rw [hk, if_pos rfl, Int.toNat_natCast, Int.toNat_natCast]
    refine hC.books (wedN_SW T n k) (fun k j h1 h2 => by rw [ms_ne (by omega), ms_ne (by omega)]) (fun x hx => ?_) (by rw [ms_ne (by decide), ms_ne (by decide)])
    rw [(wedN_at T n k x).1, (wedN_at T n k x).2, ms_ne (by decide)]
    by_cases hxk : x = k
    · subst hxk; rw [if_pos rfl, ms_eq, ms_eq]; exact ⟨rfl, rfl⟩
    · rw [if_neg hxk, ms_nj hxk, ms_nj hxk, ms_ne (by decide)]
      exact hC.2.2.2.2.1 x hx
theorem x_addSeen (d w b : Int) (M T : MM) (hs : WFs T) (hRS : RS M T) (h20 : T 55 11 ≠ 20) (hb : b = 0 ∨ b = 1) : oQ 1 5 [vR 26, vL d, vI w, vI b] M (fun r M' => r = none ∧ RS M' (mset (mset (mset (mset T 65 (T 55 11).toNat d) 66 (T 55 11).toNat w) 67 (T 55 11).toNat b) 55 11 (T 55 11 + 1)) ∧ ∀ k j, ¬ (k = 29 ∨ k = 30 ∨ (k = 26 ∧ (j = 3 ∨ j = 6))) → M' k j = M k j) := by
  obtain ⟨r1, r2, q, r3, r4⟩ := hRS
  have hs1 := hs.1
  obtain ⟨n, hn⟩ : ∃ n : Nat, T 55 11 = (n : Int) := ⟨(T 55 11).toNat, by omega⟩
  rw [hn] at r1 r2 r4 h20 hs1 ⊢
  have fin : ∀ (q' : Nat → Bool), (∀ k, k < n → q' k = q k) → q' n = decide (b = 1) → RS (mset (mset (mset (mset M 29 n d) 30 n w) 26 6 ((mkN q' 20 : Nat) : Int)) 26 3 (n + 1)) (mset (mset (mset (mset T 65 n d) 66 n w) 67 n b) 55 11 (n + 1)) := by
    intro q' h1 h2
    refine ⟨rfl, fun k hk => ?_, q', rfl, fun k hk => ?_⟩
    · rw [ms_eq] at hk
      simp only [mset, Nat.reduceEqDiff, false_and, if_false, true_and]
      by_cases hkn : k = n
      · subst hkn; simp
      · rw [if_neg hkn, if_neg hkn, if_neg hkn, if_neg hkn]; exact r2 k (by omega)
    · rw [ms_eq] at hk
      simp only [mset, Nat.reduceEqDiff, false_and, if_false, true_and]
      by_cases hkn : k = n
      · subst hkn; simpa using h2
      · rw [if_neg hkn, h1 k (by omega)]; exact r4 k (by omega)
  have fF : ∀ (x : Int) (k j : Nat), ¬ (k = 29 ∨ k = 30 ∨ (k = 26 ∧ (j = 3 ∨ j = 6))) → mset (mset (mset (mset M 29 n d) 30 n w) 26 6 x) 26 3 (n + 1) k j = M k j := by
    intro x k j hk
    unfold mset
    rw [if_neg (by omega), if_neg (by omega), if_neg (by omega), if_neg (by omega)]
  refine go5 (fun S hS => ?_)
  refine wpx_ok hS bk5 (sp := sp5) 60 0 _ _ _ _ ?_
  simp only [LCM, B2, Bool.not_eq_false, Bool.not_eq_true, decide_eq_true_eq, decide_eq_false_iff_not, Int.not_lt, Int.not_le, CST, TN, WX, WA, WB, GS, LOC, BT5, SP5, CLS, FLD, ARR, CD, true_and, and_true, and_self, forall_const, true_implies, false_implies, implies_true, not_true_eq_false, not_false_eq_true, if_true, if_false, rgI, rgL, scr, swl, lkl, cats, cat, is2, List.drop_succ_cons, List.drop_zero, List.drop_nil, List.cons_append, List.nil_append, Option.toList_some, Option.toList_none, List.length_cons, List.length_nil, ne_eq, Classical.not_not, reduceCtorEq, Nat.reduceAdd, Nat.reduceSub, Nat.reduceMul, Nat.reduceLT, Nat.reduceLeDiff, Nat.reduceEqDiff, Nat.reduceBEq, Int.reduceToNat, Int.reduceLE, Int.reduceLT, Int.reduceEq, Int.reduceNeg, Int.reduceAdd, Int.reduceSub, Int.reduceMul, Int.toNat_natCast, Nat.zero_add, Int.add_zero, Nat.add_zero, ite_true, ite_false, Option.some.injEq, Nat.le_refl, or_true, true_or, or_false, false_or, if_pos, reduceIte, Nat.reduceGT, ms_ne, ms_eq, ms_nj]
  rw [r1, r3]
  simp only [Int.toNat_natCast]
  refine ⟨by omega, fun h => ⟨by omega, by omega, by omega, fun h1 => ?_, fun h1 => ?_⟩, fun h => by omega⟩
  · rw [m20_lift (by omega)]
    refine rt5 (Nat.le_refl _) (Nat.le_refl _) ⟨rfl, rfl, fin _ (fun k hk => ?_) ?_, fF _⟩
    · have hbq : (k == n) = false := beq_eq_false_iff_ne.mpr (by omega)
      rw [hbq]; simp
    · subst h1; simp
  · rw [m20_put (by omega)]
    refine rt5 (Nat.le_refl _) (Nat.le_refl _) ⟨rfl, rfl, fin _ (fun k hk => ?_) ?_, fF _⟩
    · have hbq : (k == n) = false := beq_eq_false_iff_ne.mpr (by omega)
      rw [hbq]; simp
    · rw [show b = 1 by omega]; simp

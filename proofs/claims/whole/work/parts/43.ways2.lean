theorem x_advance (c : Nat) (M T : MM) (hW : WFt T) (hS' : WS M T) (hD : WD M T c) : oQ 1 36 [vR 37] M (fun r M' => r = none ∧ WD M' T (c + 1) ∧ ∀ k j, k ≠ 41 → M' k j = M k j) := by
  have hn3 := nM_3 hW
  have hH := hW.H
  refine go36 (fun S hS => ?_)
  have head : ∀ (n : Nat) (N : MM), n ≤ nM T → (∀ k j, k ≠ 41 → N k j = M k j) → (∀ i, i < hN T → newB T i = true → ix T i < n → N 41 (ix T i) = dig T c i) → (∀ i, i < hN T → newB T i = true → n ≤ ix T i → N 41 (ix T i) = dig T (c + 1) i) → (∀ i, i < hN T → newB T i = true → ix T i + 1 = n → wgt T i ∣ c + 1) →
      S 7 [some (vR 37), some (vI ((n : Int) - 1))] [] (sh0, 0, 0) N := by
    intro n
    induction n with
    | zero =>
      intro N hn hF h1 h2 h3
      rw [show ((0 : Nat) : Int) - 1 = -1 from rfl]
      refine wpx_ok hS bk36 (sp := sp36) 60 7 _ _ _ _ ?_
      simp only [LCM, B2, Bool.not_eq_false, Bool.not_eq_true, decide_eq_true_eq, decide_eq_false_iff_not, Int.not_lt, Int.not_le, CST, TN, WX, WA, WB, GS, LOC, BT36, SP36, CLS, FLD, ARR, CD, true_and, and_true, and_self, forall_const, true_implies, false_implies, implies_true, not_true_eq_false, not_false_eq_true, if_true, if_false, rgI, rgL, scr, swl, lkl, cats, cat, is2, List.drop_succ_cons, List.drop_zero, List.drop_nil, List.cons_append, List.nil_append, Option.toList_some, Option.toList_none, List.length_cons, List.length_nil, ne_eq, Classical.not_not, reduceCtorEq, Nat.reduceAdd, Nat.reduceSub, Nat.reduceMul, Nat.reduceLT, Nat.reduceLeDiff, Nat.reduceEqDiff, Nat.reduceBEq, Int.reduceToNat, Int.reduceLE, Int.reduceLT, Int.reduceEq, Int.reduceNeg, Int.reduceAdd, Int.reduceSub, Int.reduceMul, Int.toNat_natCast, Nat.zero_add, Int.add_zero, Nat.add_zero, ite_true, ite_false, Option.some.injEq, Nat.le_refl, or_true, true_or, or_false, false_or, if_pos, reduceIte, Nat.reduceGT]
      exact rt36 (Nat.le_refl _) (Nat.le_refl _) ⟨rfl, rfl, fun i hi hb => h2 i hi hb (Nat.zero_le _), hF⟩
    | succ n ih =>
      intro N hn hF h1 h2 h3
      obtain ⟨i, hi, hb, hix⟩ := ix_surj (T := T) (n := hN T) (k := n) (by unfold nM at hn; omega)
      have hLN := LN_rg hW hi
      have hdl : dig T c i < LN T i := Nat.mod_lt _ (by omega)
      have e41 : N 41 n = dig T c i := by rw [← hix]; exact h1 i hi hb (by omega)
      have e40 : N 40 n = LN T i := by rw [hF 40 n (by decide), ← hix, (hS'.2.2 i hi hb).2.2, hLN.1]
      have hnx := dig_next (c := c) (wgt_pos hW hi) hLN.2.1 (h3 i hi hb (by omega))
      rw [show ((n + 1 : Nat) : Int) - 1 = (n : Int) by omega]
      refine wpx_ok hS bk36 (sp := sp36) 60 7 _ _ _ _ ?_
      simp only [LCM, B2, Bool.not_eq_false, Bool.not_eq_true, decide_eq_true_eq, decide_eq_false_iff_not, Int.not_lt, Int.not_le, CST, TN, WX, WA, WB, GS, LOC, BT36, SP36, CLS, FLD, ARR, CD, true_and, and_true, and_self, forall_const, true_implies, false_implies, implies_true, not_true_eq_false, not_false_eq_true, if_true, if_false, rgI, rgL, scr, swl, lkl, cats, cat, is2, List.drop_succ_cons, List.drop_zero, List.drop_nil, List.cons_append, List.nil_append, Option.toList_some, Option.toList_none, List.length_cons, List.length_nil, ne_eq, Classical.not_not, reduceCtorEq, Nat.reduceAdd, Nat.reduceSub, Nat.reduceMul, Nat.reduceLT, Nat.reduceLeDiff, Nat.reduceEqDiff, Nat.reduceBEq, Int.reduceToNat, Int.reduceLE, Int.reduceLT, Int.reduceEq, Int.reduceNeg, Int.reduceAdd, Int.reduceSub, Int.reduceMul, Int.toNat_natCast, Nat.zero_add, Int.add_zero, Nat.add_zero, ite_true, ite_false, Option.some.injEq, Nat.le_refl, or_true, true_or, or_false, false_or, if_pos, reduceIte, Nat.reduceGT, ms_ne, ms_eq, ms_nj]
      rw [e41, e40]
      refine ⟨by omega, fun h => by omega, fun h => ⟨by omega, by omega, by omega, by omega, by omega, fun h4 => ⟨by omega, ?_⟩, fun h4 => ?_⟩⟩
      · have h5 := hnx.2 (by omega)
        rw [show (n : Int) + -1 = (n : Int) - 1 by omega]
        refine ih _ (by omega) (fun k j hk => ?_) (fun x hx hbx hxn => ?_) (fun x hx hbx hxn => ?_) (fun x hx hbx hxn => ?_)
        · rw [ms_ne hk, ms_ne hk]; exact hF k j hk
        · rw [ms_nj (by omega), ms_nj (by omega)]; exact h1 x hx hbx (by omega)
        · by_cases hxi : ix T x = n
          · have hxi2 : x = i := ix_inj hbx hb (by omega)
            rw [hxi, ms_eq, hxi2, h5.1]
            rfl
          · rw [ms_nj hxi, ms_nj hxi]; exact h2 x hx hbx (by omega)
        · rw [wgt_next hbx hi hb (by omega)]
          exact h5.2
      · have h5 := hnx.1 (by omega)
        refine rt36 (Nat.le_refl _) (Nat.le_refl _) ⟨rfl, rfl, fun x hx hbx => ?_, fun k j hk => by rw [ms_ne hk]; exact hF k j hk⟩
        by_cases hxi : ix T x = n
        · have hxi2 : x = i := ix_inj hbx hb (by omega)
          rw [hxi, ms_eq, hxi2, h5.1]
          omega
        · rw [ms_nj hxi]
          by_cases hlt : ix T x < n
          · rw [h1 x hx hbx (by omega)]
            have hxl : x < i := by
              rcases Nat.lt_or_ge x i with a | a
              · exact a
              · have := ix_mono (T := T) a; omega
            rw [dig_same hxl hi hb h5.2]
          · exact h2 x hx hbx (by omega)
  refine wpx_ok hS bk36 (sp := sp36) 60 0 _ _ _ _ ?_
  simp only [LCM, B2, Bool.not_eq_false, Bool.not_eq_true, decide_eq_true_eq, decide_eq_false_iff_not, Int.not_lt, Int.not_le, CST, TN, WX, WA, WB, GS, LOC, BT36, SP36, CLS, FLD, ARR, CD, true_and, and_true, and_self, forall_const, true_implies, false_implies, implies_true, not_true_eq_false, not_false_eq_true, if_true, if_false, rgI, rgL, scr, swl, lkl, cats, cat, is2, List.drop_succ_cons, List.drop_zero, List.drop_nil, List.cons_append, List.nil_append, Option.toList_some, Option.toList_none, List.length_cons, List.length_nil, ne_eq, Classical.not_not, reduceCtorEq, Nat.reduceAdd, Nat.reduceSub, Nat.reduceMul, Nat.reduceLT, Nat.reduceLeDiff, Nat.reduceEqDiff, Nat.reduceBEq, Int.reduceToNat, Int.reduceLE, Int.reduceLT, Int.reduceEq, Int.reduceNeg, Int.reduceAdd, Int.reduceSub, Int.reduceMul, Int.toNat_natCast, Nat.zero_add, Int.add_zero, Nat.add_zero, ite_true, ite_false, Option.some.injEq, Nat.le_refl, or_true, true_or, or_false, false_or, if_pos, reduceIte, Nat.reduceGT]
  rw [hS'.1]
  exact head (nM T) M (Nat.le_refl _) (fun _ _ _ => rfl) (fun i hi hb _ => hD i hi hb) (fun i hi hb hle => by have := ix_lt (T := T) (j := hN T) hi hb; unfold nM at hle; omega) (fun i hi hb he => by rw [wgt_end hb he]; exact Nat.one_dvd _)
theorem WS.keep {M M' T : MM} (h : WS M T) (hk : ∀ k j, (k = 37 ∧ (j = 0 ∨ j = 5)) ∨ (38 ≤ k ∧ k ≤ 40) → M' k j = M k j) : WS M' T := by
  refine ⟨by rw [hk 37 0 (by omega)]; exact h.1, by rw [hk 37 5 (by omega)]; exact h.2.1, fun i hi hb => ?_⟩
  rw [hk 38 _ (by omega), hk 39 _ (by omega), hk 40 _ (by omega)]
  exact h.2.2 i hi hb
/-- the houses whose rests stand in the rota: the old ones and NEW ones below a place -/
def pUp (T : MM) (k i : Nat) : Bool := pH T i && (!newB T i || decide (ix T i < k))
def pDn (T : MM) (k i : Nat) : Bool := pH T i && (!newB T i || decide (k ≤ ix T i))
theorem x_putInto (c : Nat) (M T : MM) (hW : WFt T) (hS' : WS M T) (hD : WD M T c) (hR : RO M (cd T c) (pUp T 0)) : oQ 2 37 [vR 37, vR 32] M (fun r M' => r = none ∧ RO M' (cd T c) (pH T) ∧ ∀ k j, ¬ ro k → M' k j = M k j) := by
  have hn3 := nM_3 hW
  have hH := hW.H
  refine go37 (fun S hS => ?_)
  have head : ∀ (n k : Nat) (N : MM), k + n = nM T → RO N (cd T c) (pUp T k) → (∀ k j, ¬ ro k → N k j = M k j) → S 2 [some (vR 37), some (vR 32), some (vI k)] [] (sh0, 0, 0) N := by
    intro n
    induction n with
    | zero =>
      intro k N hk hO hF
      refine wpx_ok hS bk37 (sp := sp37) 60 2 _ _ _ _ ?_
      simp only [LCM, B2, Bool.not_eq_false, Bool.not_eq_true, decide_eq_true_eq, decide_eq_false_iff_not, Int.not_lt, Int.not_le, CST, TN, WX, WA, WB, GS, LOC, BT37, SP37, CLS, FLD, ARR, CD, true_and, and_true, and_self, forall_const, true_implies, false_implies, implies_true, not_true_eq_false, not_false_eq_true, if_true, if_false, rgI, rgL, scr, swl, lkl, cats, cat, is2, List.drop_succ_cons, List.drop_zero, List.drop_nil, List.cons_append, List.nil_append, Option.toList_some, Option.toList_none, List.length_cons, List.length_nil, ne_eq, Classical.not_not, reduceCtorEq, Nat.reduceAdd, Nat.reduceSub, Nat.reduceMul, Nat.reduceLT, Nat.reduceLeDiff, Nat.reduceEqDiff, Nat.reduceBEq, Int.reduceToNat, Int.reduceLE, Int.reduceLT, Int.reduceEq, Int.reduceNeg, Int.reduceAdd, Int.reduceSub, Int.reduceMul, Int.toNat_natCast, Nat.zero_add, Int.add_zero, Nat.add_zero, ite_true, ite_false, Option.some.injEq, Nat.le_refl, or_true, true_or, or_false, false_or, if_pos, reduceIte, Nat.reduceGT]
      rw [hF 37 0 (by unfold ro; omega), hS'.1]
      refine ⟨by omega, fun h => rt37 (Nat.le_refl _) (Nat.le_refl _) ⟨rfl, rfl, hO.eqp (fun i _ => ?_), hF⟩, fun h => by omega⟩
      unfold pUp
      by_cases hi : i < hN T
      · cases hb : newB T i with
        | false => simp
        | true =>
          have := ix_lt (T := T) (j := hN T) hi hb
          rw [decide_eq_true (show ix T i < k by unfold nM at hk; omega)]
          simp
      · unfold pH; rw [decide_eq_false hi]; rfl
    | succ n ih =>
      intro k N hk hO hF
      obtain ⟨i, hi, hb, hix⟩ := ix_surj (T := T) (n := hN T) (k := k) (by unfold nM at hk; omega)
      have w := hS'.2.2 i hi hb
      have hs := hW.hs hi
      have hl := hW.ln hi
      have hdl := dig_lt hW hi c
      obtain ⟨wk, hwk⟩ : ∃ x : Nat, T 61 (4 * i) = (x : Int) := ⟨(T 61 (4 * i)).toNat, by omega⟩
      have e38 : N 38 k = i := by rw [hF 38 k (by unfold ro; omega), ← hix]; exact w.1
      have e39 : N 39 k = wk := by rw [hF 39 k (by unfold ro; omega), ← hix, w.2.1]; exact hwk
      have e41 : N 41 k = dig T c i := by rw [hF 41 k (by unfold ro; omega), ← hix]; exact hD i hi hb
      refine wpx_ok hS bk37 (sp := sp37) 60 2 _ _ _ _ ?_
      simp only [LCM, B2, Bool.not_eq_false, Bool.not_eq_true, decide_eq_true_eq, decide_eq_false_iff_not, Int.not_lt, Int.not_le, CST, TN, WX, WA, WB, GS, LOC, BT37, SP37, CLS, FLD, ARR, CD, true_and, and_true, and_self, forall_const, true_implies, false_implies, implies_true, not_true_eq_false, not_false_eq_true, if_true, if_false, rgI, rgL, scr, swl, lkl, cats, cat, is2, List.drop_succ_cons, List.drop_zero, List.drop_nil, List.cons_append, List.nil_append, Option.toList_some, Option.toList_none, List.length_cons, List.length_nil, ne_eq, Classical.not_not, reduceCtorEq, Nat.reduceAdd, Nat.reduceSub, Nat.reduceMul, Nat.reduceLT, Nat.reduceLeDiff, Nat.reduceEqDiff, Nat.reduceBEq, Int.reduceToNat, Int.reduceLE, Int.reduceLT, Int.reduceEq, Int.reduceNeg, Int.reduceAdd, Int.reduceSub, Int.reduceMul, Int.toNat_natCast, Nat.zero_add, Int.add_zero, Nat.add_zero, ite_true, ite_false, Option.some.injEq, Nat.le_refl, or_true, true_or, or_false, false_or, if_pos, reduceIte, Nat.reduceGT]
      rw [hF 37 0 (by unfold ro; omega), hS'.1, e38, e39, e41]
      refine ⟨by omega, fun h => by omega, fun h => ⟨by omega, by omega, by omega, ?_⟩⟩
      refine ⟨rcv_ok rfl own22 rfl, kV (x_put i wk (dig T c i) N (by omega) (by omega)) (Nat.le_of_ble_eq_true rfl) rfl rfl (Nat.le_of_ble_eq_true rfl) (Nat.le_of_ble_eq_true rfl) rfl ?_⟩
      refine wpx_ok hS bk37 (sp := sp37) 60 32 _ _ _ _ ?_
      simp only [LCM, B2, Bool.not_eq_false, Bool.not_eq_true, decide_eq_true_eq, decide_eq_false_iff_not, Int.not_lt, Int.not_le, CST, TN, WX, WA, WB, GS, LOC, BT37, SP37, CLS, FLD, ARR, CD, true_and, and_true, and_self, forall_const, true_implies, false_implies, implies_true, not_true_eq_false, not_false_eq_true, if_true, if_false, rgI, rgL, scr, swl, lkl, cats, cat, is2, List.drop_succ_cons, List.drop_zero, List.drop_nil, List.cons_append, List.nil_append, Option.toList_some, Option.toList_none, List.length_cons, List.length_nil, ne_eq, Classical.not_not, reduceCtorEq, Nat.reduceAdd, Nat.reduceSub, Nat.reduceMul, Nat.reduceLT, Nat.reduceLeDiff, Nat.reduceEqDiff, Nat.reduceBEq, Int.reduceToNat, Int.reduceLE, Int.reduceLT, Int.reduceEq, Int.reduceNeg, Int.reduceAdd, Int.reduceSub, Int.reduceMul, Int.toNat_natCast, Nat.zero_add, Int.add_zero, Nat.add_zero, ite_true, ite_false, Option.some.injEq, Nat.le_refl, or_true, true_or, or_false, false_or, if_pos, reduceIte, Nat.reduceGT]
      refine ih (k + 1) _ (by omega) ((hO.put (by omega) (by omega) (by omega) (by rw [(cd_at c hi).1, hwk]) (cd_new hi hb)).eqp (fun x _ => ?_)) (fun k j hk => ?_)
      · unfold pUp
        by_cases hxi : x = i
        · subst hxi
          unfold pH
          rw [decide_eq_true hi, decide_eq_true (show ix T x < k + 1 by omega)]
          simp
        · have hbq : (x == i) = false := beq_eq_false_iff_ne.mpr hxi
          rw [hbq, Bool.or_false]
          congr 1
          cases hbx : newB T x with
          | false => rfl
          | true =>
            have : ix T x ≠ k := fun z => hxi (ix_inj hbx hb (by omega))
            congr 1
            apply decide_eq_decide.mpr
            omega
      · rw [ms_ne (by unfold ro at hk; omega)]
        exact hF k j hk
  refine wpx_ok hS bk37 (sp := sp37) 60 0 _ _ _ _ ?_
  simp only [LCM, B2, Bool.not_eq_false, Bool.not_eq_true, decide_eq_true_eq, decide_eq_false_iff_not, Int.not_lt, Int.not_le, CST, TN, WX, WA, WB, GS, LOC, BT37, SP37, CLS, FLD, ARR, CD, true_and, and_true, and_self, forall_const, true_implies, false_implies, implies_true, not_true_eq_false, not_false_eq_true, if_true, if_false, rgI, rgL, scr, swl, lkl, cats, cat, is2, List.drop_succ_cons, List.drop_zero, List.drop_nil, List.cons_append, List.nil_append, Option.toList_some, Option.toList_none, List.length_cons, List.length_nil, ne_eq, Classical.not_not, reduceCtorEq, Nat.reduceAdd, Nat.reduceSub, Nat.reduceMul, Nat.reduceLT, Nat.reduceLeDiff, Nat.reduceEqDiff, Nat.reduceBEq, Int.reduceToNat, Int.reduceLE, Int.reduceLT, Int.reduceEq, Int.reduceNeg, Int.reduceAdd, Int.reduceSub, Int.reduceMul, Int.toNat_natCast, Nat.zero_add, Int.add_zero, Nat.add_zero, ite_true, ite_false, Option.some.injEq, Nat.le_refl, or_true, true_or, or_false, false_or, if_pos, reduceIte, Nat.reduceGT]
  exact head (nM T) 0 M (by omega) hR (fun _ _ _ => rfl)
theorem x_liftFrom (c : Nat) (M T : MM) (hW : WFt T) (hS' : WS M T) (hD : WD M T c) (hR : RO M (cd T c) (pH T)) : oQ 2 38 [vR 37, vR 32] M (fun r M' => r = none ∧ RO M' (cd T c) (pUp T 0) ∧ ∀ k j, ¬ ro k → M' k j = M k j) := by
  have hn3 := nM_3 hW
  have hH := hW.H
  refine go38 (fun S hS => ?_)
  have head : ∀ (n k : Nat) (N : MM), k + n = nM T → RO N (cd T c) (pDn T k) → (∀ k j, ¬ ro k → N k j = M k j) → S 2 [some (vR 37), some (vR 32), some (vI k)] [] (sh0, 0, 0) N := by
    intro n
    induction n with
    | zero =>
      intro k N hk hO hF
      refine wpx_ok hS bk38 (sp := sp38) 60 2 _ _ _ _ ?_
      simp only [LCM, B2, Bool.not_eq_false, Bool.not_eq_true, decide_eq_true_eq, decide_eq_false_iff_not, Int.not_lt, Int.not_le, CST, TN, WX, WA, WB, GS, LOC, BT38, SP38, CLS, FLD, ARR, CD, true_and, and_true, and_self, forall_const, true_implies, false_implies, implies_true, not_true_eq_false, not_false_eq_true, if_true, if_false, rgI, rgL, scr, swl, lkl, cats, cat, is2, List.drop_succ_cons, List.drop_zero, List.drop_nil, List.cons_append, List.nil_append, Option.toList_some, Option.toList_none, List.length_cons, List.length_nil, ne_eq, Classical.not_not, reduceCtorEq, Nat.reduceAdd, Nat.reduceSub, Nat.reduceMul, Nat.reduceLT, Nat.reduceLeDiff, Nat.reduceEqDiff, Nat.reduceBEq, Int.reduceToNat, Int.reduceLE, Int.reduceLT, Int.reduceEq, Int.reduceNeg, Int.reduceAdd, Int.reduceSub, Int.reduceMul, Int.toNat_natCast, Nat.zero_add, Int.add_zero, Nat.add_zero, ite_true, ite_false, Option.some.injEq, Nat.le_refl, or_true, true_or, or_false, false_or, if_pos, reduceIte, Nat.reduceGT]
      rw [hF 37 0 (by unfold ro; omega), hS'.1]
      refine ⟨by omega, fun h => rt38 (Nat.le_refl _) (Nat.le_refl _) ⟨rfl, rfl, hO.eqp (fun i _ => ?_), hF⟩, fun h => by omega⟩
      unfold pUp pDn
      by_cases hi : i < hN T
      · cases hb : newB T i with
        | false => simp
        | true =>
          have := ix_lt (T := T) (j := hN T) hi hb
          rw [decide_eq_false (show ¬ k ≤ ix T i by unfold nM at hk; omega)]
          simp
      · unfold pH; rw [decide_eq_false hi]; rfl
    | succ n ih =>
      intro k N hk hO hF
      obtain ⟨i, hi, hb, hix⟩ := ix_surj (T := T) (n := hN T) (k := k) (by unfold nM at hk; omega)
      have w := hS'.2.2 i hi hb
      have hs := hW.hs hi
      have hl := hW.ln hi
      have hdl := dig_lt hW hi c
      obtain ⟨wk, hwk⟩ : ∃ x : Nat, T 61 (4 * i) = (x : Int) := ⟨(T 61 (4 * i)).toNat, by omega⟩
      have e38 : N 38 k = i := by rw [hF 38 k (by unfold ro; omega), ← hix]; exact w.1
      have e39 : N 39 k = wk := by rw [hF 39 k (by unfold ro; omega), ← hix, w.2.1]; exact hwk
      have e41 : N 41 k = dig T c i := by rw [hF 41 k (by unfold ro; omega), ← hix]; exact hD i hi hb
      refine wpx_ok hS bk38 (sp := sp38) 60 2 _ _ _ _ ?_
      simp only [LCM, B2, Bool.not_eq_false, Bool.not_eq_true, decide_eq_true_eq, decide_eq_false_iff_not, Int.not_lt, Int.not_le, CST, TN, WX, WA, WB, GS, LOC, BT38, SP38, CLS, FLD, ARR, CD, true_and, and_true, and_self, forall_const, true_implies, false_implies, implies_true, not_true_eq_false, not_false_eq_true, if_true, if_false, rgI, rgL, scr, swl, lkl, cats, cat, is2, List.drop_succ_cons, List.drop_zero, List.drop_nil, List.cons_append, List.nil_append, Option.toList_some, Option.toList_none, List.length_cons, List.length_nil, ne_eq, Classical.not_not, reduceCtorEq, Nat.reduceAdd, Nat.reduceSub, Nat.reduceMul, Nat.reduceLT, Nat.reduceLeDiff, Nat.reduceEqDiff, Nat.reduceBEq, Int.reduceToNat, Int.reduceLE, Int.reduceLT, Int.reduceEq, Int.reduceNeg, Int.reduceAdd, Int.reduceSub, Int.reduceMul, Int.toNat_natCast, Nat.zero_add, Int.add_zero, Nat.add_zero, ite_true, ite_false, Option.some.injEq, Nat.le_refl, or_true, true_or, or_false, false_or, if_pos, reduceIte, Nat.reduceGT]
      rw [hF 37 0 (by unfold ro; omega), hS'.1, e38, e39, e41]
      refine ⟨by omega, fun h => by omega, fun h => ⟨by omega, by omega, by omega, ?_⟩⟩
      refine ⟨rcv_ok rfl own23 rfl, kV (x_lift i wk (dig T c i) N (by omega) (by omega)) (Nat.le_of_ble_eq_true rfl) rfl rfl (Nat.le_of_ble_eq_true rfl) (Nat.le_of_ble_eq_true rfl) rfl ?_⟩
      refine wpx_ok hS bk38 (sp := sp38) 60 32 _ _ _ _ ?_
      simp only [LCM, B2, Bool.not_eq_false, Bool.not_eq_true, decide_eq_true_eq, decide_eq_false_iff_not, Int.not_lt, Int.not_le, CST, TN, WX, WA, WB, GS, LOC, BT38, SP38, CLS, FLD, ARR, CD, true_and, and_true, and_self, forall_const, true_implies, false_implies, implies_true, not_true_eq_false, not_false_eq_true, if_true, if_false, rgI, rgL, scr, swl, lkl, cats, cat, is2, List.drop_succ_cons, List.drop_zero, List.drop_nil, List.cons_append, List.nil_append, Option.toList_some, Option.toList_none, List.length_cons, List.length_nil, ne_eq, Classical.not_not, reduceCtorEq, Nat.reduceAdd, Nat.reduceSub, Nat.reduceMul, Nat.reduceLT, Nat.reduceLeDiff, Nat.reduceEqDiff, Nat.reduceBEq, Int.reduceToNat, Int.reduceLE, Int.reduceLT, Int.reduceEq, Int.reduceNeg, Int.reduceAdd, Int.reduceSub, Int.reduceMul, Int.toNat_natCast, Nat.zero_add, Int.add_zero, Nat.add_zero, ite_true, ite_false, Option.some.injEq, Nat.le_refl, or_true, true_or, or_false, false_or, if_pos, reduceIte, Nat.reduceGT]
      refine ih (k + 1) _ (by omega) ((hO.lift (by omega) (by omega) (by omega) (by rw [(cd_at c hi).1, hwk]) (cd_new hi hb)).eqp (fun x _ => ?_)) (fun k j hk => ?_)
      · unfold pDn
        by_cases hxi : x = i
        · subst hxi
          rw [hb, decide_eq_false (show ¬ k + 1 ≤ ix T x by omega)]
          simp
        · have hbq : (x == i) = false := beq_eq_false_iff_ne.mpr hxi
          rw [hbq, Bool.not_false, Bool.and_true]
          congr 1
          cases hbx : newB T x with
          | false => rfl
          | true =>
            have : ix T x ≠ k := fun z => hxi (ix_inj hbx hb (by omega))
            congr 1
            apply decide_eq_decide.mpr
            omega
      · rw [ms_ne (by unfold ro at hk; omega)]
        exact hF k j hk
  refine wpx_ok hS bk38 (sp := sp38) 60 0 _ _ _ _ ?_
  simp only [LCM, B2, Bool.not_eq_false, Bool.not_eq_true, decide_eq_true_eq, decide_eq_false_iff_not, Int.not_lt, Int.not_le, CST, TN, WX, WA, WB, GS, LOC, BT38, SP38, CLS, FLD, ARR, CD, true_and, and_true, and_self, forall_const, true_implies, false_implies, implies_true, not_true_eq_false, not_false_eq_true, if_true, if_false, rgI, rgL, scr, swl, lkl, cats, cat, is2, List.drop_succ_cons, List.drop_zero, List.drop_nil, List.cons_append, List.nil_append, Option.toList_some, Option.toList_none, List.length_cons, List.length_nil, ne_eq, Classical.not_not, reduceCtorEq, Nat.reduceAdd, Nat.reduceSub, Nat.reduceMul, Nat.reduceLT, Nat.reduceLeDiff, Nat.reduceEqDiff, Nat.reduceBEq, Int.reduceToNat, Int.reduceLE, Int.reduceLT, Int.reduceEq, Int.reduceNeg, Int.reduceAdd, Int.reduceSub, Int.reduceMul, Int.toNat_natCast, Nat.zero_add, Int.add_zero, Nat.add_zero, ite_true, ite_false, Option.some.injEq, Nat.le_refl, or_true, true_or, or_false, false_or, if_pos, reduceIte, Nat.reduceGT]
  refine head (nM T) 0 M (by omega) (hR.eqp (fun i _ => ?_)) (fun _ _ _ => rfl)
  unfold pDn
  simp
/-- this way is one of those sought -/
def fdV (M : MM) (w : Int) : Bool := decide (M 37 6 = 0) || decide (w < M 37 7)
theorem x_find (w : Int) (M T : MM) (hW : WFt T) (hS' : WS M T) (hw : 0 ≤ w ∧ w ≤ 10) (h6 : 0 ≤ M 37 6 ∧ M 37 6 ≤ 2000) (h7 : 0 ≤ M 37 7 ∧ M 37 7 ≤ 10) : oQ 1 39 [vR 37, vI w] M (fun r M' => r = none ∧ M' 37 6 = M 37 6 + 1 ∧ M' 37 7 = (if fdV M w then w else M 37 7) ∧ (∀ j, j < 3 → M' 42 j = if fdV M w then M 41 j else M 42 j) ∧ (∀ j, j < nM T → M' 43 j = bOr (M 43 j) (bShl 1 (M 41 j))) ∧ ∀ k j, ¬ (k = 37 ∧ (j = 6 ∨ j = 7)) → k ≠ 42 → k ≠ 43 → M' k j = M k j) := by
  have hn3 := nM_3 hW
  refine go39 (fun S hS => ?_)
  have head : ∀ (N0 : MM), N0 37 6 = M 37 6 + 1 → N0 37 7 = (if fdV M w then w else M 37 7) → (∀ j, j < 3 → N0 42 j = if fdV M w then M 41 j else M 42 j) → (∀ k j, ¬ (k = 37 ∧ (j = 6 ∨ j = 7)) → k ≠ 42 → N0 k j = M k j) →
      ∀ (n k : Nat) (N : MM), k + n = nM T → (∀ j, j < k → N 43 j = bOr (M 43 j) (bShl 1 (M 41 j))) → (∀ j, k ≤ j → N 43 j = M 43 j) → (∀ k j, k ≠ 43 → N k j = N0 k j) → S 46 [some (vR 37), some (vI w), some (vI k)] [] (sh0, 0, 0) N := by
    intro N0 a6 a7 a42 aF n
    induction n with
    | zero =>
      intro k N hk hlo hhi hF
      refine wpx_ok hS bk39 (sp := sp39) 60 46 _ _ _ _ ?_
      simp only [LCM, B2, Bool.not_eq_false, Bool.not_eq_true, decide_eq_true_eq, decide_eq_false_iff_not, Int.not_lt, Int.not_le, CST, TN, WX, WA, WB, GS, LOC, BT39, SP39, CLS, FLD, ARR, CD, true_and, and_true, and_self, forall_const, true_implies, false_implies, implies_true, not_true_eq_false, not_false_eq_true, if_true, if_false, rgI, rgL, scr, swl, lkl, cats, cat, is2, List.drop_succ_cons, List.drop_zero, List.drop_nil, List.cons_append, List.nil_append, Option.toList_some, Option.toList_none, List.length_cons, List.length_nil, ne_eq, Classical.not_not, reduceCtorEq, Nat.reduceAdd, Nat.reduceSub, Nat.reduceMul, Nat.reduceLT, Nat.reduceLeDiff, Nat.reduceEqDiff, Nat.reduceBEq, Int.reduceToNat, Int.reduceLE, Int.reduceLT, Int.reduceEq, Int.reduceNeg, Int.reduceAdd, Int.reduceSub, Int.reduceMul, Int.toNat_natCast, Nat.zero_add, Int.add_zero, Nat.add_zero, ite_true, ite_false, Option.some.injEq, Nat.le_refl, or_true, true_or, or_false, false_or, if_pos, reduceIte, Nat.reduceGT]
      rw [hF 37 0 (by decide), aF 37 0 (by omega) (by decide), hS'.1]
      refine ⟨by omega, fun h => rt39 (Nat.le_refl _) (Nat.le_refl _) ⟨rfl, rfl, ?_, ?_, fun j hj => ?_, fun j hj => hlo j (by omega), fun k j h1 h2 h3 => ?_⟩, fun h => by omega⟩
      · rw [hF 37 6 (by decide)]; exact a6
      · rw [hF 37 7 (by decide)]; exact a7
      · rw [hF 42 j (by decide)]; exact a42 j hj
      · rw [hF k j h3]; exact aF k j h1 h2
    | succ n ih =>
      intro k N hk hlo hhi hF
      refine wpx_ok hS bk39 (sp := sp39) 60 46 _ _ _ _ ?_
      simp only [LCM, B2, Bool.not_eq_false, Bool.not_eq_true, decide_eq_true_eq, decide_eq_false_iff_not, Int.not_lt, Int.not_le, CST, TN, WX, WA, WB, GS, LOC, BT39, SP39, CLS, FLD, ARR, CD, true_and, and_true, and_self, forall_const, true_implies, false_implies, implies_true, not_true_eq_false, not_false_eq_true, if_true, if_false, rgI, rgL, scr, swl, lkl, cats, cat, is2, List.drop_succ_cons, List.drop_zero, List.drop_nil, List.cons_append, List.nil_append, Option.toList_some, Option.toList_none, List.length_cons, List.length_nil, ne_eq, Classical.not_not, reduceCtorEq, Nat.reduceAdd, Nat.reduceSub, Nat.reduceMul, Nat.reduceLT, Nat.reduceLeDiff, Nat.reduceEqDiff, Nat.reduceBEq, Int.reduceToNat, Int.reduceLE, Int.reduceLT, Int.reduceEq, Int.reduceNeg, Int.reduceAdd, Int.reduceSub, Int.reduceMul, Int.toNat_natCast, Nat.zero_add, Int.add_zero, Nat.add_zero, ite_true, ite_false, Option.some.injEq, Nat.le_refl, or_true, true_or, or_false, false_or, if_pos, reduceIte, Nat.reduceGT, ms_ne, ms_eq, ms_nj]
      rw [hF 37 0 (by decide), aF 37 0 (by omega) (by decide), hS'.1, hF 41 k (by decide), aF 41 k (by omega) (by decide), hhi k (by omega)]
      refine ⟨by omega, fun h => by omega, fun h => ⟨by omega, by omega, by omega, ?_⟩⟩
      refine ih (k + 1) _ (by omega) (fun j hj => ?_) (fun j hj => ?_) (fun x j hx => ?_)
      · by_cases hjk : j = k
        · subst hjk; rw [ms_eq]
        · rw [ms_nj hjk]; exact hlo j (by omega)
      · rw [ms_nj (by omega)]; exact hhi j (by omega)
      · rw [ms_ne hx]; exact hF x j hx
  have yes : fdV M w = true → S 46 [some (vR 37), some (vI w), some (vI 0)] [] (sh0, 0, 0) (mset (mcpy (mset M 37 7 w) 41 42 0 0 3) 37 6 (mcpy (mset M 37 7 w) 41 42 0 0 3 37 6 + 1)) := by
    intro hv
    refine head _ rfl (by rw [hv]; rfl) (fun j hj => ?_) (fun k j h1 h2 => ?_) (nM T) 0 _ (by omega) (fun j hj => by omega) (fun j _ => ?_) (fun _ _ _ => rfl)
    · rw [hv, if_pos rfl, ms_ne (by decide)]
      unfold mcpy
      rw [if_pos ⟨rfl, by omega, by omega⟩, ms_ne (by decide)]
      congr 1
      omega
    · unfold mset mcpy
      rw [if_neg (by omega), if_neg (by omega)]
      show (if k = 37 ∧ j = 7 then w else M k j) = M k j
      rw [if_neg (by omega)]
    · rfl
  refine wpx_ok hS bk39 (sp := sp39) 60 0 _ _ _ _ ?_
  simp only [LCM, B2, Bool.not_eq_false, Bool.not_eq_true, decide_eq_true_eq, decide_eq_false_iff_not, Int.not_lt, Int.not_le, CST, TN, WX, WA, WB, GS, LOC, BT39, SP39, CLS, FLD, ARR, CD, true_and, and_true, and_self, forall_const, true_implies, false_implies, implies_true, not_true_eq_false, not_false_eq_true, if_true, if_false, rgI, rgL, scr, swl, lkl, cats, cat, is2, List.drop_succ_cons, List.drop_zero, List.drop_nil, List.cons_append, List.nil_append, Option.toList_some, Option.toList_none, List.length_cons, List.length_nil, ne_eq, Classical.not_not, reduceCtorEq, Nat.reduceAdd, Nat.reduceSub, Nat.reduceMul, Nat.reduceLT, Nat.reduceLeDiff, Nat.reduceEqDiff, Nat.reduceBEq, Int.reduceToNat, Int.reduceLE, Int.reduceLT, Int.reduceEq, Int.reduceNeg, Int.reduceAdd, Int.reduceSub, Int.reduceMul, Int.toNat_natCast, Nat.zero_add, Int.add_zero, Nat.add_zero, ite_true, ite_false, Option.some.injEq, Nat.le_refl, or_true, true_or, or_false, false_or, if_pos, reduceIte, Nat.reduceGT, ms_ne, ms_eq, ms_nj]
  refine ⟨by omega, fun h => yes ?_, fun h => ⟨by omega, fun h1 => ?_, fun h1 => yes ?_⟩⟩
  · unfold fdV; rw [decide_eq_true h]; rfl
  · have hv : fdV M w = false := by unfold fdV; rw [decide_eq_false h, decide_eq_false (by omega)]; rfl
    refine head _ rfl (by rw [hv]; rfl) (fun j hj => ?_) (fun k j h1 h2 => ?_) (nM T) 0 _ (by omega) (fun j hj => by omega) (fun j _ => ?_) (fun _ _ _ => rfl)
    · rw [hv, ms_ne (by decide)]; rfl
    · unfold mset
      rw [if_neg (by omega)]
    · rfl
  · unfold fdV; rw [decide_eq_true h1]; simp
theorem x_ofHouse (r i : Nat) (M T : MM) (hW : WFt T) (hS' : WS M T) (hr : r = 42 ∨ r = 43) (hi : i < hN T) (hb : newB T i = true) : oI 1 42 [vR 37, vR r, vI i] M (M r (ix T i)) := by
  have hn3 := nM_3 hW
  have hH := hW.H
  have hxl := ix_lt (T := T) (j := hN T) hi hb
  have harr : ∃ f, arr sh0 r = some (0, 3, f) := by rcases hr with rfl | rfl <;> exact ⟨_, rfl⟩
  obtain ⟨f, hf⟩ := harr
  have hscr : r ≠ 1000000 := by omega
  refine go42 (fun S hS => ?_)
  have head : ∀ (n k : Nat), k + n = ix T i → S 2 [some (vR 37), some (vR r), some (vI i), some (vI k)] [] (sh0, 0, 0) M := by
    intro n
    induction n with
    | zero =>
      intro k hk
      have e38 : M 38 k = i := by rw [show k = ix T i by omega]; exact (hS'.2.2 i hi hb).1
      have hnm : ix T (hN T) = nM T := rfl
      refine wpx_ok hS bk42 (sp := sp42) 60 2 _ _ _ _ ?_
      simp only [LCM, B2, Bool.not_eq_false, Bool.not_eq_true, decide_eq_true_eq, decide_eq_false_iff_not, Int.not_lt, Int.not_le, CST, TN, WX, WA, WB, GS, LOC, BT42, SP42, CLS, FLD, ARR, CD, true_and, and_true, and_self, forall_const, true_implies, false_implies, implies_true, not_true_eq_false, not_false_eq_true, if_true, if_false, rgI, rgL, scr, swl, lkl, cats, cat, is2, List.drop_succ_cons, List.drop_zero, List.drop_nil, List.cons_append, List.nil_append, Option.toList_some, Option.toList_none, List.length_cons, List.length_nil, ne_eq, Classical.not_not, reduceCtorEq, Nat.reduceAdd, Nat.reduceSub, Nat.reduceMul, Nat.reduceLT, Nat.reduceLeDiff, Nat.reduceEqDiff, Nat.reduceBEq, Int.reduceToNat, Int.reduceLE, Int.reduceLT, Int.reduceEq, Int.reduceNeg, Int.reduceAdd, Int.reduceSub, Int.reduceMul, Int.toNat_natCast, Nat.zero_add, Int.add_zero, Nat.add_zero, ite_true, ite_false, Option.some.injEq, Nat.le_refl, or_true, true_or, or_false, false_or, if_pos, reduceIte, Nat.reduceGT]
      rw [hS'.1, e38, hf]
      simp only [GS, hscr, if_false, true_and, Int.toNat_natCast]
      refine ⟨by omega, fun h => by omega, fun h => ⟨by omega, by omega, fun h1 => absurd trivial h1, fun _ => ⟨by omega, by omega, rt42 ⟨rfl, ?_, rfl⟩⟩⟩⟩
      rw [show k = ix T i by omega]
    | succ n ih =>
      intro k hk
      have hnm : ix T (hN T) = nM T := rfl
      obtain ⟨x, hx, hbx, hix⟩ := ix_surj (T := T) (n := hN T) (k := k) (by omega)
      have e38 : M 38 k = x := by rw [← hix]; exact (hS'.2.2 x hx hbx).1
      have hxi : x ≠ i := fun z => by subst z; omega
      refine wpx_ok hS bk42 (sp := sp42) 60 2 _ _ _ _ ?_
      simp only [LCM, B2, Bool.not_eq_false, Bool.not_eq_true, decide_eq_true_eq, decide_eq_false_iff_not, Int.not_lt, Int.not_le, CST, TN, WX, WA, WB, GS, LOC, BT42, SP42, CLS, FLD, ARR, CD, true_and, and_true, and_self, forall_const, true_implies, false_implies, implies_true, not_true_eq_false, not_false_eq_true, if_true, if_false, rgI, rgL, scr, swl, lkl, cats, cat, is2, List.drop_succ_cons, List.drop_zero, List.drop_nil, List.cons_append, List.nil_append, Option.toList_some, Option.toList_none, List.length_cons, List.length_nil, ne_eq, Classical.not_not, reduceCtorEq, Nat.reduceAdd, Nat.reduceSub, Nat.reduceMul, Nat.reduceLT, Nat.reduceLeDiff, Nat.reduceEqDiff, Nat.reduceBEq, Int.reduceToNat, Int.reduceLE, Int.reduceLT, Int.reduceEq, Int.reduceNeg, Int.reduceAdd, Int.reduceSub, Int.reduceMul, Int.toNat_natCast, Nat.zero_add, Int.add_zero, Nat.add_zero, ite_true, ite_false, Option.some.injEq, Nat.le_refl, or_true, true_or, or_false, false_or, if_pos, reduceIte, Nat.reduceGT]
      rw [hS'.1, e38, hf]
      simp only [GS, hscr, if_false, true_and, Int.toNat_natCast]
      refine ⟨by omega, fun h => by omega, fun h => ⟨by omega, by omega, fun h1 => ih (k + 1) (by omega), fun h1 => by omega⟩⟩
  refine wpx_ok hS bk42 (sp := sp42) 60 0 _ _ _ _ ?_
  simp only [LCM, B2, Bool.not_eq_false, Bool.not_eq_true, decide_eq_true_eq, decide_eq_false_iff_not, Int.not_lt, Int.not_le, CST, TN, WX, WA, WB, GS, LOC, BT42, SP42, CLS, FLD, ARR, CD, true_and, and_true, and_self, forall_const, true_implies, false_implies, implies_true, not_true_eq_false, not_false_eq_true, if_true, if_false, rgI, rgL, scr, swl, lkl, cats, cat, is2, List.drop_succ_cons, List.drop_zero, List.drop_nil, List.cons_append, List.nil_append, Option.toList_some, Option.toList_none, List.length_cons, List.length_nil, ne_eq, Classical.not_not, reduceCtorEq, Nat.reduceAdd, Nat.reduceSub, Nat.reduceMul, Nat.reduceLT, Nat.reduceLeDiff, Nat.reduceEqDiff, Nat.reduceBEq, Int.reduceToNat, Int.reduceLE, Int.reduceLT, Int.reduceEq, Int.reduceNeg, Int.reduceAdd, Int.reduceSub, Int.reduceMul, Int.toNat_natCast, Nat.zero_add, Int.add_zero, Nat.add_zero, ite_true, ite_false, Option.some.injEq, Nat.le_refl, or_true, true_or, or_false, false_or, if_pos, reduceIte, Nat.reduceGT]
  exact head (ix T i) 0 (by omega)
theorem x_chosenRest (i : Nat) (M T : MM) (hW : WFt T) (hS' : WS M T) (hi : i < hN T) (hb : newB T i = true) : oI 2 40 [vR 37, vI i] M (M 42 (ix T i)) := by
  refine go40 (fun S hS => ?_)
  refine wpx_ok hS bk40 (sp := sp40) 60 0 _ _ _ _ ?_
  simp only [LCM, B2, Bool.not_eq_false, Bool.not_eq_true, decide_eq_true_eq, decide_eq_false_iff_not, Int.not_lt, Int.not_le, CST, TN, WX, WA, WB, GS, LOC, BT40, SP40, CLS, FLD, ARR, CD, true_and, and_true, and_self, forall_const, true_implies, false_implies, implies_true, not_true_eq_false, not_false_eq_true, if_true, if_false, rgI, rgL, scr, swl, lkl, cats, cat, is2, List.drop_succ_cons, List.drop_zero, List.drop_nil, List.cons_append, List.nil_append, Option.toList_some, Option.toList_none, List.length_cons, List.length_nil, ne_eq, Classical.not_not, reduceCtorEq, Nat.reduceAdd, Nat.reduceSub, Nat.reduceMul, Nat.reduceLT, Nat.reduceLeDiff, Nat.reduceEqDiff, Nat.reduceBEq, Int.reduceToNat, Int.reduceLE, Int.reduceLT, Int.reduceEq, Int.reduceNeg, Int.reduceAdd, Int.reduceSub, Int.reduceMul, Int.toNat_natCast, Nat.zero_add, Int.add_zero, Nat.add_zero, ite_true, ite_false, Option.some.injEq, Nat.le_refl, or_true, true_or, or_false, false_or, if_pos, reduceIte, Nat.reduceGT]
  refine ⟨rcv_ok rfl own42 rfl, kI (x_ofHouse 42 i M T hW hS' (Or.inl rfl) hi hb) (Nat.le_of_ble_eq_true rfl) rfl rfl (Nat.le_of_ble_eq_true rfl) (Nat.le_of_ble_eq_true rfl) rfl ?_⟩
  refine wpx_ok hS bk40 (sp := sp40) 60 9 _ _ _ _ ?_
  simp only [LCM, B2, Bool.not_eq_false, Bool.not_eq_true, decide_eq_true_eq, decide_eq_false_iff_not, Int.not_lt, Int.not_le, CST, TN, WX, WA, WB, GS, LOC, BT40, SP40, CLS, FLD, ARR, CD, true_and, and_true, and_self, forall_const, true_implies, false_implies, implies_true, not_true_eq_false, not_false_eq_true, if_true, if_false, rgI, rgL, scr, swl, lkl, cats, cat, is2, List.drop_succ_cons, List.drop_zero, List.drop_nil, List.cons_append, List.nil_append, Option.toList_some, Option.toList_none, List.length_cons, List.length_nil, ne_eq, Classical.not_not, reduceCtorEq, Nat.reduceAdd, Nat.reduceSub, Nat.reduceMul, Nat.reduceLT, Nat.reduceLeDiff, Nat.reduceEqDiff, Nat.reduceBEq, Int.reduceToNat, Int.reduceLE, Int.reduceLT, Int.reduceEq, Int.reduceNeg, Int.reduceAdd, Int.reduceSub, Int.reduceMul, Int.toNat_natCast, Nat.zero_add, Int.add_zero, Nat.add_zero, ite_true, ite_false, Option.some.injEq, Nat.le_refl, or_true, true_or, or_false, false_or, if_pos, reduceIte, Nat.reduceGT]
  exact rt40 ⟨rfl, rfl, rfl⟩
theorem x_restsOfSome (i : Nat) (M T : MM) (hW : WFt T) (hS' : WS M T) (hi : i < hN T) (hb : newB T i = true) : oI 2 41 [vR 37, vI i] M (M 43 (ix T i)) := by
  refine go41 (fun S hS => ?_)
  refine wpx_ok hS bk41 (sp := sp41) 60 0 _ _ _ _ ?_
  simp only [LCM, B2, Bool.not_eq_false, Bool.not_eq_true, decide_eq_true_eq, decide_eq_false_iff_not, Int.not_lt, Int.not_le, CST, TN, WX, WA, WB, GS, LOC, BT41, SP41, CLS, FLD, ARR, CD, true_and, and_true, and_self, forall_const, true_implies, false_implies, implies_true, not_true_eq_false, not_false_eq_true, if_true, if_false, rgI, rgL, scr, swl, lkl, cats, cat, is2, List.drop_succ_cons, List.drop_zero, List.drop_nil, List.cons_append, List.nil_append, Option.toList_some, Option.toList_none, List.length_cons, List.length_nil, ne_eq, Classical.not_not, reduceCtorEq, Nat.reduceAdd, Nat.reduceSub, Nat.reduceMul, Nat.reduceLT, Nat.reduceLeDiff, Nat.reduceEqDiff, Nat.reduceBEq, Int.reduceToNat, Int.reduceLE, Int.reduceLT, Int.reduceEq, Int.reduceNeg, Int.reduceAdd, Int.reduceSub, Int.reduceMul, Int.toNat_natCast, Nat.zero_add, Int.add_zero, Nat.add_zero, ite_true, ite_false, Option.some.injEq, Nat.le_refl, or_true, true_or, or_false, false_or, if_pos, reduceIte, Nat.reduceGT]
  refine ⟨rcv_ok rfl own42 rfl, kI (x_ofHouse 43 i M T hW hS' (Or.inr rfl) hi hb) (Nat.le_of_ble_eq_true rfl) rfl rfl (Nat.le_of_ble_eq_true rfl) (Nat.le_of_ble_eq_true rfl) rfl ?_⟩
  refine wpx_ok hS bk41 (sp := sp41) 60 9 _ _ _ _ ?_
  simp only [LCM, B2, Bool.not_eq_false, Bool.not_eq_true, decide_eq_true_eq, decide_eq_false_iff_not, Int.not_lt, Int.not_le, CST, TN, WX, WA, WB, GS, LOC, BT41, SP41, CLS, FLD, ARR, CD, true_and, and_true, and_self, forall_const, true_implies, false_implies, implies_true, not_true_eq_false, not_false_eq_true, if_true, if_false, rgI, rgL, scr, swl, lkl, cats, cat, is2, List.drop_succ_cons, List.drop_zero, List.drop_nil, List.cons_append, List.nil_append, Option.toList_some, Option.toList_none, List.length_cons, List.length_nil, ne_eq, Classical.not_not, reduceCtorEq, Nat.reduceAdd, Nat.reduceSub, Nat.reduceMul, Nat.reduceLT, Nat.reduceLeDiff, Nat.reduceEqDiff, Nat.reduceBEq, Int.reduceToNat, Int.reduceLE, Int.reduceLT, Int.reduceEq, Int.reduceNeg, Int.reduceAdd, Int.reduceSub, Int.reduceMul, Int.toNat_natCast, Nat.zero_add, Int.add_zero, Nat.add_zero, ite_true, ite_false, Option.some.injEq, Nat.le_refl, or_true, true_or, or_false, false_or, if_pos, reduceIte, Nat.reduceGT]
  exact rt41 ⟨rfl, rfl, rfl⟩

/-- the cells that the town's words read -/
def pt (T : MM) : MM := fun k j => if 57 ≤ k ∧ k ≤ 67 then T k j else 0
theorem pt_eq {T T' : MM} (h : ∀ k j, 57 ≤ k → k ≤ 67 → T' k j = T k j) : pt T' = pt T := by
  funext k j
  unfold pt
  by_cases hk : 57 ≤ k ∧ k ≤ 67
  · rw [if_pos hk, if_pos hk, h k j hk.1 hk.2]
  · rw [if_neg hk, if_neg hk]
theorem evS_pt (T : MM) (w : Nat) : evS (pt T) w = evS T w := rfl
theorem evS_pt2 (T : MM) (w i : Nat) (r : Int) : evS (setR (pt T) i r) w = evS (setR T i r) w := rfl
theorem oneR_pt (T : MM) (w i : Nat) : oneR (pt T) w i = oneR T w i := rfl
theorem oneC_pt (T : MM) (w : Nat) : ∀ n i : Nat, oneC (pt T) w i n = oneC T w i n
  | 0, _ => rfl
  | n + 1, i => by
    rw [oneC, oneC, oneC_pt T w n (i + 1), oneR_pt]
theorem setR_pt (T : MM) (i : Nat) (r : Int) : pt (setR (pt T) i r) = pt (setR T i r) := by
  funext k j
  unfold pt setR mset
  by_cases hk : 57 ≤ k ∧ k ≤ 67
  · by_cases h2 : k = 61 ∧ j = 4 * i + 1
    · rw [if_pos hk, if_pos hk, if_pos h2, if_pos h2]
    · rw [if_pos hk, if_pos hk, if_neg h2, if_neg h2]
      show (if 57 ≤ k ∧ k ≤ 67 then T k j else 0) = T k j
      rw [if_pos hk]
  · rw [if_neg hk, if_neg hk]
def twoO (T : MM) (w i r : Nat) : Option (Nat × Nat) := oneC (setR T i r) w (i + 1) (hN T - (i + 1))
theorem twoO_pt (T : MM) (w i r : Nat) : twoO (pt T) w i r = twoO T w i r := by
  unfold twoO
  rw [← oneC_pt (setR (pt T) i r), setR_pt, oneC_pt]
  rfl
def twoP (T : MM) (w i : Nat) (r : Nat) : Bool := decide ((r : Int) ≠ T 61 (4 * i + 1)) && (twoO T w i r).isSome
def twoR (T : MM) (w i : Nat) : Option Nat := fstF (twoP T w i) 0 (len T i).toNat
theorem twoR_pt (T : MM) (w i : Nat) : twoR (pt T) w i = twoR T w i := by
  unfold twoR
  have : twoP (pt T) w i = twoP T w i := by
    funext r
    unfold twoP
    rw [twoO_pt]
    rfl
  rw [this]
  rfl
def twoC (T : MM) (w : Nat) : Nat → Nat → Option (Nat × Nat)
  | _, 0 => none
  | i, n + 1 => match twoR T w i with
    | some r => some (i, r)
    | none => twoC T w (i + 1) n
theorem twoC_pt (T : MM) (w : Nat) : ∀ n i : Nat, twoC (pt T) w i n = twoC T w i n
  | 0, _ => rfl
  | n + 1, i => by
    rw [twoC, twoC, twoC_pt T w n (i + 1), twoR_pt]
def g_two (M : MM) (w : Nat) (x : Option (Nat × Nat)) : MM := match x with
  | some (i, r) => mset (mset (g_one M 3 (twoO M w i r)) 77 1 i) 77 2 r
  | none => M
theorem ms_comm (T : MM) {k k' : Nat} (h : k ≠ k') (j j' : Nat) (a b : Int) : mset (mset T k j a) k' j' b = mset (mset T k' j' b) k j a := by
  funext x y
  unfold mset
  by_cases h1 : x = k ∧ y = j
  · rw [if_pos h1, if_neg (by omega), if_pos h1]
  · rw [if_neg h1, if_neg h1]
theorem g_one_back (M : MM) (i a : Nat) (r : Int) (X : Option (Nat × Nat)) : mset (g_one (setR M i r) a X) 61 (4 * i + 1) (M 61 (4 * i + 1)) = g_one M a X := by
  cases X with
  | none => exact setR_back M i r
  | some p =>
    obtain ⟨x, y⟩ := p
    unfold g_one
    dsimp only
    rw [ms_comm _ (show 77 ≠ 61 by decide), ms_comm _ (show 77 ≠ 61 by decide), setR_back]
theorem m_changesTwo (w : Nat) (M : MM) (hW : WFt M) (hw : w < wN M) : oQ 7 145 [vR 55, vI w] M (fun r M' => r = some (Sum.inl (b2i (twoC M w 0 (hN M)).isSome)) ∧ M' = g_two M w (twoC M w 0 (hN M))) := by
  have hH := hW.H
  generalize hR : twoC M w 0 (hN M) = R
  refine go145 (fun S hS => ?_)
  have head : ∀ (n i : Nat), i + n = hN M → twoC M w i n = R → ∀ o5 o6 o7 : Option AV, S 2 [some (vR 55), some (vI w), some (vI i), o5, o6, o7] [] (sh0, 0, 0) M := by
    intro n
    induction n with
    | zero =>
      intro i hi hf o5 o6 o7
      refine wpx_ok hS bk145 (sp := sp145) 60 2 _ _ _ _ ?_
      simp only [LCM, B2, Bool.not_eq_false, Bool.not_eq_true, decide_eq_true_eq, decide_eq_false_iff_not, Int.not_lt, Int.not_le, CST, TN, WX, WA, WB, GS, LOC, BT145, SP145, CLS, FLD, ARR, CD, true_and, and_true, and_self, forall_const, true_implies, false_implies, implies_true, not_true_eq_false, not_false_eq_true, if_true, if_false, rgI, rgL, scr, swl, lkl, cats, cat, is2, List.drop_succ_cons, List.drop_zero, List.drop_nil, List.cons_append, List.nil_append, Option.toList_some, Option.toList_none, List.length_cons, List.length_nil, ne_eq, Classical.not_not, reduceCtorEq, Nat.reduceAdd, Nat.reduceSub, Nat.reduceMul, Nat.reduceLT, Nat.reduceLeDiff, Nat.reduceEqDiff, Nat.reduceBEq, Int.reduceToNat, Int.reduceLE, Int.reduceLT, Int.reduceEq, Int.reduceNeg, Int.reduceAdd, Int.reduceSub, Int.reduceMul, Int.toNat_natCast, Nat.zero_add, Int.add_zero, Nat.add_zero, ite_true, ite_false, Option.some.injEq, Nat.le_refl, or_true, true_or, or_false, false_or, if_pos, reduceIte, Nat.reduceGT]
      refine ⟨by omega, fun h => rt145 (by decide) ⟨rfl, ?_, ?_⟩, fun h => by omega⟩
      · rw [← hf]; rfl
      · rw [← hf]; rfl
    | succ n ih =>
      intro i hi hf o5 o6 o7
      rw [twoC] at hf
      have hs := hW.hs (i := i) (by omega)
      have hl := hW.ln (i := i) (by omega)
      have inner : ∀ (m r : Nat), r + m = (len M i).toNat → fstF (twoP M w i) r m = twoR M w i → ∀ o7 : Option AV, S 26 [some (vR 55), some (vI w), some (vI i), some (vI (M 61 (4 * i + 1))), some (vI r), o7] [] (sh0, 0, 0) M := by
        intro m
        induction m with
        | zero =>
          intro r hr hq o7
          refine wpx_ok hS bk145 (sp := sp145) 60 26 _ _ _ _ ?_
          simp only [LCM, B2, Bool.not_eq_false, Bool.not_eq_true, decide_eq_true_eq, decide_eq_false_iff_not, Int.not_lt, Int.not_le, CST, TN, WX, WA, WB, GS, LOC, BT145, SP145, CLS, FLD, ARR, CD, true_and, and_true, and_self, forall_const, true_implies, false_implies, implies_true, not_true_eq_false, not_false_eq_true, if_true, if_false, rgI, rgL, scr, swl, lkl, cats, cat, is2, List.drop_succ_cons, List.drop_zero, List.drop_nil, List.cons_append, List.nil_append, Option.toList_some, Option.toList_none, List.length_cons, List.length_nil, ne_eq, Classical.not_not, reduceCtorEq, Nat.reduceAdd, Nat.reduceSub, Nat.reduceMul, Nat.reduceLT, Nat.reduceLeDiff, Nat.reduceEqDiff, Nat.reduceBEq, Int.reduceToNat, Int.reduceLE, Int.reduceLT, Int.reduceEq, Int.reduceNeg, Int.reduceAdd, Int.reduceSub, Int.reduceMul, Int.toNat_natCast, Nat.zero_add, Int.add_zero, Nat.add_zero, ite_true, ite_false, Option.some.injEq, Nat.le_refl, or_true, true_or, or_false, false_or, if_pos, reduceIte, Nat.reduceGT]
          refine ⟨rcv_ok rfl own117 rfl, kI (m_weekOf i M hW (by omega)) (Nat.le_of_ble_eq_true rfl) rfl rfl (Nat.le_of_ble_eq_true rfl) (Nat.le_of_ble_eq_true rfl) rfl ?_⟩
          refine wpx_ok hS bk145 (sp := sp145) 60 33 _ _ _ _ ?_
          simp only [LCM, B2, Bool.not_eq_false, Bool.not_eq_true, decide_eq_true_eq, decide_eq_false_iff_not, Int.not_lt, Int.not_le, CST, TN, WX, WA, WB, GS, LOC, BT145, SP145, CLS, FLD, ARR, CD, true_and, and_true, and_self, forall_const, true_implies, false_implies, implies_true, not_true_eq_false, not_false_eq_true, if_true, if_false, rgI, rgL, scr, swl, lkl, cats, cat, is2, List.drop_succ_cons, List.drop_zero, List.drop_nil, List.cons_append, List.nil_append, Option.toList_some, Option.toList_none, List.length_cons, List.length_nil, ne_eq, Classical.not_not, reduceCtorEq, Nat.reduceAdd, Nat.reduceSub, Nat.reduceMul, Nat.reduceLT, Nat.reduceLeDiff, Nat.reduceEqDiff, Nat.reduceBEq, Int.reduceToNat, Int.reduceLE, Int.reduceLT, Int.reduceEq, Int.reduceNeg, Int.reduceAdd, Int.reduceSub, Int.reduceMul, Int.toNat_natCast, Nat.zero_add, Int.add_zero, Nat.add_zero, ite_true, ite_false, Option.some.injEq, Nat.le_refl, or_true, true_or, or_false, false_or, if_pos, reduceIte, Nat.reduceGT]
          refine ⟨by omega, fun h => ?_, fun h => by omega⟩
          rw [← hq] at hf
          exact ih (i + 1) (by omega) hf _ _ _
        | succ m ihm =>
          intro r hr hq o7
          rw [fstF] at hq
          refine wpx_ok hS bk145 (sp := sp145) 60 26 _ _ _ _ ?_
          simp only [LCM, B2, Bool.not_eq_false, Bool.not_eq_true, decide_eq_true_eq, decide_eq_false_iff_not, Int.not_lt, Int.not_le, CST, TN, WX, WA, WB, GS, LOC, BT145, SP145, CLS, FLD, ARR, CD, true_and, and_true, and_self, forall_const, true_implies, false_implies, implies_true, not_true_eq_false, not_false_eq_true, if_true, if_false, rgI, rgL, scr, swl, lkl, cats, cat, is2, List.drop_succ_cons, List.drop_zero, List.drop_nil, List.cons_append, List.nil_append, Option.toList_some, Option.toList_none, List.length_cons, List.length_nil, ne_eq, Classical.not_not, reduceCtorEq, Nat.reduceAdd, Nat.reduceSub, Nat.reduceMul, Nat.reduceLT, Nat.reduceLeDiff, Nat.reduceEqDiff, Nat.reduceBEq, Int.reduceToNat, Int.reduceLE, Int.reduceLT, Int.reduceEq, Int.reduceNeg, Int.reduceAdd, Int.reduceSub, Int.reduceMul, Int.toNat_natCast, Nat.zero_add, Int.add_zero, Nat.add_zero, ite_true, ite_false, Option.some.injEq, Nat.le_refl, or_true, true_or, or_false, false_or, if_pos, reduceIte, Nat.reduceGT]
          refine ⟨rcv_ok rfl own117 rfl, kI (m_weekOf i M hW (by omega)) (Nat.le_of_ble_eq_true rfl) rfl rfl (Nat.le_of_ble_eq_true rfl) (Nat.le_of_ble_eq_true rfl) rfl ?_⟩
          refine wpx_ok hS bk145 (sp := sp145) 60 33 _ _ _ _ ?_
          simp only [LCM, B2, Bool.not_eq_false, Bool.not_eq_true, decide_eq_true_eq, decide_eq_false_iff_not, Int.not_lt, Int.not_le, CST, TN, WX, WA, WB, GS, LOC, BT145, SP145, CLS, FLD, ARR, CD, true_and, and_true, and_self, forall_const, true_implies, false_implies, implies_true, not_true_eq_false, not_false_eq_true, if_true, if_false, rgI, rgL, scr, swl, lkl, cats, cat, is2, List.drop_succ_cons, List.drop_zero, List.drop_nil, List.cons_append, List.nil_append, Option.toList_some, Option.toList_none, List.length_cons, List.length_nil, ne_eq, Classical.not_not, reduceCtorEq, Nat.reduceAdd, Nat.reduceSub, Nat.reduceMul, Nat.reduceLT, Nat.reduceLeDiff, Nat.reduceEqDiff, Nat.reduceBEq, Int.reduceToNat, Int.reduceLE, Int.reduceLT, Int.reduceEq, Int.reduceNeg, Int.reduceAdd, Int.reduceSub, Int.reduceMul, Int.toNat_natCast, Nat.zero_add, Int.add_zero, Nat.add_zero, ite_true, ite_false, Option.some.injEq, Nat.le_refl, or_true, true_or, or_false, false_or, if_pos, reduceIte, Nat.reduceGT]
          refine ⟨by omega, fun h => by omega, fun h => ⟨by omega, by omega, fun h1 => ?_, fun h1 => ?_⟩⟩
          · have hp : twoP M w i r = false := by unfold twoP; rw [decide_eq_false (by omega)]; rfl
            rw [hp] at hq
            refine ⟨by omega, ?_⟩
            rw [show mset (mset M 61 (4 * i + 1) r) 61 (4 * i + 1) (M 61 (4 * i + 1)) = M from ms_back _ _ _ _]
            exact ihm (r + 1) (by omega) hq _
          · have hW2 : WFt (setR M i r) := setR_WF hW (by omega)
            refine ⟨rcv_ok rfl own144 rfl, kQ (m_changesOne w (i + 1) 3 (setR M i r) hW2 hw (show i + 1 ≤ hN M by omega) (by omega)) (Nat.le_of_ble_eq_true rfl) rfl rfl (Nat.le_of_ble_eq_true rfl) (Nat.le_of_ble_eq_true rfl) rfl ?_⟩
            rintro x M' ⟨rfl, rfl⟩
            refine wpx_ok hS bk145 (sp := sp145) 60 63 _ _ _ _ ?_
            simp only [LCM, B2, Bool.not_eq_false, Bool.not_eq_true, decide_eq_true_eq, decide_eq_false_iff_not, Int.not_lt, Int.not_le, CST, TN, WX, WA, WB, GS, LOC, BT145, SP145, CLS, FLD, ARR, CD, true_and, and_true, and_self, forall_const, true_implies, false_implies, implies_true, not_true_eq_false, not_false_eq_true, if_true, if_false, rgI, rgL, scr, swl, lkl, cats, cat, is2, List.drop_succ_cons, List.drop_zero, List.drop_nil, List.cons_append, List.nil_append, Option.toList_some, Option.toList_none, List.length_cons, List.length_nil, ne_eq, Classical.not_not, reduceCtorEq, Nat.reduceAdd, Nat.reduceSub, Nat.reduceMul, Nat.reduceLT, Nat.reduceLeDiff, Nat.reduceEqDiff, Nat.reduceBEq, Int.reduceToNat, Int.reduceLE, Int.reduceLT, Int.reduceEq, Int.reduceNeg, Int.reduceAdd, Int.reduceSub, Int.reduceMul, Int.toNat_natCast, Nat.zero_add, Int.add_zero, Nat.add_zero, ite_true, ite_false, Option.some.injEq, Nat.le_refl, or_true, true_or, or_false, false_or, if_pos, reduceIte, Nat.reduceGT]
            rw [show hN (setR M i r) = hN M from rfl]
            rw [show mset (g_one (setR M i r) 3 (oneC (setR M i r) w (i + 1) (hN M - (i + 1)))) 61 (4 * i + 1) (M 61 (4 * i + 1)) = g_one M 3 (twoO M w i r) from g_one_back _ _ _ _ _]
            refine ⟨fun h2 => ⟨by omega, ?_⟩, fun h2 => ⟨by omega, ?_⟩⟩
            · have h3 : (twoO M w i r).isSome = false := h2
              have hp : twoP M w i r = false := by unfold twoP; rw [h3, Bool.and_false]
              rw [hp] at hq
              have h4 : twoO M w i r = none := by
                cases hx : twoO M w i r with
                | none => rfl
                | some y => rw [hx] at h3; cases h3
              rw [h4]
              exact ihm (r + 1) (by omega) hq _
            · have h3 : (twoO M w i r).isSome = true := h2
              have hp : twoP M w i r = true := by unfold twoP; rw [decide_eq_true h1, h3]; rfl
              rw [hp, if_pos rfl] at hq
              rw [← hq] at hf
              refine rt145 (by decide) ⟨rfl, ?_, ?_⟩
              · rw [← hf]; rfl
              · rw [← hf]; rfl
      refine wpx_ok hS bk145 (sp := sp145) 60 2 _ _ _ _ ?_
      simp only [LCM, B2, Bool.not_eq_false, Bool.not_eq_true, decide_eq_true_eq, decide_eq_false_iff_not, Int.not_lt, Int.not_le, CST, TN, WX, WA, WB, GS, LOC, BT145, SP145, CLS, FLD, ARR, CD, true_and, and_true, and_self, forall_const, true_implies, false_implies, implies_true, not_true_eq_false, not_false_eq_true, if_true, if_false, rgI, rgL, scr, swl, lkl, cats, cat, is2, List.drop_succ_cons, List.drop_zero, List.drop_nil, List.cons_append, List.nil_append, Option.toList_some, Option.toList_none, List.length_cons, List.length_nil, ne_eq, Classical.not_not, reduceCtorEq, Nat.reduceAdd, Nat.reduceSub, Nat.reduceMul, Nat.reduceLT, Nat.reduceLeDiff, Nat.reduceEqDiff, Nat.reduceBEq, Int.reduceToNat, Int.reduceLE, Int.reduceLT, Int.reduceEq, Int.reduceNeg, Int.reduceAdd, Int.reduceSub, Int.reduceMul, Int.toNat_natCast, Nat.zero_add, Int.add_zero, Nat.add_zero, ite_true, ite_false, Option.some.injEq, Nat.le_refl, or_true, true_or, or_false, false_or, if_pos, reduceIte, Nat.reduceGT]
      refine ⟨by omega, fun h => by omega, fun h => ⟨by omega, ?_⟩⟩
      exact inner (len M i).toNat 0 (by omega) rfl _
  refine wpx_ok hS bk145 (sp := sp145) 60 0 _ _ _ _ ?_
  simp only [LCM, B2, Bool.not_eq_false, Bool.not_eq_true, decide_eq_true_eq, decide_eq_false_iff_not, Int.not_lt, Int.not_le, CST, TN, WX, WA, WB, GS, LOC, BT145, SP145, CLS, FLD, ARR, CD, true_and, and_true, and_self, forall_const, true_implies, false_implies, implies_true, not_true_eq_false, not_false_eq_true, if_true, if_false, rgI, rgL, scr, swl, lkl, cats, cat, is2, List.drop_succ_cons, List.drop_zero, List.drop_nil, List.cons_append, List.nil_append, Option.toList_some, Option.toList_none, List.length_cons, List.length_nil, ne_eq, Classical.not_not, reduceCtorEq, Nat.reduceAdd, Nat.reduceSub, Nat.reduceMul, Nat.reduceLT, Nat.reduceLeDiff, Nat.reduceEqDiff, Nat.reduceBEq, Int.reduceToNat, Int.reduceLE, Int.reduceLT, Int.reduceEq, Int.reduceNeg, Int.reduceAdd, Int.reduceSub, Int.reduceMul, Int.toNat_natCast, Nat.zero_add, Int.add_zero, Nat.add_zero, ite_true, ite_false, Option.some.injEq, Nat.le_refl, or_true, true_or, or_false, false_or, if_pos, reduceIte, Nat.reduceGT]
  exact head (hN M) 0 (by omega) hR _ _ _
/-- what years tells -/
def chg (T : MM) (w : Nat) (k : Nat) : Int :=
  if evS T w = false then (if k = 0 then 0 else -4)
  else match oneC T w 0 (hN T) with
    | some (i, r) => if k = 0 then 1 else if k = 1 then i else if k = 2 then r else -4
    | none => match twoC T w 0 (hN T) with
      | some (i, r) => (match twoO T w i r with
        | some (j, q) => if k = 0 then 2 else if k = 1 then i else if k = 2 then r else if k = 3 then j else q
        | none => if k = 0 then 2 else if k = 1 then i else if k = 2 then r else -4)
      | none => -4
def f_years (T : MM) (w what : Int) : Int := if (0 ≤ w ∧ w < T 59 0) ∧ 0 ≤ what ∧ what ≤ 4 then chg T w.toNat what.toNat else -1
theorem mfil_step (M : MM) (r i : Nat) (v : Int) : mset (mfil M r i v) r i v = mfil M r (i + 1) v := by
  funext k j
  unfold mfil mset
  by_cases hk : k = r
  · subst hk
    by_cases hj : j = i
    · subst hj; simp
    · by_cases hj2 : j < i
      · have : j < i + 1 := by omega
        simp [hj, hj2, this]
      · have : ¬ j < i + 1 := by omega
        simp [hj, hj2, this]
  · simp [hk]
theorem WF_pt {T T' : MM} (h : pt T' = pt T) (hW : WFt T) : WFt T' := by
  have h1 : WFt (pt T) := hW
  rw [← h] at h1
  exact h1
theorem m_years (w what : Int) (M : MM) (hW : WFt M) (hw : rgI w) (hk : rgI what) : oQ 8 146 [vR 55, vI w, vI what] M (fun r M' => r = some (Sum.inl (f_years M w what)) ∧ ∀ k j, k ≠ 77 → M' k j = M k j) := by
  have hW2 := hW.W
  refine go146 (fun S hS => ?_)
  refine wpx_ok hS bk146 (sp := sp146) 60 0 _ _ _ _ ?_
  simp only [LCM, B2, Bool.not_eq_false, Bool.not_eq_true, decide_eq_true_eq, decide_eq_false_iff_not, Int.not_lt, Int.not_le, CST, TN, WX, WA, WB, GS, LOC, BT146, SP146, CLS, FLD, ARR, CD, true_and, and_true, and_self, forall_const, true_implies, false_implies, implies_true, not_true_eq_false, not_false_eq_true, if_true, if_false, rgI, rgL, scr, swl, lkl, cats, cat, is2, List.drop_succ_cons, List.drop_zero, List.drop_nil, List.cons_append, List.nil_append, Option.toList_some, Option.toList_none, List.length_cons, List.length_nil, ne_eq, Classical.not_not, reduceCtorEq, Nat.reduceAdd, Nat.reduceSub, Nat.reduceMul, Nat.reduceLT, Nat.reduceLeDiff, Nat.reduceEqDiff, Nat.reduceBEq, Int.reduceToNat, Int.reduceLE, Int.reduceLT, Int.reduceEq, Int.reduceNeg, Int.reduceAdd, Int.reduceSub, Int.reduceMul, Int.toNat_natCast, Nat.zero_add, Int.add_zero, Nat.add_zero, ite_true, ite_false, Option.some.injEq, Nat.le_refl, or_true, true_or, or_false, false_or, if_pos, reduceIte, Nat.reduceGT]
  refine ⟨rcv_ok rfl own114 rfl, kI (m_isWork w M hw hW) (Nat.le_of_ble_eq_true rfl) rfl rfl (Nat.le_of_ble_eq_true rfl) (Nat.le_of_ble_eq_true rfl) rfl ?_⟩
  refine wpx_ok hS bk146 (sp := sp146) 60 5 _ _ _ _ ?_
  simp only [LCM, B2, Bool.not_eq_false, Bool.not_eq_true, decide_eq_true_eq, decide_eq_false_iff_not, Int.not_lt, Int.not_le, CST, TN, WX, WA, WB, GS, LOC, BT146, SP146, CLS, FLD, ARR, CD, true_and, and_true, and_self, forall_const, true_implies, false_implies, implies_true, not_true_eq_false, not_false_eq_true, if_true, if_false, rgI, rgL, scr, swl, lkl, cats, cat, is2, List.drop_succ_cons, List.drop_zero, List.drop_nil, List.cons_append, List.nil_append, Option.toList_some, Option.toList_none, List.length_cons, List.length_nil, ne_eq, Classical.not_not, reduceCtorEq, Nat.reduceAdd, Nat.reduceSub, Nat.reduceMul, Nat.reduceLT, Nat.reduceLeDiff, Nat.reduceEqDiff, Nat.reduceBEq, Int.reduceToNat, Int.reduceLE, Int.reduceLT, Int.reduceEq, Int.reduceNeg, Int.reduceAdd, Int.reduceSub, Int.reduceMul, Int.toNat_natCast, Nat.zero_add, Int.add_zero, Nat.add_zero, ite_true, ite_false, Option.some.injEq, Nat.le_refl, or_true, true_or, or_false, false_or, if_pos, reduceIte, Nat.reduceGT]
  refine ⟨fun h => ?_, fun h => ⟨hk, ?_⟩⟩
  · exact rt146 ⟨rfl, by unfold f_years; rw [if_neg (fun z => h z.1)], fun _ _ _ => rfl⟩
  refine kI (c_in what 0 4 M (by unfold rgL rgI at *; omega) (by unfold rgL; omega) (by unfold rgL; omega)) (Nat.le_of_ble_eq_true rfl) rfl rfl (Nat.le_of_ble_eq_true rfl) (Nat.le_of_ble_eq_true rfl) rfl ?_
  refine wpx_ok hS bk146 (sp := sp146) 60 17 _ _ _ _ ?_
  simp only [LCM, B2, Bool.not_eq_false, Bool.not_eq_true, decide_eq_true_eq, decide_eq_false_iff_not, Int.not_lt, Int.not_le, CST, TN, WX, WA, WB, GS, LOC, BT146, SP146, CLS, FLD, ARR, CD, true_and, and_true, and_self, forall_const, true_implies, false_implies, implies_true, not_true_eq_false, not_false_eq_true, if_true, if_false, rgI, rgL, scr, swl, lkl, cats, cat, is2, List.drop_succ_cons, List.drop_zero, List.drop_nil, List.cons_append, List.nil_append, Option.toList_some, Option.toList_none, List.length_cons, List.length_nil, ne_eq, Classical.not_not, reduceCtorEq, Nat.reduceAdd, Nat.reduceSub, Nat.reduceMul, Nat.reduceLT, Nat.reduceLeDiff, Nat.reduceEqDiff, Nat.reduceBEq, Int.reduceToNat, Int.reduceLE, Int.reduceLT, Int.reduceEq, Int.reduceNeg, Int.reduceAdd, Int.reduceSub, Int.reduceMul, Int.toNat_natCast, Nat.zero_add, Int.add_zero, Nat.add_zero, ite_true, ite_false, Option.some.injEq, Nat.le_refl, or_true, true_or, or_false, false_or, if_pos, reduceIte, Nat.reduceGT]
  refine ⟨fun h1 => ?_, fun h1 => rt146 ⟨rfl, by unfold f_years; rw [if_neg (fun z => h1 z.2)], fun _ _ _ => rfl⟩⟩
  obtain ⟨n, rfl⟩ : ∃ n : Nat, w = (n : Int) := ⟨w.toNat, by omega⟩
  obtain ⟨c, rfl⟩ : ∃ c : Nat, what = (c : Int) := ⟨what.toNat, by omega⟩
  have hval : f_years M n c = chg M n c := by unfold f_years; rw [if_pos ⟨h, h1⟩]; rfl
  have fin : ∀ N : MM, N = mfil M 77 5 (-4) → S 43 [some (vR 55), some (vI n), some (vI c), some (vI 5)] [] (sh0, 0, 0) N := by
    intro N hN0
    have hF : ∀ k j, k ≠ 77 → N k j = M k j := by intro k j hk; rw [hN0]; unfold mfil; rw [if_neg (fun z => hk z.1)]
    have h77 : ∀ j, j < 5 → N 77 j = -4 := by intro j hj; rw [hN0]; unfold mfil; rw [if_pos ⟨rfl, hj⟩]
    clear hN0
    have hpt : pt N = pt M := pt_eq (fun k j h1 h2 => hF k j (by omega))
    have hWN : WFt N := WF_pt hpt hW
    have hev : evS N n = evS M n := by rw [← evS_pt N, hpt, evS_pt]
    have eH : hN N = hN M := by unfold hN; rw [hF 58 0 (by decide)]
    have eW : wN N = wN M := by unfold wN; rw [hF 59 0 (by decide)]
    have eo : ∀ a b, oneC N n a b = oneC M n a b := fun a b => by rw [← oneC_pt N, hpt, oneC_pt]
    have et : ∀ a b, twoC N n a b = twoC M n a b := fun a b => by rw [← twoC_pt N, hpt, twoC_pt]
    have eO : ∀ a b, twoO N n a b = twoO M n a b := fun a b => by rw [← twoO_pt N, hpt, twoO_pt]
    have hc : c = 0 ∨ c = 1 ∨ c = 2 ∨ c = 3 ∨ c = 4 := by omega
    refine wpx_ok hS bk146 (sp := sp146) 60 43 _ _ _ _ ?_
    simp only [LCM, B2, Bool.not_eq_false, Bool.not_eq_true, decide_eq_true_eq, decide_eq_false_iff_not, Int.not_lt, Int.not_le, CST, TN, WX, WA, WB, GS, LOC, BT146, SP146, CLS, FLD, ARR, CD, true_and, and_true, and_self, forall_const, true_implies, false_implies, implies_true, not_true_eq_false, not_false_eq_true, if_true, if_false, rgI, rgL, scr, swl, lkl, cats, cat, is2, List.drop_succ_cons, List.drop_zero, List.drop_nil, List.cons_append, List.nil_append, Option.toList_some, Option.toList_none, List.length_cons, List.length_nil, ne_eq, Classical.not_not, reduceCtorEq, Nat.reduceAdd, Nat.reduceSub, Nat.reduceMul, Nat.reduceLT, Nat.reduceLeDiff, Nat.reduceEqDiff, Nat.reduceBEq, Int.reduceToNat, Int.reduceLE, Int.reduceLT, Int.reduceEq, Int.reduceNeg, Int.reduceAdd, Int.reduceSub, Int.reduceMul, Int.toNat_natCast, Nat.zero_add, Int.add_zero, Nat.add_zero, ite_true, ite_false, Option.some.injEq, Nat.le_refl, or_true, true_or, or_false, false_or, if_pos, reduceIte, Nat.reduceGT]
    refine ⟨rcv_ok rfl own143 rfl, kI (m_goesOn n N hWN (by omega)) (Nat.le_of_ble_eq_true rfl) rfl rfl (Nat.le_of_ble_eq_true rfl) (Nat.le_of_ble_eq_true rfl) rfl ?_⟩
    refine wpx_ok hS bk146 (sp := sp146) 60 53 _ _ _ _ ?_
    simp only [LCM, B2, Bool.not_eq_false, Bool.not_eq_true, decide_eq_true_eq, decide_eq_false_iff_not, Int.not_lt, Int.not_le, CST, TN, WX, WA, WB, GS, LOC, BT146, SP146, CLS, FLD, ARR, CD, true_and, and_true, and_self, forall_const, true_implies, false_implies, implies_true, not_true_eq_false, not_false_eq_true, if_true, if_false, rgI, rgL, scr, swl, lkl, cats, cat, is2, List.drop_succ_cons, List.drop_zero, List.drop_nil, List.cons_append, List.nil_append, Option.toList_some, Option.toList_none, List.length_cons, List.length_nil, ne_eq, Classical.not_not, reduceCtorEq, Nat.reduceAdd, Nat.reduceSub, Nat.reduceMul, Nat.reduceLT, Nat.reduceLeDiff, Nat.reduceEqDiff, Nat.reduceBEq, Int.reduceToNat, Int.reduceLE, Int.reduceLT, Int.reduceEq, Int.reduceNeg, Int.reduceAdd, Int.reduceSub, Int.reduceMul, Int.toNat_natCast, Nat.zero_add, Int.add_zero, Nat.add_zero, ite_true, ite_false, Option.some.injEq, Nat.le_refl, or_true, true_or, or_false, false_or, if_pos, reduceIte, Nat.reduceGT, ms_ne, ms_eq, ms_nj]
    rw [hev]
    refine ⟨fun h2 => ?_, fun h2 => ⟨by omega, ?_⟩⟩
    · have h3 : evS M n = true := by simpa using h2
      refine ⟨rcv_ok rfl own144 rfl, kQ (m_changesOne n 0 1 N hWN (by omega) (by omega) (by omega)) (Nat.le_of_ble_eq_true rfl) rfl rfl (Nat.le_of_ble_eq_true rfl) (Nat.le_of_ble_eq_true rfl) rfl ?_⟩
      rintro x M1 ⟨rfl, rfl⟩
      rw [Nat.sub_zero, eo, eH]
      refine wpx_ok hS bk146 (sp := sp146) 60 67 _ _ _ _ ?_
      simp only [LCM, B2, Bool.not_eq_false, Bool.not_eq_true, decide_eq_true_eq, decide_eq_false_iff_not, Int.not_lt, Int.not_le, CST, TN, WX, WA, WB, GS, LOC, BT146, SP146, CLS, FLD, ARR, CD, true_and, and_true, and_self, forall_const, true_implies, false_implies, implies_true, not_true_eq_false, not_false_eq_true, if_true, if_false, rgI, rgL, scr, swl, lkl, cats, cat, is2, List.drop_succ_cons, List.drop_zero, List.drop_nil, List.cons_append, List.nil_append, Option.toList_some, Option.toList_none, List.length_cons, List.length_nil, ne_eq, Classical.not_not, reduceCtorEq, Nat.reduceAdd, Nat.reduceSub, Nat.reduceMul, Nat.reduceLT, Nat.reduceLeDiff, Nat.reduceEqDiff, Nat.reduceBEq, Int.reduceToNat, Int.reduceLE, Int.reduceLT, Int.reduceEq, Int.reduceNeg, Int.reduceAdd, Int.reduceSub, Int.reduceMul, Int.toNat_natCast, Nat.zero_add, Int.add_zero, Nat.add_zero, ite_true, ite_false, Option.some.injEq, Nat.le_refl, or_true, true_or, or_false, false_or, if_pos, reduceIte, Nat.reduceGT, ms_ne, ms_eq, ms_nj]
      refine ⟨fun h4 => ?_, fun h4 => ⟨by omega, ?_⟩⟩
      · have h5 : oneC M n 0 (hN M) = none := by
          cases hx : oneC M n 0 (hN M) with
          | none => rfl
          | some y => rw [hx] at h4; cases h4
        rw [h5]
        rw [show g_one N 1 none = N from rfl]
        refine ⟨rcv_ok rfl own145 rfl, kQ (m_changesTwo n N hWN (by omega)) (Nat.le_of_ble_eq_true rfl) rfl rfl (Nat.le_of_ble_eq_true rfl) (Nat.le_of_ble_eq_true rfl) rfl ?_⟩
        rintro x M1 ⟨rfl, rfl⟩
        rw [et, eH]
        refine wpx_ok hS bk146 (sp := sp146) 60 79 _ _ _ _ ?_
        simp only [LCM, B2, Bool.not_eq_false, Bool.not_eq_true, decide_eq_true_eq, decide_eq_false_iff_not, Int.not_lt, Int.not_le, CST, TN, WX, WA, WB, GS, LOC, BT146, SP146, CLS, FLD, ARR, CD, true_and, and_true, and_self, forall_const, true_implies, false_implies, implies_true, not_true_eq_false, not_false_eq_true, if_true, if_false, rgI, rgL, scr, swl, lkl, cats, cat, is2, List.drop_succ_cons, List.drop_zero, List.drop_nil, List.cons_append, List.nil_append, Option.toList_some, Option.toList_none, List.length_cons, List.length_nil, ne_eq, Classical.not_not, reduceCtorEq, Nat.reduceAdd, Nat.reduceSub, Nat.reduceMul, Nat.reduceLT, Nat.reduceLeDiff, Nat.reduceEqDiff, Nat.reduceBEq, Int.reduceToNat, Int.reduceLE, Int.reduceLT, Int.reduceEq, Int.reduceNeg, Int.reduceAdd, Int.reduceSub, Int.reduceMul, Int.toNat_natCast, Nat.zero_add, Int.add_zero, Nat.add_zero, ite_true, ite_false, Option.some.injEq, Nat.le_refl, or_true, true_or, or_false, false_or, if_pos, reduceIte, Nat.reduceGT, ms_ne, ms_eq, ms_nj]
        cases hx : twoC M n 0 (hN M) with
        | none =>
          refine ⟨fun h6 => ⟨by omega, rt146 ⟨rfl, ?_, ?_⟩⟩, fun h6 => by cases h6⟩
          · rw [hval]
            unfold chg
            rw [h3, if_neg (by decide), h5, hx]
            rcases hc with rfl | rfl | rfl | rfl | rfl
            · rfl
            · exact congrArg (fun z => some (Sum.inl z)) (h77 1 (by decide))
            · exact congrArg (fun z => some (Sum.inl z)) (h77 2 (by decide))
            · exact congrArg (fun z => some (Sum.inl z)) (h77 3 (by decide))
            · exact congrArg (fun z => some (Sum.inl z)) (h77 4 (by decide))
          · intro k j hk
            rw [ms_ne hk]
            exact hF k j hk
        | some y =>
          obtain ⟨i, r⟩ := y
          refine ⟨fun h6 => by simp at h6, fun h6 => ⟨by omega, rt146 ⟨rfl, ?_, ?_⟩⟩⟩
          · rw [hval]
            unfold chg
            rw [h3, if_neg (by decide), h5, hx]
            unfold g_two
            dsimp only
            rw [eO]
            cases hz : twoO M n i r with
            | none =>
              unfold g_one
              dsimp only
              rcases hc with rfl | rfl | rfl | rfl | rfl
              · rfl
              · rfl
              · rfl
              · exact congrArg (fun z => some (Sum.inl z)) (h77 3 (by decide))
              · exact congrArg (fun z => some (Sum.inl z)) (h77 4 (by decide))
            | some v =>
              obtain ⟨j, q⟩ := v
              unfold g_one
              dsimp only
              rcases hc with rfl | rfl | rfl | rfl | rfl <;> rfl
          · intro k j hk
            unfold g_two
            dsimp only
            rw [ms_ne hk, ms_ne hk, ms_ne hk, eO]
            cases hz : twoO M n i r with
            | none => exact hF k j hk
            | some v =>
              obtain ⟨a, b⟩ := v
              unfold g_one
              dsimp only
              rw [ms_ne hk, ms_ne hk]
              exact hF k j hk
      · cases hx : oneC M n 0 (hN M) with
        | none => rw [hx] at h4; cases h4
        | some y =>
          obtain ⟨i, r⟩ := y
          refine rt146 ⟨rfl, ?_, ?_⟩
          · rw [hval]
            unfold chg
            rw [h3, if_neg (by decide), hx]
            unfold g_one
            dsimp only
            rcases hc with rfl | rfl | rfl | rfl | rfl
            · rfl
            · rfl
            · rfl
            · exact congrArg (fun z => some (Sum.inl z)) (h77 3 (by decide))
            · exact congrArg (fun z => some (Sum.inl z)) (h77 4 (by decide))
          · intro k j hk
            unfold g_one
            dsimp only
            rw [ms_ne hk, ms_ne hk, ms_ne hk]
            exact hF k j hk
    · have h3 : evS M n = false := by simpa using h2
      refine rt146 ⟨rfl, ?_, ?_⟩
      · rw [hval]
        unfold chg
        rw [h3, if_pos rfl]
        rcases hc with rfl | rfl | rfl | rfl | rfl
        · rfl
        · exact congrArg (fun z => some (Sum.inl z)) (h77 1 (by decide))
        · exact congrArg (fun z => some (Sum.inl z)) (h77 2 (by decide))
        · exact congrArg (fun z => some (Sum.inl z)) (h77 3 (by decide))
        · exact congrArg (fun z => some (Sum.inl z)) (h77 4 (by decide))
      · intro k j hk
        rw [ms_ne hk]
        exact hF k j hk
  have fill : ∀ (m i : Nat), i + m = 5 → S 24 [some (vR 55), some (vI n), some (vI c), some (vI i)] [] (sh0, 0, 0) (mfil M 77 i (-4)) := by
    intro m
    induction m with
    | zero =>
      intro i hi
      refine wpx_ok hS bk146 (sp := (fun t => sp146 t || t == 43)) 60 24 _ _ _ _ ?_
      simp only [LCM, B2, Bool.not_eq_false, Bool.not_eq_true, decide_eq_true_eq, decide_eq_false_iff_not, Int.not_lt, Int.not_le, CST, TN, WX, WA, WB, GS, LOC, BT146, SP146, CLS, FLD, ARR, CD, true_and, and_true, and_self, forall_const, true_implies, false_implies, implies_true, not_true_eq_false, not_false_eq_true, if_true, if_false, rgI, rgL, scr, swl, lkl, cats, cat, is2, List.drop_succ_cons, List.drop_zero, List.drop_nil, List.cons_append, List.nil_append, Option.toList_some, Option.toList_none, List.length_cons, List.length_nil, ne_eq, Classical.not_not, reduceCtorEq, Nat.reduceAdd, Nat.reduceSub, Nat.reduceMul, Nat.reduceLT, Nat.reduceLeDiff, Nat.reduceEqDiff, Nat.reduceBEq, Int.reduceToNat, Int.reduceLE, Int.reduceLT, Int.reduceEq, Int.reduceNeg, Int.reduceAdd, Int.reduceSub, Int.reduceMul, Int.toNat_natCast, Nat.zero_add, Int.add_zero, Nat.add_zero, ite_true, ite_false, Option.some.injEq, Nat.le_refl, or_true, true_or, or_false, false_or, if_pos, reduceIte, Nat.reduceGT, Bool.or_false, Bool.false_or, Bool.or_true, Bool.true_or, beq_self_eq_true, Nat.reduceBEq]
      refine ⟨by omega, fun h => ?_, fun h => by omega⟩
      rw [show i = 5 by omega]
      exact fin _ rfl
    | succ m ih =>
      intro i hi
      refine wpx_ok hS bk146 (sp := (fun t => sp146 t || t == 43)) 60 24 _ _ _ _ ?_
      simp only [LCM, B2, Bool.not_eq_false, Bool.not_eq_true, decide_eq_true_eq, decide_eq_false_iff_not, Int.not_lt, Int.not_le, CST, TN, WX, WA, WB, GS, LOC, BT146, SP146, CLS, FLD, ARR, CD, true_and, and_true, and_self, forall_const, true_implies, false_implies, implies_true, not_true_eq_false, not_false_eq_true, if_true, if_false, rgI, rgL, scr, swl, lkl, cats, cat, is2, List.drop_succ_cons, List.drop_zero, List.drop_nil, List.cons_append, List.nil_append, Option.toList_some, Option.toList_none, List.length_cons, List.length_nil, ne_eq, Classical.not_not, reduceCtorEq, Nat.reduceAdd, Nat.reduceSub, Nat.reduceMul, Nat.reduceLT, Nat.reduceLeDiff, Nat.reduceEqDiff, Nat.reduceBEq, Int.reduceToNat, Int.reduceLE, Int.reduceLT, Int.reduceEq, Int.reduceNeg, Int.reduceAdd, Int.reduceSub, Int.reduceMul, Int.toNat_natCast, Nat.zero_add, Int.add_zero, Nat.add_zero, ite_true, ite_false, Option.some.injEq, Nat.le_refl, or_true, true_or, or_false, false_or, if_pos, reduceIte, Nat.reduceGT, Bool.or_false, Bool.false_or, Bool.or_true, Bool.true_or, beq_self_eq_true, Nat.reduceBEq]
      refine ⟨by omega, fun h => by omega, fun h => ⟨by omega, ?_⟩⟩
      rw [mfil_step]
      exact ih (i + 1) (by omega)
  have := fill 5 0 (by omega)
  rw [show mfil M 77 0 (-4) = M by funext k j; unfold mfil; simp] at this
  exact this

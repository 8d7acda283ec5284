/-! other rests -/
def SW (T T' : MM) : Prop := (∀ k j, k ≠ 61 → T' k j = T k j) ∧ ∀ i, T' 61 (4 * i + 2) = T 61 (4 * i + 2) ∧ T' 61 (4 * i + 3) = T 61 (4 * i + 3)
theorem SW.rf (T : MM) : SW T T := ⟨fun _ _ _ => rfl, fun _ => ⟨rfl, rfl⟩⟩
theorem SW.tr {A B C : MM} (h : SW A B) (g : SW B C) : SW A C := ⟨fun k j hk => (g.1 k j hk).trans (h.1 k j hk), fun i => ⟨(g.2 i).1.trans (h.2 i).1, (g.2 i).2.trans (h.2 i).2⟩⟩
theorem SW.eH {T T' : MM} (h : SW T T') : hN T' = hN T := by unfold hN; rw [h.1 58 0 (by decide)]
theorem SW.eW {T T' : MM} (h : SW T T') : wN T' = wN T := by unfold wN; rw [h.1 59 0 (by decide)]
theorem SW.eP {T T' : MM} (h : SW T T') : PN T' = PN T := by unfold PN; rw [h.1 57 0 (by decide), h.1 57 1 (by decide)]
theorem SW.eS {T T' : MM} (h : SW T T') (s i : Nat) : skB T' s i = skB T s i := by unfold skB; rw [(h.2 i).1]
theorem SW.eK {T T' : MM} (h : SW T T') (s i : Nat) : skP T' s i = skP T s i := by unfold skP; rw [h.eH, h.eS]
theorem SW.eA {T T' : MM} (h : SW T T') (i : Nat) : pH T' i = pH T i := by unfold pH; rw [h.eH]
theorem SW.eN {T T' : MM} (h : SW T T') (i : Nat) : newB T' i = newB T i := by unfold newB; rw [h.1 64 i (by decide)]
theorem SW.eN' {T T' : MM} (h : SW T T') : newB T' = newB T := funext h.eN
theorem WFt.chg {T T' : MM} (h : WFt T) (g : SW T T') (h3 : ∀ i, i < hN T → (T' 61 (4 * i) = 0 ∨ T' 61 (4 * i) = 1) ∧ 0 ≤ T' 61 (4 * i + 1) ∧ T' 61 (4 * i + 1) < len T' i) : WFt T' := by
  have hH := h.H
  obtain ⟨a, b, c, d, e, f, w, n, m⟩ := h
  have e57 := fun j => g.1 57 j (by decide)
  have e58 := fun j => g.1 58 j (by decide)
  have e59 := fun j => g.1 59 j (by decide)
  have e60 := fun j => g.1 60 j (by decide)
  have e63 := fun j => g.1 63 j (by decide)
  have e64 := fun j => g.1 64 j (by decide)
  refine ⟨by rw [e57]; exact a, by rw [e57]; exact b, by rw [e58]; exact c, by rw [e59]; exact d, by rw [e60, e58]; exact e, fun i hi => ?_, fun x hx => ?_, fun i hi => ?_, by rw [g.eN']; exact m⟩
  · rw [e58] at hi
    have h4 := h3 i (by omega)
    have h5 := f i hi
    rw [(g.2 i).1, (g.2 i).2]
    exact ⟨h4.1, h4.2, h5.2.2⟩
  · rw [e59] at hx
    rw [e63, e63, e63]
    exact w x hx
  · rw [e64, e58]
    exact n i hi
def setR (T : MM) (i : Nat) (r : Int) : MM := mset T 61 (4 * i + 1) r
theorem setR_SW (T : MM) (i : Nat) (r : Int) : SW T (setR T i r) := ⟨fun k j hk => ms_ne hk j, fun x => ⟨ms_nj (by omega), ms_nj (by omega)⟩⟩
theorem setR_len (T : MM) (i : Nat) (r : Int) (x : Nat) : len (setR T i r) x = len T x := by
  unfold len setR
  rw [ms_nj (show 4 * x ≠ 4 * i + 1 by omega), ms_ne (by decide)]
theorem setR_WF {T : MM} (h : WFt T) {i : Nat} {r : Int} (h1 : 0 ≤ r ∧ r < len T i) : WFt (setR T i r) := by
  refine h.chg (setR_SW T i r) (fun x hx => ?_)
  rw [setR_len]
  have h2 := h.hs hx
  unfold setR
  rw [ms_nj (show 4 * x ≠ 4 * i + 1 by omega)]
  refine ⟨h2.1, ?_⟩
  by_cases hxi : x = i
  · subst hxi; rw [ms_eq]; exact h1
  · rw [ms_nj (by omega)]; exact h2.2.1
theorem ms_back (T : MM) (k j : Nat) (r : Int) : mset (mset T k j r) k j (T k j) = T := by
  funext k' j'
  unfold mset
  by_cases h : k' = k ∧ j' = j
  · rw [if_pos h, h.1, h.2]
  · rw [if_neg h, if_neg h]
theorem setR_back (T : MM) (i : Nat) (r : Int) : mset (setR T i r) 61 (4 * i + 1) (T 61 (4 * i + 1)) = T := ms_back T _ _ r
theorem setR_was (T : MM) (i : Nat) : setR T i (T 61 (4 * i + 1)) = T := by
  funext k j
  unfold setR mset
  by_cases h : k = 61 ∧ j = 4 * i + 1
  · rw [if_pos h, h.1, h.2]
  · rw [if_neg h]
theorem setR_comm (T : MM) {i j : Nat} (h : i ≠ j) (r r' : Int) : setR (setR T i r) j r' = setR (setR T j r') i r := by
  funext k x
  unfold setR mset
  by_cases h1 : k = 61 ∧ x = 4 * i + 1
  · rw [if_pos h1, if_neg (fun z => h (by omega)), if_pos h1]
  · rw [if_neg h1, if_neg h1]
/-- a work is ever short -/
def evS (T : MM) (w : Nat) : Bool := (fstF (fun d => shrt T w d) 0 (PN T)).isSome
theorem m_goesOn (w : Nat) (M : MM) (hW : WFt M) (hw : w < wN M) : oI 5 143 [vR 55, vI w] M (b2i (!evS M w)) := by
  have hP := hW.P
  have hw2 := hW.W
  refine go143 (fun S hS => ?_)
  have fin0 : evS M w = true → ∀ d : Nat, d ≤ PN M → S 4 [some (vR 55), some (vI w), some (vI 0), some (vI d)] [] (sh0, 0, 0) M := by
    intro he d hd
    refine wpx_ok hS bk143 (sp := sp143) 60 4 _ _ _ _ ?_
    simp only [LCM, B2, Bool.not_eq_false, Bool.not_eq_true, decide_eq_true_eq, decide_eq_false_iff_not, Int.not_lt, Int.not_le, CST, TN, WX, WA, WB, GS, LOC, BT143, SP143, CLS, FLD, ARR, CD, true_and, and_true, and_self, forall_const, true_implies, false_implies, implies_true, not_true_eq_false, not_false_eq_true, if_true, if_false, rgI, rgL, scr, swl, lkl, cats, cat, is2, List.drop_succ_cons, List.drop_zero, List.drop_nil, List.cons_append, List.nil_append, Option.toList_some, Option.toList_none, List.length_cons, List.length_nil, ne_eq, Classical.not_not, reduceCtorEq, Nat.reduceAdd, Nat.reduceSub, Nat.reduceMul, Nat.reduceLT, Nat.reduceLeDiff, Nat.reduceEqDiff, Nat.reduceBEq, Int.reduceToNat, Int.reduceLE, Int.reduceLT, Int.reduceEq, Int.reduceNeg, Int.reduceAdd, Int.reduceSub, Int.reduceMul, Int.toNat_natCast, Nat.zero_add, Int.add_zero, Nat.add_zero, ite_true, ite_false, Option.some.injEq, Nat.le_refl, or_true, true_or, or_false, false_or, if_pos, reduceIte, Nat.reduceGT]
    refine ⟨rcv_ok rfl own119 rfl, kI (m_period M hW) (Nat.le_of_ble_eq_true rfl) rfl rfl (Nat.le_of_ble_eq_true rfl) (Nat.le_of_ble_eq_true rfl) rfl ?_⟩
    refine wpx_ok hS bk143 (sp := sp143) 60 9 _ _ _ _ ?_
    simp only [LCM, B2, Bool.not_eq_false, Bool.not_eq_true, decide_eq_true_eq, decide_eq_false_iff_not, Int.not_lt, Int.not_le, CST, TN, WX, WA, WB, GS, LOC, BT143, SP143, CLS, FLD, ARR, CD, true_and, and_true, and_self, forall_const, true_implies, false_implies, implies_true, not_true_eq_false, not_false_eq_true, if_true, if_false, rgI, rgL, scr, swl, lkl, cats, cat, is2, List.drop_succ_cons, List.drop_zero, List.drop_nil, List.cons_append, List.nil_append, Option.toList_some, Option.toList_none, List.length_cons, List.length_nil, ne_eq, Classical.not_not, reduceCtorEq, Nat.reduceAdd, Nat.reduceSub, Nat.reduceMul, Nat.reduceLT, Nat.reduceLeDiff, Nat.reduceEqDiff, Nat.reduceBEq, Int.reduceToNat, Int.reduceLE, Int.reduceLT, Int.reduceEq, Int.reduceNeg, Int.reduceAdd, Int.reduceSub, Int.reduceMul, Int.toNat_natCast, Nat.zero_add, Int.add_zero, Nat.add_zero, ite_true, ite_false, Option.some.injEq, Nat.le_refl, or_true, true_or, or_false, false_or, if_pos, reduceIte, Nat.reduceGT]
    rw [he]
    exact ⟨by omega, fun h => rt143 (by decide) ⟨rfl, rfl, rfl⟩, fun h => rt143 (by decide) ⟨rfl, rfl, rfl⟩⟩
  have head : ∀ (n d : Nat), d + n = PN M → fstF (fun d => shrt M w d) d n = fstF (fun d => shrt M w d) 0 (PN M) → S 4 [some (vR 55), some (vI w), some (vI 1), some (vI d)] [] (sh0, 0, 0) M := by
    intro n
    induction n with
    | zero =>
      intro d hd hf
      refine wpx_ok hS bk143 (sp := sp143) 60 4 _ _ _ _ ?_
      simp only [LCM, B2, Bool.not_eq_false, Bool.not_eq_true, decide_eq_true_eq, decide_eq_false_iff_not, Int.not_lt, Int.not_le, CST, TN, WX, WA, WB, GS, LOC, BT143, SP143, CLS, FLD, ARR, CD, true_and, and_true, and_self, forall_const, true_implies, false_implies, implies_true, not_true_eq_false, not_false_eq_true, if_true, if_false, rgI, rgL, scr, swl, lkl, cats, cat, is2, List.drop_succ_cons, List.drop_zero, List.drop_nil, List.cons_append, List.nil_append, Option.toList_some, Option.toList_none, List.length_cons, List.length_nil, ne_eq, Classical.not_not, reduceCtorEq, Nat.reduceAdd, Nat.reduceSub, Nat.reduceMul, Nat.reduceLT, Nat.reduceLeDiff, Nat.reduceEqDiff, Nat.reduceBEq, Int.reduceToNat, Int.reduceLE, Int.reduceLT, Int.reduceEq, Int.reduceNeg, Int.reduceAdd, Int.reduceSub, Int.reduceMul, Int.toNat_natCast, Nat.zero_add, Int.add_zero, Nat.add_zero, ite_true, ite_false, Option.some.injEq, Nat.le_refl, or_true, true_or, or_false, false_or, if_pos, reduceIte, Nat.reduceGT]
      refine ⟨rcv_ok rfl own119 rfl, kI (m_period M hW) (Nat.le_of_ble_eq_true rfl) rfl rfl (Nat.le_of_ble_eq_true rfl) (Nat.le_of_ble_eq_true rfl) rfl ?_⟩
      refine wpx_ok hS bk143 (sp := sp143) 60 9 _ _ _ _ ?_
      simp only [LCM, B2, Bool.not_eq_false, Bool.not_eq_true, decide_eq_true_eq, decide_eq_false_iff_not, Int.not_lt, Int.not_le, CST, TN, WX, WA, WB, GS, LOC, BT143, SP143, CLS, FLD, ARR, CD, true_and, and_true, and_self, forall_const, true_implies, false_implies, implies_true, not_true_eq_false, not_false_eq_true, if_true, if_false, rgI, rgL, scr, swl, lkl, cats, cat, is2, List.drop_succ_cons, List.drop_zero, List.drop_nil, List.cons_append, List.nil_append, Option.toList_some, Option.toList_none, List.length_cons, List.length_nil, ne_eq, Classical.not_not, reduceCtorEq, Nat.reduceAdd, Nat.reduceSub, Nat.reduceMul, Nat.reduceLT, Nat.reduceLeDiff, Nat.reduceEqDiff, Nat.reduceBEq, Int.reduceToNat, Int.reduceLE, Int.reduceLT, Int.reduceEq, Int.reduceNeg, Int.reduceAdd, Int.reduceSub, Int.reduceMul, Int.toNat_natCast, Nat.zero_add, Int.add_zero, Nat.add_zero, ite_true, ite_false, Option.some.injEq, Nat.le_refl, or_true, true_or, or_false, false_or, if_pos, reduceIte, Nat.reduceGT]
      refine ⟨by omega, fun h => rt143 (by decide) ⟨rfl, ?_, rfl⟩, fun h => by omega⟩
      unfold evS
      rw [← hf]
      rfl
    | succ n ih =>
      intro d hd hf
      rw [fstF] at hf
      refine wpx_ok hS bk143 (sp := sp143) 60 4 _ _ _ _ ?_
      simp only [LCM, B2, Bool.not_eq_false, Bool.not_eq_true, decide_eq_true_eq, decide_eq_false_iff_not, Int.not_lt, Int.not_le, CST, TN, WX, WA, WB, GS, LOC, BT143, SP143, CLS, FLD, ARR, CD, true_and, and_true, and_self, forall_const, true_implies, false_implies, implies_true, not_true_eq_false, not_false_eq_true, if_true, if_false, rgI, rgL, scr, swl, lkl, cats, cat, is2, List.drop_succ_cons, List.drop_zero, List.drop_nil, List.cons_append, List.nil_append, Option.toList_some, Option.toList_none, List.length_cons, List.length_nil, ne_eq, Classical.not_not, reduceCtorEq, Nat.reduceAdd, Nat.reduceSub, Nat.reduceMul, Nat.reduceLT, Nat.reduceLeDiff, Nat.reduceEqDiff, Nat.reduceBEq, Int.reduceToNat, Int.reduceLE, Int.reduceLT, Int.reduceEq, Int.reduceNeg, Int.reduceAdd, Int.reduceSub, Int.reduceMul, Int.toNat_natCast, Nat.zero_add, Int.add_zero, Nat.add_zero, ite_true, ite_false, Option.some.injEq, Nat.le_refl, or_true, true_or, or_false, false_or, if_pos, reduceIte, Nat.reduceGT]
      refine ⟨rcv_ok rfl own119 rfl, kI (m_period M hW) (Nat.le_of_ble_eq_true rfl) rfl rfl (Nat.le_of_ble_eq_true rfl) (Nat.le_of_ble_eq_true rfl) rfl ?_⟩
      refine wpx_ok hS bk143 (sp := sp143) 60 9 _ _ _ _ ?_
      simp only [LCM, B2, Bool.not_eq_false, Bool.not_eq_true, decide_eq_true_eq, decide_eq_false_iff_not, Int.not_lt, Int.not_le, CST, TN, WX, WA, WB, GS, LOC, BT143, SP143, CLS, FLD, ARR, CD, true_and, and_true, and_self, forall_const, true_implies, false_implies, implies_true, not_true_eq_false, not_false_eq_true, if_true, if_false, rgI, rgL, scr, swl, lkl, cats, cat, is2, List.drop_succ_cons, List.drop_zero, List.drop_nil, List.cons_append, List.nil_append, Option.toList_some, Option.toList_none, List.length_cons, List.length_nil, ne_eq, Classical.not_not, reduceCtorEq, Nat.reduceAdd, Nat.reduceSub, Nat.reduceMul, Nat.reduceLT, Nat.reduceLeDiff, Nat.reduceEqDiff, Nat.reduceBEq, Int.reduceToNat, Int.reduceLE, Int.reduceLT, Int.reduceEq, Int.reduceNeg, Int.reduceAdd, Int.reduceSub, Int.reduceMul, Int.toNat_natCast, Nat.zero_add, Int.add_zero, Nat.add_zero, ite_true, ite_false, Option.some.injEq, Nat.le_refl, or_true, true_or, or_false, false_or, if_pos, reduceIte, Nat.reduceGT]
      refine ⟨by omega, fun h => by omega, fun h => ⟨by omega, ?_⟩⟩
      refine ⟨rcv_ok rfl own125 rfl, kI (m_isShort w d M hW hw (by omega)) (Nat.le_of_ble_eq_true rfl) rfl rfl (Nat.le_of_ble_eq_true rfl) (Nat.le_of_ble_eq_true rfl) rfl ?_⟩
      refine wpx_ok hS bk143 (sp := sp143) 60 23 _ _ _ _ ?_
      simp only [LCM, B2, Bool.not_eq_false, Bool.not_eq_true, decide_eq_true_eq, decide_eq_false_iff_not, Int.not_lt, Int.not_le, CST, TN, WX, WA, WB, GS, LOC, BT143, SP143, CLS, FLD, ARR, CD, true_and, and_true, and_self, forall_const, true_implies, false_implies, implies_true, not_true_eq_false, not_false_eq_true, if_true, if_false, rgI, rgL, scr, swl, lkl, cats, cat, is2, List.drop_succ_cons, List.drop_zero, List.drop_nil, List.cons_append, List.nil_append, Option.toList_some, Option.toList_none, List.length_cons, List.length_nil, ne_eq, Classical.not_not, reduceCtorEq, Nat.reduceAdd, Nat.reduceSub, Nat.reduceMul, Nat.reduceLT, Nat.reduceLeDiff, Nat.reduceEqDiff, Nat.reduceBEq, Int.reduceToNat, Int.reduceLE, Int.reduceLT, Int.reduceEq, Int.reduceNeg, Int.reduceAdd, Int.reduceSub, Int.reduceMul, Int.toNat_natCast, Nat.zero_add, Int.add_zero, Nat.add_zero, ite_true, ite_false, Option.some.injEq, Nat.le_refl, or_true, true_or, or_false, false_or, if_pos, reduceIte, Nat.reduceGT]
      refine ⟨fun h1 => ?_, fun h1 => ?_⟩
      · rw [h1, if_pos rfl] at hf
        refine fin0 ?_ (d + 1) (by omega)
        unfold evS
        rw [← hf]
        rfl
      · rw [h1] at hf
        exact ih (d + 1) (by omega) hf
  refine wpx_ok hS bk143 (sp := sp143) 60 0 _ _ _ _ ?_
  simp only [LCM, B2, Bool.not_eq_false, Bool.not_eq_true, decide_eq_true_eq, decide_eq_false_iff_not, Int.not_lt, Int.not_le, CST, TN, WX, WA, WB, GS, LOC, BT143, SP143, CLS, FLD, ARR, CD, true_and, and_true, and_self, forall_const, true_implies, false_implies, implies_true, not_true_eq_false, not_false_eq_true, if_true, if_false, rgI, rgL, scr, swl, lkl, cats, cat, is2, List.drop_succ_cons, List.drop_zero, List.drop_nil, List.cons_append, List.nil_append, Option.toList_some, Option.toList_none, List.length_cons, List.length_nil, ne_eq, Classical.not_not, reduceCtorEq, Nat.reduceAdd, Nat.reduceSub, Nat.reduceMul, Nat.reduceLT, Nat.reduceLeDiff, Nat.reduceEqDiff, Nat.reduceBEq, Int.reduceToNat, Int.reduceLE, Int.reduceLT, Int.reduceEq, Int.reduceNeg, Int.reduceAdd, Int.reduceSub, Int.reduceMul, Int.toNat_natCast, Nat.zero_add, Int.add_zero, Nat.add_zero, ite_true, ite_false, Option.some.injEq, Nat.le_refl, or_true, true_or, or_false, false_or, if_pos, reduceIte, Nat.reduceGT]
  exact head (PN M) 0 (by omega) rfl
/-! one house changes -/
def oneP (T : MM) (w i : Nat) (r : Nat) : Bool := decide ((r : Int) ≠ T 61 (4 * i + 1)) && !evS (setR T i r) w
def oneR (T : MM) (w i : Nat) : Option Nat := fstF (oneP T w i) 0 (len T i).toNat
def oneC (T : MM) (w : Nat) : Nat → Nat → Option (Nat × Nat)
  | _, 0 => none
  | i, n + 1 => match oneR T w i with
    | some r => some (i, r)
    | none => oneC T w (i + 1) n
def g_one (M : MM) (a : Nat) (x : Option (Nat × Nat)) : MM := match x with
  | some (i, r) => mset (mset M 77 a i) 77 (a + 1) r
  | none => M
theorem m_changesOne (w f a : Nat) (M : MM) (hW : WFt M) (hw : w < wN M) (hf : f ≤ hN M) (ha : a ≤ 3) : oQ 6 144 [vR 55, vI w, vI f, vI a] M (fun r M' => r = some (Sum.inl (b2i (oneC M w f (hN M - f)).isSome)) ∧ M' = g_one M a (oneC M w f (hN M - f))) := by
  have hH := hW.H
  generalize hR : oneC M w f (hN M - f) = R
  refine go144 (fun S hS => ?_)
  have head : ∀ (n i : Nat), i + n = hN M → oneC M w i n = R → ∀ o5 o6 o7 : Option AV, S 3 [some (vR 55), some (vI w), some (vI f), some (vI a), some (vI i), o5, o6, o7] [] (sh0, 0, 0) M := by
    intro n
    induction n with
    | zero =>
      intro i hi hf o5 o6 o7
      refine wpx_ok hS bk144 (sp := sp144) 60 3 _ _ _ _ ?_
      simp only [LCM, B2, Bool.not_eq_false, Bool.not_eq_true, decide_eq_true_eq, decide_eq_false_iff_not, Int.not_lt, Int.not_le, CST, TN, WX, WA, WB, GS, LOC, BT144, SP144, CLS, FLD, ARR, CD, true_and, and_true, and_self, forall_const, true_implies, false_implies, implies_true, not_true_eq_false, not_false_eq_true, if_true, if_false, rgI, rgL, scr, swl, lkl, cats, cat, is2, List.drop_succ_cons, List.drop_zero, List.drop_nil, List.cons_append, List.nil_append, Option.toList_some, Option.toList_none, List.length_cons, List.length_nil, ne_eq, Classical.not_not, reduceCtorEq, Nat.reduceAdd, Nat.reduceSub, Nat.reduceMul, Nat.reduceLT, Nat.reduceLeDiff, Nat.reduceEqDiff, Nat.reduceBEq, Int.reduceToNat, Int.reduceLE, Int.reduceLT, Int.reduceEq, Int.reduceNeg, Int.reduceAdd, Int.reduceSub, Int.reduceMul, Int.toNat_natCast, Nat.zero_add, Int.add_zero, Nat.add_zero, ite_true, ite_false, Option.some.injEq, Nat.le_refl, or_true, true_or, or_false, false_or, if_pos, reduceIte, Nat.reduceGT]
      refine ⟨by omega, fun h => rt144 (by decide) ⟨rfl, ?_, ?_⟩, fun h => by omega⟩
      · rw [← hf]; rfl
      · rw [← hf]; rfl
    | succ n ih =>
      intro i hi hf o5 o6 o7
      rw [oneC] at hf
      have hs := hW.hs (i := i) (by omega)
      have hl := hW.ln (i := i) (by omega)
      have inner : ∀ (m r : Nat), r + m = (len M i).toNat → fstF (oneP M w i) r m = oneR M w i → ∀ o7 : Option AV, S 30 [some (vR 55), some (vI w), some (vI f), some (vI a), some (vI i), some (vI (M 61 (4 * i + 1))), some (vI r), o7] [] (sh0, 0, 0) M := by
        intro m
        induction m with
        | zero =>
          intro r hr hq o7
          refine wpx_ok hS bk144 (sp := sp144) 60 30 _ _ _ _ ?_
          simp only [LCM, B2, Bool.not_eq_false, Bool.not_eq_true, decide_eq_true_eq, decide_eq_false_iff_not, Int.not_lt, Int.not_le, CST, TN, WX, WA, WB, GS, LOC, BT144, SP144, CLS, FLD, ARR, CD, true_and, and_true, and_self, forall_const, true_implies, false_implies, implies_true, not_true_eq_false, not_false_eq_true, if_true, if_false, rgI, rgL, scr, swl, lkl, cats, cat, is2, List.drop_succ_cons, List.drop_zero, List.drop_nil, List.cons_append, List.nil_append, Option.toList_some, Option.toList_none, List.length_cons, List.length_nil, ne_eq, Classical.not_not, reduceCtorEq, Nat.reduceAdd, Nat.reduceSub, Nat.reduceMul, Nat.reduceLT, Nat.reduceLeDiff, Nat.reduceEqDiff, Nat.reduceBEq, Int.reduceToNat, Int.reduceLE, Int.reduceLT, Int.reduceEq, Int.reduceNeg, Int.reduceAdd, Int.reduceSub, Int.reduceMul, Int.toNat_natCast, Nat.zero_add, Int.add_zero, Nat.add_zero, ite_true, ite_false, Option.some.injEq, Nat.le_refl, or_true, true_or, or_false, false_or, if_pos, reduceIte, Nat.reduceGT]
          refine ⟨rcv_ok rfl own117 rfl, kI (m_weekOf i M hW (by omega)) (Nat.le_of_ble_eq_true rfl) rfl rfl (Nat.le_of_ble_eq_true rfl) (Nat.le_of_ble_eq_true rfl) rfl ?_⟩
          refine wpx_ok hS bk144 (sp := sp144) 60 38 _ _ _ _ ?_
          simp only [LCM, B2, Bool.not_eq_false, Bool.not_eq_true, decide_eq_true_eq, decide_eq_false_iff_not, Int.not_lt, Int.not_le, CST, TN, WX, WA, WB, GS, LOC, BT144, SP144, CLS, FLD, ARR, CD, true_and, and_true, and_self, forall_const, true_implies, false_implies, implies_true, not_true_eq_false, not_false_eq_true, if_true, if_false, rgI, rgL, scr, swl, lkl, cats, cat, is2, List.drop_succ_cons, List.drop_zero, List.drop_nil, List.cons_append, List.nil_append, Option.toList_some, Option.toList_none, List.length_cons, List.length_nil, ne_eq, Classical.not_not, reduceCtorEq, Nat.reduceAdd, Nat.reduceSub, Nat.reduceMul, Nat.reduceLT, Nat.reduceLeDiff, Nat.reduceEqDiff, Nat.reduceBEq, Int.reduceToNat, Int.reduceLE, Int.reduceLT, Int.reduceEq, Int.reduceNeg, Int.reduceAdd, Int.reduceSub, Int.reduceMul, Int.toNat_natCast, Nat.zero_add, Int.add_zero, Nat.add_zero, ite_true, ite_false, Option.some.injEq, Nat.le_refl, or_true, true_or, or_false, false_or, if_pos, reduceIte, Nat.reduceGT]
          refine ⟨by omega, fun h => ?_, fun h => by omega⟩
          rw [← hq] at hf
          exact ih (i + 1) (by omega) hf _ _ _
        | succ m ihm =>
          intro r hr hq o7
          rw [fstF] at hq
          refine wpx_ok hS bk144 (sp := sp144) 60 30 _ _ _ _ ?_
          simp only [LCM, B2, Bool.not_eq_false, Bool.not_eq_true, decide_eq_true_eq, decide_eq_false_iff_not, Int.not_lt, Int.not_le, CST, TN, WX, WA, WB, GS, LOC, BT144, SP144, CLS, FLD, ARR, CD, true_and, and_true, and_self, forall_const, true_implies, false_implies, implies_true, not_true_eq_false, not_false_eq_true, if_true, if_false, rgI, rgL, scr, swl, lkl, cats, cat, is2, List.drop_succ_cons, List.drop_zero, List.drop_nil, List.cons_append, List.nil_append, Option.toList_some, Option.toList_none, List.length_cons, List.length_nil, ne_eq, Classical.not_not, reduceCtorEq, Nat.reduceAdd, Nat.reduceSub, Nat.reduceMul, Nat.reduceLT, Nat.reduceLeDiff, Nat.reduceEqDiff, Nat.reduceBEq, Int.reduceToNat, Int.reduceLE, Int.reduceLT, Int.reduceEq, Int.reduceNeg, Int.reduceAdd, Int.reduceSub, Int.reduceMul, Int.toNat_natCast, Nat.zero_add, Int.add_zero, Nat.add_zero, ite_true, ite_false, Option.some.injEq, Nat.le_refl, or_true, true_or, or_false, false_or, if_pos, reduceIte, Nat.reduceGT]
          refine ⟨rcv_ok rfl own117 rfl, kI (m_weekOf i M hW (by omega)) (Nat.le_of_ble_eq_true rfl) rfl rfl (Nat.le_of_ble_eq_true rfl) (Nat.le_of_ble_eq_true rfl) rfl ?_⟩
          refine wpx_ok hS bk144 (sp := sp144) 60 38 _ _ _ _ ?_
          simp only [LCM, B2, Bool.not_eq_false, Bool.not_eq_true, decide_eq_true_eq, decide_eq_false_iff_not, Int.not_lt, Int.not_le, CST, TN, WX, WA, WB, GS, LOC, BT144, SP144, CLS, FLD, ARR, CD, true_and, and_true, and_self, forall_const, true_implies, false_implies, implies_true, not_true_eq_false, not_false_eq_true, if_true, if_false, rgI, rgL, scr, swl, lkl, cats, cat, is2, List.drop_succ_cons, List.drop_zero, List.drop_nil, List.cons_append, List.nil_append, Option.toList_some, Option.toList_none, List.length_cons, List.length_nil, ne_eq, Classical.not_not, reduceCtorEq, Nat.reduceAdd, Nat.reduceSub, Nat.reduceMul, Nat.reduceLT, Nat.reduceLeDiff, Nat.reduceEqDiff, Nat.reduceBEq, Int.reduceToNat, Int.reduceLE, Int.reduceLT, Int.reduceEq, Int.reduceNeg, Int.reduceAdd, Int.reduceSub, Int.reduceMul, Int.toNat_natCast, Nat.zero_add, Int.add_zero, Nat.add_zero, ite_true, ite_false, Option.some.injEq, Nat.le_refl, or_true, true_or, or_false, false_or, if_pos, reduceIte, Nat.reduceGT]
          refine ⟨by omega, fun h => by omega, fun h => ⟨by omega, by omega, fun h1 => ?_, fun h1 => ?_⟩⟩
          · have hp : oneP M w i r = false := by unfold oneP; rw [decide_eq_false (by omega)]; rfl
            rw [hp] at hq
            have h2 := ihm (r + 1) (by omega) hq
            refine ⟨by omega, ?_⟩
            rw [show mset (mset M 61 (4 * i + 1) r) 61 (4 * i + 1) (M 61 (4 * i + 1)) = M from ms_back _ _ _ _]
            exact h2 _
          · have hW2 : WFt (setR M i r) := setR_WF hW (by omega)
            refine ⟨rcv_ok rfl own143 rfl, kI (m_goesOn w (setR M i r) hW2 hw) (Nat.le_of_ble_eq_true rfl) rfl rfl (Nat.le_of_ble_eq_true rfl) (Nat.le_of_ble_eq_true rfl) rfl ?_⟩
            refine wpx_ok hS bk144 (sp := sp144) 60 66 _ _ _ _ ?_
            simp only [LCM, B2, Bool.not_eq_false, Bool.not_eq_true, decide_eq_true_eq, decide_eq_false_iff_not, Int.not_lt, Int.not_le, CST, TN, WX, WA, WB, GS, LOC, BT144, SP144, CLS, FLD, ARR, CD, true_and, and_true, and_self, forall_const, true_implies, false_implies, implies_true, not_true_eq_false, not_false_eq_true, if_true, if_false, rgI, rgL, scr, swl, lkl, cats, cat, is2, List.drop_succ_cons, List.drop_zero, List.drop_nil, List.cons_append, List.nil_append, Option.toList_some, Option.toList_none, List.length_cons, List.length_nil, ne_eq, Classical.not_not, reduceCtorEq, Nat.reduceAdd, Nat.reduceSub, Nat.reduceMul, Nat.reduceLT, Nat.reduceLeDiff, Nat.reduceEqDiff, Nat.reduceBEq, Int.reduceToNat, Int.reduceLE, Int.reduceLT, Int.reduceEq, Int.reduceNeg, Int.reduceAdd, Int.reduceSub, Int.reduceMul, Int.toNat_natCast, Nat.zero_add, Int.add_zero, Nat.add_zero, ite_true, ite_false, Option.some.injEq, Nat.le_refl, or_true, true_or, or_false, false_or, if_pos, reduceIte, Nat.reduceGT]
            rw [show mset (mset M 61 (4 * i + 1) r) 61 (4 * i + 1) (M 61 (4 * i + 1)) = M from ms_back _ _ _ _, show ((a : Int) + 1).toNat = a + 1 by omega]
            refine ⟨fun h2 => ⟨by omega, ?_⟩, fun h2 => ⟨by omega, by omega, by omega, ?_⟩⟩
            · have hp : oneP M w i r = false := by unfold oneP; rw [h2, Bool.and_false]
              rw [hp] at hq
              exact ihm (r + 1) (by omega) hq _
            · have hp : oneP M w i r = true := by unfold oneP; rw [decide_eq_true h1, h2]; rfl
              rw [hp, if_pos rfl] at hq
              rw [← hq] at hf
              refine rt144 (by decide) ⟨rfl, ?_, ?_⟩
              · rw [← hf]; rfl
              · rw [← hf]; rfl
      refine wpx_ok hS bk144 (sp := sp144) 60 3 _ _ _ _ ?_
      simp only [LCM, B2, Bool.not_eq_false, Bool.not_eq_true, decide_eq_true_eq, decide_eq_false_iff_not, Int.not_lt, Int.not_le, CST, TN, WX, WA, WB, GS, LOC, BT144, SP144, CLS, FLD, ARR, CD, true_and, and_true, and_self, forall_const, true_implies, false_implies, implies_true, not_true_eq_false, not_false_eq_true, if_true, if_false, rgI, rgL, scr, swl, lkl, cats, cat, is2, List.drop_succ_cons, List.drop_zero, List.drop_nil, List.cons_append, List.nil_append, Option.toList_some, Option.toList_none, List.length_cons, List.length_nil, ne_eq, Classical.not_not, reduceCtorEq, Nat.reduceAdd, Nat.reduceSub, Nat.reduceMul, Nat.reduceLT, Nat.reduceLeDiff, Nat.reduceEqDiff, Nat.reduceBEq, Int.reduceToNat, Int.reduceLE, Int.reduceLT, Int.reduceEq, Int.reduceNeg, Int.reduceAdd, Int.reduceSub, Int.reduceMul, Int.toNat_natCast, Nat.zero_add, Int.add_zero, Nat.add_zero, ite_true, ite_false, Option.some.injEq, Nat.le_refl, or_true, true_or, or_false, false_or, if_pos, reduceIte, Nat.reduceGT]
      refine ⟨by omega, fun h => by omega, fun h => ⟨by omega, ?_⟩⟩
      exact inner (len M i).toNat 0 (by omega) rfl _
  refine wpx_ok hS bk144 (sp := sp144) 60 0 _ _ _ _ ?_
  simp only [LCM, B2, Bool.not_eq_false, Bool.not_eq_true, decide_eq_true_eq, decide_eq_false_iff_not, Int.not_lt, Int.not_le, CST, TN, WX, WA, WB, GS, LOC, BT144, SP144, CLS, FLD, ARR, CD, true_and, and_true, and_self, forall_const, true_implies, false_implies, implies_true, not_true_eq_false, not_false_eq_true, if_true, if_false, rgI, rgL, scr, swl, lkl, cats, cat, is2, List.drop_succ_cons, List.drop_zero, List.drop_nil, List.cons_append, List.nil_append, Option.toList_some, Option.toList_none, List.length_cons, List.length_nil, ne_eq, Classical.not_not, reduceCtorEq, Nat.reduceAdd, Nat.reduceSub, Nat.reduceMul, Nat.reduceLT, Nat.reduceLeDiff, Nat.reduceEqDiff, Nat.reduceBEq, Int.reduceToNat, Int.reduceLE, Int.reduceLT, Int.reduceEq, Int.reduceNeg, Int.reduceAdd, Int.reduceSub, Int.reduceMul, Int.toNat_natCast, Nat.zero_add, Int.add_zero, Nat.add_zero, ite_true, ite_false, Option.some.injEq, Nat.le_refl, or_true, true_or, or_false, false_or, if_pos, reduceIte, Nat.reduceGT]
  exact head (hN M - f) f (by omega) hR _ _ _

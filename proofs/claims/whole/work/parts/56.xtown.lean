/-! the component's reader: towns, numbers -/
def RD5 (M T : MM) : Prop := (M 6 0 = T 57 0 ∧ M 6 1 = T 57 1 ∧ M 5 1 = T 58 0 ∧ M 5 5 = T 59 0 ∧ M 5 9 = T 60 0) ∧
  (∀ i, i < hN T → M 7 i = T 61 (4 * i + 2) ∧ M 8 i = T 61 (4 * i + 3)) ∧ (∀ s, s < 5 → M 9 s = mk (skP T s)) ∧ (∀ w, w < wN T → M 10 w = T 63 (3 * w) ∧ M 11 w = T 63 (3 * w + 1) ∧ M 12 w = T 63 (3 * w + 2)) ∧
  (∀ i, i < hN T → M 14 i = T 61 (4 * i) ∧ M 15 i = T 61 (4 * i + 1)) ∧ M 13 2 = mk (newP T)
def pfr5 (k j : Nat) : Prop := (2 ≤ k ∧ k ≤ 4) ∨ (5 ≤ k ∧ k ≤ 12) ∨ (k = 13 ∧ (j = 2 ∨ j = 3)) ∨ (14 ≤ k ∧ k ≤ 15)
theorem RD5.keep {M M' T : MM} (h : RD5 M T) (hk : ∀ k j, (5 ≤ k ∧ k ≤ 12) ∨ (13 ≤ k ∧ k ≤ 15) → M' k j = M k j) : RD5 M' T := by
  obtain ⟨⟨a1, a2, a3, a4, a5⟩, b, c, d, e, f⟩ := h
  refine ⟨⟨?_, ?_, ?_, ?_, ?_⟩, fun i hi => ?_, fun s hs => ?_, fun w hw => ?_, fun i hi => ?_, ?_⟩
  · rw [hk _ _ (by omega)]; exact a1
  · rw [hk _ _ (by omega)]; exact a2
  · rw [hk _ _ (by omega)]; exact a3
  · rw [hk _ _ (by omega)]; exact a4
  · rw [hk _ _ (by omega)]; exact a5
  · rw [hk _ _ (by omega), hk _ _ (by omega)]; exact b i hi
  · rw [hk _ _ (by omega)]; exact c s hs
  · rw [hk _ _ (by omega), hk _ _ (by omega), hk _ _ (by omega)]; exact d w hw
  · rw [hk _ _ (by omega), hk _ _ (by omega)]; exact e i hi
  · rw [hk _ _ (by omega)]; exact f
theorem x_tbegin5 (M : MM) : oQ 2 28 [vR 5] M (fun r M' => r = none ∧ (M' 6 0 = 7 ∧ M' 6 1 = 9 ∧ M' 5 1 = 0 ∧ M' 5 5 = 0 ∧ M' 5 9 = 0) ∧ (∀ s, s < 5 → M' 9 s = 0) ∧ ∀ k j, ¬ (5 ≤ k ∧ k ≤ 12) → M' k j = M k j) := by
  refine go28 (fun S hS => ?_)
  refine wpx_ok hS bk28 (sp := sp28) 60 0 _ _ _ _ ?_
  simp only [LCM, B2, Bool.not_eq_false, Bool.not_eq_true, decide_eq_true_eq, decide_eq_false_iff_not, Int.not_lt, Int.not_le, CST, TN, WX, WA, WB, GS, LOC, BT28, SP28, CLS, FLD, ARR, CD, true_and, and_true, and_self, forall_const, true_implies, false_implies, implies_true, not_true_eq_false, not_false_eq_true, if_true, if_false, rgI, rgL, scr, swl, lkl, cats, cat, is2, List.drop_succ_cons, List.drop_zero, List.drop_nil, List.cons_append, List.nil_append, Option.toList_some, Option.toList_none, List.length_cons, List.length_nil, ne_eq, Classical.not_not, reduceCtorEq, Nat.reduceAdd, Nat.reduceSub, Nat.reduceMul, Nat.reduceLT, Nat.reduceLeDiff, Nat.reduceEqDiff, Nat.reduceBEq, Int.reduceToNat, Int.reduceLE, Int.reduceLT, Int.reduceEq, Int.reduceNeg, Int.reduceAdd, Int.reduceSub, Int.reduceMul, Int.toNat_natCast, Nat.zero_add, Int.add_zero, Nat.add_zero, ite_true, ite_false, Option.some.injEq, Nat.le_refl, or_true, true_or, or_false, false_or, if_pos, reduceIte, Nat.reduceGT]
  refine kV (x_afill 9 5 mz_nul 0 _ rfl (by decide) (by decide)) (Nat.le_of_ble_eq_true rfl) rfl rfl (Nat.le_of_ble_eq_true rfl) (Nat.le_of_ble_eq_true rfl) rfl ?_
  refine wpx_ok hS bk28 (sp := sp28) 60 29 _ _ _ _ ?_
  simp only [LCM, B2, Bool.not_eq_false, Bool.not_eq_true, decide_eq_true_eq, decide_eq_false_iff_not, Int.not_lt, Int.not_le, CST, TN, WX, WA, WB, GS, LOC, BT28, SP28, CLS, FLD, ARR, CD, true_and, and_true, and_self, forall_const, true_implies, false_implies, implies_true, not_true_eq_false, not_false_eq_true, if_true, if_false, rgI, rgL, scr, swl, lkl, cats, cat, is2, List.drop_succ_cons, List.drop_zero, List.drop_nil, List.cons_append, List.nil_append, Option.toList_some, Option.toList_none, List.length_cons, List.length_nil, ne_eq, Classical.not_not, reduceCtorEq, Nat.reduceAdd, Nat.reduceSub, Nat.reduceMul, Nat.reduceLT, Nat.reduceLeDiff, Nat.reduceEqDiff, Nat.reduceBEq, Int.reduceToNat, Int.reduceLE, Int.reduceLT, Int.reduceEq, Int.reduceNeg, Int.reduceAdd, Int.reduceSub, Int.reduceMul, Int.toNat_natCast, Nat.zero_add, Int.add_zero, Nat.add_zero, ite_true, ite_false, Option.some.injEq, Nat.le_refl, or_true, true_or, or_false, false_or, if_pos, reduceIte, Nat.reduceGT]
  refine rt28 (Nat.le_refl _) (Nat.le_refl _) ⟨rfl, rfl, ⟨rfl, rfl, rfl, rfl, rfl⟩, fun s hs => ?_, fun k j hk => ?_⟩
  · rw [ms_ne (by decide), ms_ne (by decide)]
    unfold mfil
    rw [if_pos ⟨rfl, hs⟩]
  · rw [ms_ne (by omega), ms_ne (by omega)]
    unfold mfil
    rw [if_neg (by omega), ms_ne (by omega), ms_ne (by omega), ms_ne (by omega)]
theorem x_bbegin5 (M : MM) : oV 1 1 [vR 13] M (mset (mset M 13 2 0) 13 3 0) := by
  refine go1 (fun S hS => ?_)
  refine wpx_ok hS bk1 (sp := sp1) 60 0 _ _ _ _ ?_
  simp only [LCM, B2, Bool.not_eq_false, Bool.not_eq_true, decide_eq_true_eq, decide_eq_false_iff_not, Int.not_lt, Int.not_le, CST, TN, WX, WA, WB, GS, LOC, BT1, SP1, CLS, FLD, ARR, CD, true_and, and_true, and_self, forall_const, true_implies, false_implies, implies_true, not_true_eq_false, not_false_eq_true, if_true, if_false, rgI, rgL, scr, swl, lkl, cats, cat, is2, List.drop_succ_cons, List.drop_zero, List.drop_nil, List.cons_append, List.nil_append, Option.toList_some, Option.toList_none, List.length_cons, List.length_nil, ne_eq, Classical.not_not, reduceCtorEq, Nat.reduceAdd, Nat.reduceSub, Nat.reduceMul, Nat.reduceLT, Nat.reduceLeDiff, Nat.reduceEqDiff, Nat.reduceBEq, Int.reduceToNat, Int.reduceLE, Int.reduceLT, Int.reduceEq, Int.reduceNeg, Int.reduceAdd, Int.reduceSub, Int.reduceMul, Int.toNat_natCast, Nat.zero_add, Int.add_zero, Nat.add_zero, ite_true, ite_false, Option.some.injEq, Nat.le_refl, or_true, true_or, or_false, false_or, if_pos, reduceIte, Nat.reduceGT]
  exact rt1 (Nat.le_refl _) (Nat.le_refl _) ⟨rfl, rfl, rfl⟩
theorem RD5.begin {M M' : MM} (h : (M 6 0 = 7 ∧ M 6 1 = 9 ∧ M 5 1 = 0 ∧ M 5 5 = 0 ∧ M 5 9 = 0) ∧ ∀ s, s < 5 → M 9 s = 0) (h' : M' = mset (mset M 13 2 0) 13 3 0) : RD5 M' D0 := by
  subst h'
  refine ⟨h.1, fun i hi => ?_, fun s hs => ?_, fun w hw => ?_, fun i hi => ?_, ?_⟩
  · exact absurd hi (by unfold hN D0; simp)
  · rw [ms_ne (by decide), ms_ne (by decide), h.2 s hs, ← mk_0]
    refine mk_eq (fun i _ => ?_)
    unfold skP hN D0
    simp
  · exact absurd hw (by unfold wN D0; simp)
  · exact absurd hi (by unfold hN D0; simp)
  · rw [ms_nj (by decide), ms_eq, ← mk_0]
    exact mk_eq (fun i _ => rfl)
def RD18 (M T : MM) : Prop := (M 19 0 = T 57 0 ∧ M 19 1 = T 57 1 ∧ M 18 1 = T 58 0 ∧ M 18 5 = T 59 0 ∧ M 18 9 = T 60 0) ∧
  (∀ i, i < hN T → M 20 i = T 61 (4 * i + 2) ∧ M 21 i = T 61 (4 * i + 3)) ∧ (∀ s, s < 5 → M 22 s = mk (skP T s)) ∧ (∀ w, w < wN T → M 23 w = T 63 (3 * w) ∧ M 24 w = T 63 (3 * w + 1) ∧ M 25 w = T 63 (3 * w + 2)) ∧
  (∀ i, i < hN T → M 27 i = T 61 (4 * i) ∧ M 28 i = T 61 (4 * i + 1)) ∧ M 26 2 = mk (newP T)
def pfr18 (k j : Nat) : Prop := (2 ≤ k ∧ k ≤ 4) ∨ (18 ≤ k ∧ k ≤ 25) ∨ (k = 26 ∧ (j = 2 ∨ j = 3)) ∨ (27 ≤ k ∧ k ≤ 28)
theorem RD18.keep {M M' T : MM} (h : RD18 M T) (hk : ∀ k j, (18 ≤ k ∧ k ≤ 25) ∨ (26 ≤ k ∧ k ≤ 28) → M' k j = M k j) : RD18 M' T := by
  obtain ⟨⟨a1, a2, a3, a4, a5⟩, b, c, d, e, f⟩ := h
  refine ⟨⟨?_, ?_, ?_, ?_, ?_⟩, fun i hi => ?_, fun s hs => ?_, fun w hw => ?_, fun i hi => ?_, ?_⟩
  · rw [hk _ _ (by omega)]; exact a1
  · rw [hk _ _ (by omega)]; exact a2
  · rw [hk _ _ (by omega)]; exact a3
  · rw [hk _ _ (by omega)]; exact a4
  · rw [hk _ _ (by omega)]; exact a5
  · rw [hk _ _ (by omega), hk _ _ (by omega)]; exact b i hi
  · rw [hk _ _ (by omega)]; exact c s hs
  · rw [hk _ _ (by omega), hk _ _ (by omega), hk _ _ (by omega)]; exact d w hw
  · rw [hk _ _ (by omega), hk _ _ (by omega)]; exact e i hi
  · rw [hk _ _ (by omega)]; exact f
theorem x_tbegin18 (M : MM) : oQ 2 28 [vR 18] M (fun r M' => r = none ∧ (M' 19 0 = 7 ∧ M' 19 1 = 9 ∧ M' 18 1 = 0 ∧ M' 18 5 = 0 ∧ M' 18 9 = 0) ∧ (∀ s, s < 5 → M' 22 s = 0) ∧ ∀ k j, ¬ (18 ≤ k ∧ k ≤ 25) → M' k j = M k j) := by
  refine go28 (fun S hS => ?_)
  refine wpx_ok hS bk28 (sp := sp28) 60 0 _ _ _ _ ?_
  simp only [LCM, B2, Bool.not_eq_false, Bool.not_eq_true, decide_eq_true_eq, decide_eq_false_iff_not, Int.not_lt, Int.not_le, CST, TN, WX, WA, WB, GS, LOC, BT28, SP28, CLS, FLD, ARR, CD, true_and, and_true, and_self, forall_const, true_implies, false_implies, implies_true, not_true_eq_false, not_false_eq_true, if_true, if_false, rgI, rgL, scr, swl, lkl, cats, cat, is2, List.drop_succ_cons, List.drop_zero, List.drop_nil, List.cons_append, List.nil_append, Option.toList_some, Option.toList_none, List.length_cons, List.length_nil, ne_eq, Classical.not_not, reduceCtorEq, Nat.reduceAdd, Nat.reduceSub, Nat.reduceMul, Nat.reduceLT, Nat.reduceLeDiff, Nat.reduceEqDiff, Nat.reduceBEq, Int.reduceToNat, Int.reduceLE, Int.reduceLT, Int.reduceEq, Int.reduceNeg, Int.reduceAdd, Int.reduceSub, Int.reduceMul, Int.toNat_natCast, Nat.zero_add, Int.add_zero, Nat.add_zero, ite_true, ite_false, Option.some.injEq, Nat.le_refl, or_true, true_or, or_false, false_or, if_pos, reduceIte, Nat.reduceGT]
  refine kV (x_afill 22 5 mz_nul 0 _ rfl (by decide) (by decide)) (Nat.le_of_ble_eq_true rfl) rfl rfl (Nat.le_of_ble_eq_true rfl) (Nat.le_of_ble_eq_true rfl) rfl ?_
  refine wpx_ok hS bk28 (sp := sp28) 60 29 _ _ _ _ ?_
  simp only [LCM, B2, Bool.not_eq_false, Bool.not_eq_true, decide_eq_true_eq, decide_eq_false_iff_not, Int.not_lt, Int.not_le, CST, TN, WX, WA, WB, GS, LOC, BT28, SP28, CLS, FLD, ARR, CD, true_and, and_true, and_self, forall_const, true_implies, false_implies, implies_true, not_true_eq_false, not_false_eq_true, if_true, if_false, rgI, rgL, scr, swl, lkl, cats, cat, is2, List.drop_succ_cons, List.drop_zero, List.drop_nil, List.cons_append, List.nil_append, Option.toList_some, Option.toList_none, List.length_cons, List.length_nil, ne_eq, Classical.not_not, reduceCtorEq, Nat.reduceAdd, Nat.reduceSub, Nat.reduceMul, Nat.reduceLT, Nat.reduceLeDiff, Nat.reduceEqDiff, Nat.reduceBEq, Int.reduceToNat, Int.reduceLE, Int.reduceLT, Int.reduceEq, Int.reduceNeg, Int.reduceAdd, Int.reduceSub, Int.reduceMul, Int.toNat_natCast, Nat.zero_add, Int.add_zero, Nat.add_zero, ite_true, ite_false, Option.some.injEq, Nat.le_refl, or_true, true_or, or_false, false_or, if_pos, reduceIte, Nat.reduceGT]
  refine rt28 (Nat.le_refl _) (Nat.le_refl _) ⟨rfl, rfl, ⟨rfl, rfl, rfl, rfl, rfl⟩, fun s hs => ?_, fun k j hk => ?_⟩
  · rw [ms_ne (by decide), ms_ne (by decide)]
    unfold mfil
    rw [if_pos ⟨rfl, hs⟩]
  · rw [ms_ne (by omega), ms_ne (by omega)]
    unfold mfil
    rw [if_neg (by omega), ms_ne (by omega), ms_ne (by omega), ms_ne (by omega)]
theorem x_bbegin18 (M : MM) : oV 1 1 [vR 26] M (mset (mset M 26 2 0) 26 3 0) := by
  refine go1 (fun S hS => ?_)
  refine wpx_ok hS bk1 (sp := sp1) 60 0 _ _ _ _ ?_
  simp only [LCM, B2, Bool.not_eq_false, Bool.not_eq_true, decide_eq_true_eq, decide_eq_false_iff_not, Int.not_lt, Int.not_le, CST, TN, WX, WA, WB, GS, LOC, BT1, SP1, CLS, FLD, ARR, CD, true_and, and_true, and_self, forall_const, true_implies, false_implies, implies_true, not_true_eq_false, not_false_eq_true, if_true, if_false, rgI, rgL, scr, swl, lkl, cats, cat, is2, List.drop_succ_cons, List.drop_zero, List.drop_nil, List.cons_append, List.nil_append, Option.toList_some, Option.toList_none, List.length_cons, List.length_nil, ne_eq, Classical.not_not, reduceCtorEq, Nat.reduceAdd, Nat.reduceSub, Nat.reduceMul, Nat.reduceLT, Nat.reduceLeDiff, Nat.reduceEqDiff, Nat.reduceBEq, Int.reduceToNat, Int.reduceLE, Int.reduceLT, Int.reduceEq, Int.reduceNeg, Int.reduceAdd, Int.reduceSub, Int.reduceMul, Int.toNat_natCast, Nat.zero_add, Int.add_zero, Nat.add_zero, ite_true, ite_false, Option.some.injEq, Nat.le_refl, or_true, true_or, or_false, false_or, if_pos, reduceIte, Nat.reduceGT]
  exact rt1 (Nat.le_refl _) (Nat.le_refl _) ⟨rfl, rfl, rfl⟩
theorem RD18.begin {M M' : MM} (h : (M 19 0 = 7 ∧ M 19 1 = 9 ∧ M 18 1 = 0 ∧ M 18 5 = 0 ∧ M 18 9 = 0) ∧ ∀ s, s < 5 → M 22 s = 0) (h' : M' = mset (mset M 26 2 0) 26 3 0) : RD18 M' D0 := by
  subst h'
  refine ⟨h.1, fun i hi => ?_, fun s hs => ?_, fun w hw => ?_, fun i hi => ?_, ?_⟩
  · exact absurd hi (by unfold hN D0; simp)
  · rw [ms_ne (by decide), ms_ne (by decide), h.2 s hs, ← mk_0]
    refine mk_eq (fun i _ => ?_)
    unfold skP hN D0
    simp
  · exact absurd hw (by unfold wN D0; simp)
  · exact absurd hi (by unfold hN D0; simp)
  · rw [ms_nj (by decide), ms_eq, ← mk_0]
    exact mk_eq (fun i _ => rfl)
theorem sk_bit {a : Nat} (ha : a < 32) {s : Nat} (hs : s < 5) : bAnd (a : Int) (bShl 1 (s : Int)) = 0 ↔ bAnd (bShr (a : Int) (s : Int)) 1 ≠ 1 := by
  have : ∀ a : Nat, a < 32 → ∀ s : Nat, s < 5 → (bAnd (a : Int) (bShl 1 (s : Int)) = 0 ↔ bAnd (bShr (a : Int) (s : Int)) 1 ≠ 1) := by decide +kernel
  exact this a ha s hs
def skO (sk : Int) (s : Nat) : Bool := decide (bAnd (bShr sk (s : Int)) 1 = 1)
def adT (M : MM) (r H : Nat) (sk : Int) (n : Nat) : MM := fun k j => if k = r ∧ j < n ∧ skO sk j = true then bOr (M r j) (bShl 1 (H : Int)) else M k j
theorem adT_step (M : MM) (r H : Nat) (sk : Int) (n : Nat) : (skO sk n = true → mset (adT M r H sk n) r n (bOr (adT M r H sk n r n) (bShl 1 (H : Int))) = adT M r H sk (n + 1)) ∧ (skO sk n = false → adT M r H sk n = adT M r H sk (n + 1)) := by
  have e : adT M r H sk n r n = M r n := by unfold adT; rw [if_neg (by omega)]
  constructor
  · intro h
    funext k j
    rw [e]
    unfold mset adT
    by_cases hk : k = r ∧ j = n
    · obtain ⟨rfl, rfl⟩ := hk
      rw [if_pos ⟨rfl, rfl⟩, if_pos ⟨rfl, by omega, h⟩]
    · rw [if_neg hk]
      by_cases h2 : k = r ∧ j < n ∧ skO sk j = true
      · rw [if_pos h2, if_pos ⟨h2.1, by omega, h2.2.2⟩]
      · rw [if_neg h2, if_neg (fun z => h2 ⟨z.1, by omega, z.2.2⟩)]
  · intro h
    funext k j
    unfold adT
    by_cases h2 : k = r ∧ j < n ∧ skO sk j = true
    · rw [if_pos h2, if_pos ⟨h2.1, by omega, h2.2.2⟩]
    · rw [if_neg h2, if_neg (fun z => ?_)]
      by_cases hj : j = n
      · rw [hj, h] at z; cases z.2.2
      · exact h2 ⟨z.1, by omega, z.2.2⟩
theorem x_addHouse5 (H : Nat) (sk st : Int) (M : MM) (hH : M 5 1 = H) (h10 : H < 10) (hsk : 0 ≤ sk ∧ sk ≤ 31) : oV 1 29 [vR 5, vI sk, vI st] M (mset (adT (mset (mset M 7 H sk) 8 H st) 9 H sk 5) 5 1 ((H : Int) + 1)) := by
  obtain ⟨a, rfl⟩ : ∃ a : Nat, sk = (a : Int) := ⟨sk.toNat, by omega⟩
  refine go29 (fun S hS => ?_)
  have head : ∀ (m s : Nat), s + m = 5 → S 32 [some (vR 5), some (vI a), some (vI st), some (vI s)] [] (sh0, 0, 0) (adT (mset (mset M 7 H a) 8 H st) 9 H a s) := by
    intro m
    induction m with
    | zero =>
      intro s hs
      have hs5 : s = 5 := by omega
      have e1 : adT (mset (mset M 7 H a) 8 H st) 9 H a s 5 1 = H := by unfold adT; rw [if_neg (by omega)]; exact hH
      refine wpx_ok hS bk29 (sp := sp29) 60 32 _ _ _ _ ?_
      simp only [LCM, B2, Bool.not_eq_false, Bool.not_eq_true, decide_eq_true_eq, decide_eq_false_iff_not, Int.not_lt, Int.not_le, CST, TN, WX, WA, WB, GS, LOC, BT29, SP29, CLS, FLD, ARR, CD, true_and, and_true, and_self, forall_const, true_implies, false_implies, implies_true, not_true_eq_false, not_false_eq_true, if_true, if_false, rgI, rgL, scr, swl, lkl, cats, cat, is2, List.drop_succ_cons, List.drop_zero, List.drop_nil, List.cons_append, List.nil_append, Option.toList_some, Option.toList_none, List.length_cons, List.length_nil, ne_eq, Classical.not_not, reduceCtorEq, Nat.reduceAdd, Nat.reduceSub, Nat.reduceMul, Nat.reduceLT, Nat.reduceLeDiff, Nat.reduceEqDiff, Nat.reduceBEq, Int.reduceToNat, Int.reduceLE, Int.reduceLT, Int.reduceEq, Int.reduceNeg, Int.reduceAdd, Int.reduceSub, Int.reduceMul, Int.toNat_natCast, Nat.zero_add, Int.add_zero, Nat.add_zero, ite_true, ite_false, Option.some.injEq, Nat.le_refl, or_true, true_or, or_false, false_or, if_pos, reduceIte, Nat.reduceGT]
      rw [e1]
      refine ⟨by omega, fun _ => rt29 (Nat.le_refl _) (Nat.le_refl _) ⟨rfl, rfl, by rw [hs5]⟩, fun h => by omega⟩
    | succ m ih =>
      intro s hs
      have e1 : adT (mset (mset M 7 H a) 8 H st) 9 H a s 5 1 = H := by unfold adT; rw [if_neg (by omega)]; exact hH
      have nx := ih (s + 1) (by omega)
      have hst := adT_step (mset (mset M 7 H a) 8 H st) 9 H a s
      have hbit := sk_bit (a := a) (by omega) (s := s) (by omega)
      have hr : rgI (bAnd (a : Int) (bShl 1 (s : Int))) := bAnd_rg _ _
      refine wpx_ok hS bk29 (sp := sp29) 60 32 _ _ _ _ ?_
      simp only [LCM, B2, Bool.not_eq_false, Bool.not_eq_true, decide_eq_true_eq, decide_eq_false_iff_not, Int.not_lt, Int.not_le, CST, TN, WX, WA, WB, GS, LOC, BT29, SP29, CLS, FLD, ARR, CD, true_and, and_true, and_self, forall_const, true_implies, false_implies, implies_true, not_true_eq_false, not_false_eq_true, if_true, if_false, rgI, rgL, scr, swl, lkl, cats, cat, is2, List.drop_succ_cons, List.drop_zero, List.drop_nil, List.cons_append, List.nil_append, Option.toList_some, Option.toList_none, List.length_cons, List.length_nil, ne_eq, Classical.not_not, reduceCtorEq, Nat.reduceAdd, Nat.reduceSub, Nat.reduceMul, Nat.reduceLT, Nat.reduceLeDiff, Nat.reduceEqDiff, Nat.reduceBEq, Int.reduceToNat, Int.reduceLE, Int.reduceLT, Int.reduceEq, Int.reduceNeg, Int.reduceAdd, Int.reduceSub, Int.reduceMul, Int.toNat_natCast, Nat.zero_add, Int.add_zero, Nat.add_zero, ite_true, ite_false, Option.some.injEq, Nat.le_refl, or_true, true_or, or_false, false_or, if_pos, reduceIte, Nat.reduceGT]
      rw [e1]
      refine ⟨by omega, fun h => by omega, fun h => ⟨hr, fun h1 => ?_, fun h1 => ⟨by omega, by omega, ?_⟩⟩⟩
      · rw [hst.2 (by unfold skO; exact decide_eq_false (hbit.mp h1))]
        exact nx
      · rw [hst.1 (by unfold skO; exact decide_eq_true (Classical.not_not.mp (fun z => h1 (hbit.mpr z))))]
        exact nx
  have e0 : adT (mset (mset M 7 H a) 8 H st) 9 H a 0 = mset (mset M 7 H a) 8 H st := by
    funext k j
    unfold adT
    rw [if_neg (by omega)]
  have h0 := head 5 0 (by omega)
  rw [e0] at h0
  refine wpx_ok hS bk29 (sp := sp29) 60 0 _ _ _ _ ?_
  simp only [LCM, B2, Bool.not_eq_false, Bool.not_eq_true, decide_eq_true_eq, decide_eq_false_iff_not, Int.not_lt, Int.not_le, CST, TN, WX, WA, WB, GS, LOC, BT29, SP29, CLS, FLD, ARR, CD, true_and, and_true, and_self, forall_const, true_implies, false_implies, implies_true, not_true_eq_false, not_false_eq_true, if_true, if_false, rgI, rgL, scr, swl, lkl, cats, cat, is2, List.drop_succ_cons, List.drop_zero, List.drop_nil, List.cons_append, List.nil_append, Option.toList_some, Option.toList_none, List.length_cons, List.length_nil, ne_eq, Classical.not_not, reduceCtorEq, Nat.reduceAdd, Nat.reduceSub, Nat.reduceMul, Nat.reduceLT, Nat.reduceLeDiff, Nat.reduceEqDiff, Nat.reduceBEq, Int.reduceToNat, Int.reduceLE, Int.reduceLT, Int.reduceEq, Int.reduceNeg, Int.reduceAdd, Int.reduceSub, Int.reduceMul, Int.toNat_natCast, Nat.zero_add, Int.add_zero, Nat.add_zero, ite_true, ite_false, Option.some.injEq, Nat.le_refl, or_true, true_or, or_false, false_or, if_pos, reduceIte, Nat.reduceGT, ms_ne, ms_eq, ms_nj]
  rw [hH]
  simp only [Int.toNat_natCast]
  exact ⟨by omega, fun _ => ⟨by omega, by omega, h0⟩, fun h => by omega⟩
theorem x_addWork5 (W : Nat) (a b c : Int) (M : MM) (hW : M 5 5 = W) (h6 : W < 6) : oV 1 30 [vR 5, vI a, vI b, vI c] M (mset (mset (mset (mset M 10 W a) 11 W b) 12 W c) 5 5 ((W : Int) + 1)) := by
  refine go30 (fun S hS => ?_)
  refine wpx_ok hS bk30 (sp := sp30) 60 0 _ _ _ _ ?_
  simp only [LCM, B2, Bool.not_eq_false, Bool.not_eq_true, decide_eq_true_eq, decide_eq_false_iff_not, Int.not_lt, Int.not_le, CST, TN, WX, WA, WB, GS, LOC, BT30, SP30, CLS, FLD, ARR, CD, true_and, and_true, and_self, forall_const, true_implies, false_implies, implies_true, not_true_eq_false, not_false_eq_true, if_true, if_false, rgI, rgL, scr, swl, lkl, cats, cat, is2, List.drop_succ_cons, List.drop_zero, List.drop_nil, List.cons_append, List.nil_append, Option.toList_some, Option.toList_none, List.length_cons, List.length_nil, ne_eq, Classical.not_not, reduceCtorEq, Nat.reduceAdd, Nat.reduceSub, Nat.reduceMul, Nat.reduceLT, Nat.reduceLeDiff, Nat.reduceEqDiff, Nat.reduceBEq, Int.reduceToNat, Int.reduceLE, Int.reduceLT, Int.reduceEq, Int.reduceNeg, Int.reduceAdd, Int.reduceSub, Int.reduceMul, Int.toNat_natCast, Nat.zero_add, Int.add_zero, Nat.add_zero, ite_true, ite_false, Option.some.injEq, Nat.le_refl, or_true, true_or, or_false, false_or, if_pos, reduceIte, Nat.reduceGT, ms_ne, ms_eq, ms_nj]
  rw [hW]
  simp only [Int.toNat_natCast]
  exact ⟨by omega, fun _ => ⟨by omega, by omega, by omega, rt30 (Nat.le_refl _) (Nat.le_refl _) ⟨rfl, rfl, rfl⟩⟩, fun h => by omega⟩
theorem RD5.addH {M N D : MM} (h : RD5 M D) (hd : WFd D) (hlt : hN D < 10) (p : Nat) (a b c d : Int) (n0 : N 5 1 = (hN D : Int) + 1) (n2 : ∀ i, N 7 i = if i = hN D then c else M 7 i) (n3 : ∀ i, N 8 i = if i = hN D then d else M 8 i) (m1 : ∀ i, N 14 i = if i = hN D then a else M 14 i) (m2 : ∀ i, N 15 i = if i = hN D then b else M 15 i)
    (n4 : ∀ s, s < 5 → N 9 s = if skO c s then bOr (M 9 s) (bShl 1 (hN D : Int)) else M 9 s) (nf : ∀ k j, k = 6 ∨ (k = 5 ∧ j ≠ 1) ∨ (10 ≤ k ∧ k ≤ 12) ∨ k = 13 → N k j = M k j) : RD5 N (adH D p a b c d) := by
  have hH := adH_H hd p a b c d
  have hHD := hd.H
  have ew : wN (adH D p a b c d) = wN D := by unfold wN; rw [adH_no (by decide) (by decide) (by decide)]
  have at1 := adH_at (D := D) (p := p) (a := a) (b := b) (c := c) (d := d)
  obtain ⟨⟨a1, a2, a3, a4, a5⟩, hb, hc, hw, he, hf⟩ := h
  refine ⟨⟨?_, ?_, ?_, ?_, ?_⟩, fun i hi => ?_, fun s hs => ?_, fun w hw2 => ?_, fun i hi => ?_, ?_⟩
  · rw [adH_no (by decide) (by decide) (by decide), nf _ _ (by omega)]; exact a1
  · rw [adH_no (by decide) (by decide) (by decide), nf _ _ (by omega)]; exact a2
  · rw [n0]; unfold adH; rw [ms_eq, hHD.1]
  · rw [adH_no (by decide) (by decide) (by decide), nf _ _ (by omega)]; exact a4
  · rw [adH_no (by decide) (by decide) (by decide), nf _ _ (by omega)]; exact a5
  · rw [hH] at hi
    rw [n2, n3]
    by_cases hin : i = hN D
    · rw [if_pos hin, if_pos hin, hin, at1.2.2.1, at1.2.2.2.1]; exact ⟨rfl, rfl⟩
    · have := adH_lo (D := D) (p := p) (a := a) (b := b) (c := c) (d := d) (i := i) (by omega)
      rw [if_neg hin, if_neg hin, this.2.2.1, this.2.2.2.1]
      exact hb i (by omega)
  · have e4 := hc s hs
    have hsame : ∀ i, i ≠ hN D → skP (adH D p a b c d) s i = skP D s i := by
      intro i hi
      unfold skP skB
      rw [hH]
      by_cases hil : i < hN D
      · rw [(adH_lo (D := D) (p := p) (a := a) (b := b) (c := c) (d := d) hil).2.2.1, decide_eq_true hil, decide_eq_true (show i < hN D + 1 by omega)]
      · rw [decide_eq_false hil, decide_eq_false (show ¬ i < hN D + 1 by omega), Bool.false_and, Bool.false_and]
    have hnew : skP (adH D p a b c d) s (hN D) = skO c s := by
      unfold skP skB skO
      rw [hH, at1.2.2.1, decide_eq_true (show hN D < hN D + 1 by omega), Bool.true_and]
    have hold : skP D s (hN D) = false := by unfold skP; rw [decide_eq_false (Nat.lt_irrefl _), Bool.false_and]
    rw [n4 s hs, e4]
    cases hsk : skO c s with
    | true =>
      rw [if_pos rfl, mk_put hlt]
      refine mk_eq (fun i _ => ?_)
      by_cases hi : i = hN D
      · rw [hi, hnew, hsk]; simp
      · rw [hsame i hi, beq_eq_false_iff_ne.mpr hi, Bool.or_false]
    | false =>
      rw [if_neg (by decide)]
      refine mk_eq (fun i _ => ?_)
      by_cases hi : i = hN D
      · rw [hi, hnew, hold, hsk]
      · rw [hsame i hi]
  · rw [ew] at hw2
    rw [nf _ _ (by omega), nf _ _ (by omega), nf _ _ (by omega), adH_no (by decide) (by decide) (by decide), adH_no (by decide) (by decide) (by decide), adH_no (by decide) (by decide) (by decide)]
    exact hw w hw2
  · rw [hH] at hi
    rw [m1, m2]
    by_cases hin : i = hN D
    · rw [if_pos hin, if_pos hin, hin, at1.1, at1.2.1]; exact ⟨rfl, rfl⟩
    · have := adH_lo (D := D) (p := p) (a := a) (b := b) (c := c) (d := d) (i := i) (by omega)
      rw [if_neg hin, if_neg hin, this.1, this.2.1]
      exact he i (by omega)
  · rw [nf _ _ (by omega)]
    refine Eq.trans hf (mk_eq (fun i _ => ?_))
    unfold newP newB
    rw [adH_no (by decide) (by decide) (by decide)]
theorem RD5.addW {M N D : MM} (h : RD5 M D) (hd : WFd D) (a b c : Int) (n0 : N 5 5 = (wN D : Int) + 1) (n5 : ∀ i, N 10 i = if i = wN D then a else M 10 i) (n6 : ∀ i, N 11 i = if i = wN D then b else M 11 i) (n7 : ∀ i, N 12 i = if i = wN D then c else M 12 i)
    (nf : ∀ k j, (6 ≤ k ∧ k ≤ 9) ∨ (k = 5 ∧ j ≠ 5) ∨ (13 ≤ k ∧ k ≤ 15) → N k j = M k j) : RD5 N (adW D a b c) := by
  have hW := adW_W hd a b c
  have hWD := hd.W
  have eh : hN (adW D a b c) = hN D := by unfold hN; rw [adW_no (by decide) (by decide)]
  have at1 := adW_at (D := D) (a := a) (b := b) (c := c)
  obtain ⟨⟨a1, a2, a3, a4, a5⟩, hb, hc, hw, he, hf⟩ := h
  refine ⟨⟨?_, ?_, ?_, ?_, ?_⟩, fun i hi => ?_, fun s hs => ?_, fun w hw2 => ?_, fun i hi => ?_, ?_⟩
  · rw [adW_no (by decide) (by decide), nf _ _ (by omega)]; exact a1
  · rw [adW_no (by decide) (by decide), nf _ _ (by omega)]; exact a2
  · rw [adW_no (by decide) (by decide), nf _ _ (by omega)]; exact a3
  · rw [n0]; unfold adW; rw [ms_eq, hWD.1]
  · rw [adW_no (by decide) (by decide), nf _ _ (by omega)]; exact a5
  · rw [eh] at hi
    rw [nf _ _ (by omega), nf _ _ (by omega), adW_no (by decide) (by decide), adW_no (by decide) (by decide)]
    exact hb i hi
  · rw [nf _ _ (by omega)]
    refine Eq.trans (hc s hs) (mk_eq (fun i _ => ?_))
    unfold skP skB
    rw [eh, adW_no (by decide) (by decide)]
  · rw [hW] at hw2
    rw [n5, n6, n7]
    by_cases hin : w = wN D
    · rw [if_pos hin, if_pos hin, if_pos hin, hin, at1.1, at1.2.1, at1.2.2]; exact ⟨rfl, rfl, rfl⟩
    · have := adW_lo (D := D) (a := a) (b := b) (c := c) (i := w) (by omega)
      rw [if_neg hin, if_neg hin, if_neg hin, this.1, this.2.1, this.2.2]
      exact hw w (by omega)
  · rw [eh] at hi
    rw [nf _ _ (by omega), nf _ _ (by omega), adW_no (by decide) (by decide), adW_no (by decide) (by decide)]
    exact he i hi
  · rw [nf _ _ (by omega)]
    refine Eq.trans hf (mk_eq (fun i _ => ?_))
    unfold newP newB
    rw [adW_no (by decide) (by decide)]
theorem x_addHouse18 (H : Nat) (sk st : Int) (M : MM) (hH : M 18 1 = H) (h10 : H < 10) (hsk : 0 ≤ sk ∧ sk ≤ 31) : oV 1 29 [vR 18, vI sk, vI st] M (mset (adT (mset (mset M 20 H sk) 21 H st) 22 H sk 5) 18 1 ((H : Int) + 1)) := by
  obtain ⟨a, rfl⟩ : ∃ a : Nat, sk = (a : Int) := ⟨sk.toNat, by omega⟩
  refine go29 (fun S hS => ?_)
  have head : ∀ (m s : Nat), s + m = 5 → S 32 [some (vR 18), some (vI a), some (vI st), some (vI s)] [] (sh0, 0, 0) (adT (mset (mset M 20 H a) 21 H st) 22 H a s) := by
    intro m
    induction m with
    | zero =>
      intro s hs
      have hs5 : s = 5 := by omega
      have e1 : adT (mset (mset M 20 H a) 21 H st) 22 H a s 18 1 = H := by unfold adT; rw [if_neg (by omega)]; exact hH
      refine wpx_ok hS bk29 (sp := sp29) 60 32 _ _ _ _ ?_
      simp only [LCM, B2, Bool.not_eq_false, Bool.not_eq_true, decide_eq_true_eq, decide_eq_false_iff_not, Int.not_lt, Int.not_le, CST, TN, WX, WA, WB, GS, LOC, BT29, SP29, CLS, FLD, ARR, CD, true_and, and_true, and_self, forall_const, true_implies, false_implies, implies_true, not_true_eq_false, not_false_eq_true, if_true, if_false, rgI, rgL, scr, swl, lkl, cats, cat, is2, List.drop_succ_cons, List.drop_zero, List.drop_nil, List.cons_append, List.nil_append, Option.toList_some, Option.toList_none, List.length_cons, List.length_nil, ne_eq, Classical.not_not, reduceCtorEq, Nat.reduceAdd, Nat.reduceSub, Nat.reduceMul, Nat.reduceLT, Nat.reduceLeDiff, Nat.reduceEqDiff, Nat.reduceBEq, Int.reduceToNat, Int.reduceLE, Int.reduceLT, Int.reduceEq, Int.reduceNeg, Int.reduceAdd, Int.reduceSub, Int.reduceMul, Int.toNat_natCast, Nat.zero_add, Int.add_zero, Nat.add_zero, ite_true, ite_false, Option.some.injEq, Nat.le_refl, or_true, true_or, or_false, false_or, if_pos, reduceIte, Nat.reduceGT]
      rw [e1]
      refine ⟨by omega, fun _ => rt29 (Nat.le_refl _) (Nat.le_refl _) ⟨rfl, rfl, by rw [hs5]⟩, fun h => by omega⟩
    | succ m ih =>
      intro s hs
      have e1 : adT (mset (mset M 20 H a) 21 H st) 22 H a s 18 1 = H := by unfold adT; rw [if_neg (by omega)]; exact hH
      have nx := ih (s + 1) (by omega)
      have hst := adT_step (mset (mset M 20 H a) 21 H st) 22 H a s
      have hbit := sk_bit (a := a) (by omega) (s := s) (by omega)
      have hr : rgI (bAnd (a : Int) (bShl 1 (s : Int))) := bAnd_rg _ _
      refine wpx_ok hS bk29 (sp := sp29) 60 32 _ _ _ _ ?_
      simp only [LCM, B2, Bool.not_eq_false, Bool.not_eq_true, decide_eq_true_eq, decide_eq_false_iff_not, Int.not_lt, Int.not_le, CST, TN, WX, WA, WB, GS, LOC, BT29, SP29, CLS, FLD, ARR, CD, true_and, and_true, and_self, forall_const, true_implies, false_implies, implies_true, not_true_eq_false, not_false_eq_true, if_true, if_false, rgI, rgL, scr, swl, lkl, cats, cat, is2, List.drop_succ_cons, List.drop_zero, List.drop_nil, List.cons_append, List.nil_append, Option.toList_some, Option.toList_none, List.length_cons, List.length_nil, ne_eq, Classical.not_not, reduceCtorEq, Nat.reduceAdd, Nat.reduceSub, Nat.reduceMul, Nat.reduceLT, Nat.reduceLeDiff, Nat.reduceEqDiff, Nat.reduceBEq, Int.reduceToNat, Int.reduceLE, Int.reduceLT, Int.reduceEq, Int.reduceNeg, Int.reduceAdd, Int.reduceSub, Int.reduceMul, Int.toNat_natCast, Nat.zero_add, Int.add_zero, Nat.add_zero, ite_true, ite_false, Option.some.injEq, Nat.le_refl, or_true, true_or, or_false, false_or, if_pos, reduceIte, Nat.reduceGT]
      rw [e1]
      refine ⟨by omega, fun h => by omega, fun h => ⟨hr, fun h1 => ?_, fun h1 => ⟨by omega, by omega, ?_⟩⟩⟩
      · rw [hst.2 (by unfold skO; exact decide_eq_false (hbit.mp h1))]
        exact nx
      · rw [hst.1 (by unfold skO; exact decide_eq_true (Classical.not_not.mp (fun z => h1 (hbit.mpr z))))]
        exact nx
  have e0 : adT (mset (mset M 20 H a) 21 H st) 22 H a 0 = mset (mset M 20 H a) 21 H st := by
    funext k j
    unfold adT
    rw [if_neg (by omega)]
  have h0 := head 5 0 (by omega)
  rw [e0] at h0
  refine wpx_ok hS bk29 (sp := sp29) 60 0 _ _ _ _ ?_
  simp only [LCM, B2, Bool.not_eq_false, Bool.not_eq_true, decide_eq_true_eq, decide_eq_false_iff_not, Int.not_lt, Int.not_le, CST, TN, WX, WA, WB, GS, LOC, BT29, SP29, CLS, FLD, ARR, CD, true_and, and_true, and_self, forall_const, true_implies, false_implies, implies_true, not_true_eq_false, not_false_eq_true, if_true, if_false, rgI, rgL, scr, swl, lkl, cats, cat, is2, List.drop_succ_cons, List.drop_zero, List.drop_nil, List.cons_append, List.nil_append, Option.toList_some, Option.toList_none, List.length_cons, List.length_nil, ne_eq, Classical.not_not, reduceCtorEq, Nat.reduceAdd, Nat.reduceSub, Nat.reduceMul, Nat.reduceLT, Nat.reduceLeDiff, Nat.reduceEqDiff, Nat.reduceBEq, Int.reduceToNat, Int.reduceLE, Int.reduceLT, Int.reduceEq, Int.reduceNeg, Int.reduceAdd, Int.reduceSub, Int.reduceMul, Int.toNat_natCast, Nat.zero_add, Int.add_zero, Nat.add_zero, ite_true, ite_false, Option.some.injEq, Nat.le_refl, or_true, true_or, or_false, false_or, if_pos, reduceIte, Nat.reduceGT, ms_ne, ms_eq, ms_nj]
  rw [hH]
  simp only [Int.toNat_natCast]
  exact ⟨by omega, fun _ => ⟨by omega, by omega, h0⟩, fun h => by omega⟩
theorem x_addWork18 (W : Nat) (a b c : Int) (M : MM) (hW : M 18 5 = W) (h6 : W < 6) : oV 1 30 [vR 18, vI a, vI b, vI c] M (mset (mset (mset (mset M 23 W a) 24 W b) 25 W c) 18 5 ((W : Int) + 1)) := by
  refine go30 (fun S hS => ?_)
  refine wpx_ok hS bk30 (sp := sp30) 60 0 _ _ _ _ ?_
  simp only [LCM, B2, Bool.not_eq_false, Bool.not_eq_true, decide_eq_true_eq, decide_eq_false_iff_not, Int.not_lt, Int.not_le, CST, TN, WX, WA, WB, GS, LOC, BT30, SP30, CLS, FLD, ARR, CD, true_and, and_true, and_self, forall_const, true_implies, false_implies, implies_true, not_true_eq_false, not_false_eq_true, if_true, if_false, rgI, rgL, scr, swl, lkl, cats, cat, is2, List.drop_succ_cons, List.drop_zero, List.drop_nil, List.cons_append, List.nil_append, Option.toList_some, Option.toList_none, List.length_cons, List.length_nil, ne_eq, Classical.not_not, reduceCtorEq, Nat.reduceAdd, Nat.reduceSub, Nat.reduceMul, Nat.reduceLT, Nat.reduceLeDiff, Nat.reduceEqDiff, Nat.reduceBEq, Int.reduceToNat, Int.reduceLE, Int.reduceLT, Int.reduceEq, Int.reduceNeg, Int.reduceAdd, Int.reduceSub, Int.reduceMul, Int.toNat_natCast, Nat.zero_add, Int.add_zero, Nat.add_zero, ite_true, ite_false, Option.some.injEq, Nat.le_refl, or_true, true_or, or_false, false_or, if_pos, reduceIte, Nat.reduceGT, ms_ne, ms_eq, ms_nj]
  rw [hW]
  simp only [Int.toNat_natCast]
  exact ⟨by omega, fun _ => ⟨by omega, by omega, by omega, rt30 (Nat.le_refl _) (Nat.le_refl _) ⟨rfl, rfl, rfl⟩⟩, fun h => by omega⟩
theorem RD18.addH {M N D : MM} (h : RD18 M D) (hd : WFd D) (hlt : hN D < 10) (p : Nat) (a b c d : Int) (n0 : N 18 1 = (hN D : Int) + 1) (n2 : ∀ i, N 20 i = if i = hN D then c else M 20 i) (n3 : ∀ i, N 21 i = if i = hN D then d else M 21 i) (m1 : ∀ i, N 27 i = if i = hN D then a else M 27 i) (m2 : ∀ i, N 28 i = if i = hN D then b else M 28 i)
    (n4 : ∀ s, s < 5 → N 22 s = if skO c s then bOr (M 22 s) (bShl 1 (hN D : Int)) else M 22 s) (nf : ∀ k j, k = 19 ∨ (k = 18 ∧ j ≠ 1) ∨ (23 ≤ k ∧ k ≤ 25) ∨ k = 26 → N k j = M k j) : RD18 N (adH D p a b c d) := by
  have hH := adH_H hd p a b c d
  have hHD := hd.H
  have ew : wN (adH D p a b c d) = wN D := by unfold wN; rw [adH_no (by decide) (by decide) (by decide)]
  have at1 := adH_at (D := D) (p := p) (a := a) (b := b) (c := c) (d := d)
  obtain ⟨⟨a1, a2, a3, a4, a5⟩, hb, hc, hw, he, hf⟩ := h
  refine ⟨⟨?_, ?_, ?_, ?_, ?_⟩, fun i hi => ?_, fun s hs => ?_, fun w hw2 => ?_, fun i hi => ?_, ?_⟩
  · rw [adH_no (by decide) (by decide) (by decide), nf _ _ (by omega)]; exact a1
  · rw [adH_no (by decide) (by decide) (by decide), nf _ _ (by omega)]; exact a2
  · rw [n0]; unfold adH; rw [ms_eq, hHD.1]
  · rw [adH_no (by decide) (by decide) (by decide), nf _ _ (by omega)]; exact a4
  · rw [adH_no (by decide) (by decide) (by decide), nf _ _ (by omega)]; exact a5
  · rw [hH] at hi
    rw [n2, n3]
    by_cases hin : i = hN D
    · rw [if_pos hin, if_pos hin, hin, at1.2.2.1, at1.2.2.2.1]; exact ⟨rfl, rfl⟩
    · have := adH_lo (D := D) (p := p) (a := a) (b := b) (c := c) (d := d) (i := i) (by omega)
      rw [if_neg hin, if_neg hin, this.2.2.1, this.2.2.2.1]
      exact hb i (by omega)
  · have e4 := hc s hs
    have hsame : ∀ i, i ≠ hN D → skP (adH D p a b c d) s i = skP D s i := by
      intro i hi
      unfold skP skB
      rw [hH]
      by_cases hil : i < hN D
      · rw [(adH_lo (D := D) (p := p) (a := a) (b := b) (c := c) (d := d) hil).2.2.1, decide_eq_true hil, decide_eq_true (show i < hN D + 1 by omega)]
      · rw [decide_eq_false hil, decide_eq_false (show ¬ i < hN D + 1 by omega), Bool.false_and, Bool.false_and]
    have hnew : skP (adH D p a b c d) s (hN D) = skO c s := by
      unfold skP skB skO
      rw [hH, at1.2.2.1, decide_eq_true (show hN D < hN D + 1 by omega), Bool.true_and]
    have hold : skP D s (hN D) = false := by unfold skP; rw [decide_eq_false (Nat.lt_irrefl _), Bool.false_and]
    rw [n4 s hs, e4]
    cases hsk : skO c s with
    | true =>
      rw [if_pos rfl, mk_put hlt]
      refine mk_eq (fun i _ => ?_)
      by_cases hi : i = hN D
      · rw [hi, hnew, hsk]; simp
      · rw [hsame i hi, beq_eq_false_iff_ne.mpr hi, Bool.or_false]
    | false =>
      rw [if_neg (by decide)]
      refine mk_eq (fun i _ => ?_)
      by_cases hi : i = hN D
      · rw [hi, hnew, hold, hsk]
      · rw [hsame i hi]
  · rw [ew] at hw2
    rw [nf _ _ (by omega), nf _ _ (by omega), nf _ _ (by omega), adH_no (by decide) (by decide) (by decide), adH_no (by decide) (by decide) (by decide), adH_no (by decide) (by decide) (by decide)]
    exact hw w hw2
  · rw [hH] at hi
    rw [m1, m2]
    by_cases hin : i = hN D
    · rw [if_pos hin, if_pos hin, hin, at1.1, at1.2.1]; exact ⟨rfl, rfl⟩
    · have := adH_lo (D := D) (p := p) (a := a) (b := b) (c := c) (d := d) (i := i) (by omega)
      rw [if_neg hin, if_neg hin, this.1, this.2.1]
      exact he i (by omega)
  · rw [nf _ _ (by omega)]
    refine Eq.trans hf (mk_eq (fun i _ => ?_))
    unfold newP newB
    rw [adH_no (by decide) (by decide) (by decide)]
theorem RD18.addW {M N D : MM} (h : RD18 M D) (hd : WFd D) (a b c : Int) (n0 : N 18 5 = (wN D : Int) + 1) (n5 : ∀ i, N 23 i = if i = wN D then a else M 23 i) (n6 : ∀ i, N 24 i = if i = wN D then b else M 24 i) (n7 : ∀ i, N 25 i = if i = wN D then c else M 25 i)
    (nf : ∀ k j, (19 ≤ k ∧ k ≤ 22) ∨ (k = 18 ∧ j ≠ 5) ∨ (26 ≤ k ∧ k ≤ 28) → N k j = M k j) : RD18 N (adW D a b c) := by
  have hW := adW_W hd a b c
  have hWD := hd.W
  have eh : hN (adW D a b c) = hN D := by unfold hN; rw [adW_no (by decide) (by decide)]
  have at1 := adW_at (D := D) (a := a) (b := b) (c := c)
  obtain ⟨⟨a1, a2, a3, a4, a5⟩, hb, hc, hw, he, hf⟩ := h
  refine ⟨⟨?_, ?_, ?_, ?_, ?_⟩, fun i hi => ?_, fun s hs => ?_, fun w hw2 => ?_, fun i hi => ?_, ?_⟩
  · rw [adW_no (by decide) (by decide), nf _ _ (by omega)]; exact a1
  · rw [adW_no (by decide) (by decide), nf _ _ (by omega)]; exact a2
  · rw [adW_no (by decide) (by decide), nf _ _ (by omega)]; exact a3
  · rw [n0]; unfold adW; rw [ms_eq, hWD.1]
  · rw [adW_no (by decide) (by decide), nf _ _ (by omega)]; exact a5
  · rw [eh] at hi
    rw [nf _ _ (by omega), nf _ _ (by omega), adW_no (by decide) (by decide), adW_no (by decide) (by decide)]
    exact hb i hi
  · rw [nf _ _ (by omega)]
    refine Eq.trans (hc s hs) (mk_eq (fun i _ => ?_))
    unfold skP skB
    rw [eh, adW_no (by decide) (by decide)]
  · rw [hW] at hw2
    rw [n5, n6, n7]
    by_cases hin : w = wN D
    · rw [if_pos hin, if_pos hin, if_pos hin, hin, at1.1, at1.2.1, at1.2.2]; exact ⟨rfl, rfl, rfl⟩
    · have := adW_lo (D := D) (a := a) (b := b) (c := c) (i := w) (by omega)
      rw [if_neg hin, if_neg hin, if_neg hin, this.1, this.2.1, this.2.2]
      exact hw w (by omega)
  · rw [eh] at hi
    rw [nf _ _ (by omega), nf _ _ (by omega), adW_no (by decide) (by decide), adW_no (by decide) (by decide)]
    exact he i hi
  · rw [nf _ _ (by omega)]
    refine Eq.trans hf (mk_eq (fun i _ => ?_))
    unfold newP newB
    rw [adW_no (by decide) (by decide)]

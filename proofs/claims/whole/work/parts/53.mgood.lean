/-! the model takes an item -/
theorem T4 : (∀ i : Nat, (40 + 4 * (i : Int)).toNat = 40 + 4 * i) ∧ (∀ i : Nat, (40 + 4 * (i : Int) + 1).toNat = 40 + 4 * i + 1) ∧ (∀ i : Nat, (40 + 4 * (i : Int) + 2).toNat = 40 + 4 * i + 2) ∧ (∀ i : Nat, (40 + 4 * (i : Int) + 3).toNat = 40 + 4 * i + 3) ∧ (∀ i : Nat, (18 + 3 * (i : Int)).toNat = 18 + 3 * i) ∧ (∀ i : Nat, (18 + 3 * (i : Int) + 1).toNat = 18 + 3 * i + 1) ∧ (∀ i : Nat, (18 + 3 * (i : Int) + 2).toNat = 18 + 3 * i + 2) := by
  refine ⟨?_, ?_, ?_, ?_, ?_, ?_, ?_⟩ <;> intros <;> omega
theorem DM.addH {M D : MM} (h : DM M D) (hd : WFd D) (p : Nat) (a b c d : Int) : DM (mset (mset (mset (mset (mset (mset M 61 (40 + 4 * hN D) a) 61 (40 + 4 * hN D + 1) b) 61 (40 + 4 * hN D + 2) c) 61 (40 + 4 * hN D + 3) d) 62 (hN D) p) 58 1 (D 58 0 + 1)) (adH D p a b c d) := by
  obtain ⟨⟨a1, a2, a3, a4, a5⟩, hb, hc, hd2⟩ := h
  have hH := adH_H hd p a b c d
  have ew : wN (adH D p a b c d) = wN D := by unfold wN; rw [adH_no (by decide) (by decide) (by decide)]
  refine ⟨⟨?_, ?_, ?_, ?_, ?_⟩, fun i hi => ?_, fun w hw => ?_, fun i hi => ?_⟩
  · rw [adH_no (by decide) (by decide) (by decide)]; exact a1
  · rw [adH_no (by decide) (by decide) (by decide)]; exact a2
  · rw [ms_eq]; unfold adH; rw [ms_eq]
  · rw [adH_no (by decide) (by decide) (by decide)]; exact a4
  · rw [adH_no (by decide) (by decide) (by decide)]; exact a5
  · rw [hH] at hi
    by_cases hin : i = hN D
    · subst hin
      have := adH_at (D := D) (p := p) (a := a) (b := b) (c := c) (d := d)
      rw [this.1, this.2.1, this.2.2.1, this.2.2.2.1, this.2.2.2.2]
      unfold mset
      simp
    · have := adH_lo (D := D) (p := p) (a := a) (b := b) (c := c) (d := d) (i := i) (by omega)
      rw [this.1, this.2.1, this.2.2.1, this.2.2.2.1, this.2.2.2.2]
      have := hb i (by omega)
      unfold mset
      simp only [Nat.reduceEqDiff, false_and, if_false, true_and]
      rw [if_neg (by omega), if_neg (by omega), if_neg (by omega), if_neg (by omega), if_neg (by omega), if_neg (by omega), if_neg (by omega), if_neg (by omega), if_neg (by omega), if_neg (by omega), if_neg (by omega), if_neg (by omega), if_neg (by omega), if_neg (by omega), if_neg (by omega), if_neg (by omega), if_neg (by omega)]
      exact this
  · rw [ew] at hw
    rw [adH_no (by decide) (by decide) (by decide), adH_no (by decide) (by decide) (by decide), adH_no (by decide) (by decide) (by decide)]
    exact hc w hw
  · rw [adH_no (by decide) (by decide) (by decide)]; exact hd2 i hi
theorem DM.addW {M D : MM} (h : DM M D) (hd : WFd D) (a b c : Int) : DM (mset (mset (mset (mset M 63 (18 + 3 * wN D) a) 63 (18 + 3 * wN D + 1) b) 63 (18 + 3 * wN D + 2) c) 59 1 (D 59 0 + 1)) (adW D a b c) := by
  obtain ⟨⟨a1, a2, a3, a4, a5⟩, hb, hc, hd2⟩ := h
  have hW := adW_W hd a b c
  have eh : hN (adW D a b c) = hN D := by unfold hN; rw [adW_no (by decide) (by decide)]
  refine ⟨⟨?_, ?_, ?_, ?_, ?_⟩, fun i hi => ?_, fun w hw => ?_, fun i hi => ?_⟩
  · rw [adW_no (by decide) (by decide)]; exact a1
  · rw [adW_no (by decide) (by decide)]; exact a2
  · rw [adW_no (by decide) (by decide)]; exact a3
  · rw [ms_eq]; unfold adW; rw [ms_eq]
  · rw [adW_no (by decide) (by decide)]; exact a5
  · rw [eh] at hi
    rw [adW_no (by decide) (by decide), adW_no (by decide) (by decide), adW_no (by decide) (by decide), adW_no (by decide) (by decide), adW_no (by decide) (by decide)]
    exact hb i hi
  · rw [hW] at hw
    by_cases hin : w = wN D
    · subst hin
      have := adW_at (D := D) (a := a) (b := b) (c := c)
      rw [this.1, this.2.1, this.2.2]
      unfold mset
      simp
    · have := adW_lo (D := D) (a := a) (b := b) (c := c) (i := w) (by omega)
      rw [this.1, this.2.1, this.2.2]
      have := hc w (by omega)
      unfold mset
      simp only [Nat.reduceEqDiff, false_and, if_false, true_and]
      rw [if_neg (by omega), if_neg (by omega), if_neg (by omega), if_neg (by omega), if_neg (by omega), if_neg (by omega), if_neg (by omega), if_neg (by omega), if_neg (by omega)]
      exact this
  · rw [adW_no (by decide) (by decide)]; exact hd2 i hi
theorem DM.wk {M D : MM} (h : DM M D) (a b : Int) : DM (mset (mset M 57 2 a) 57 3 b) (mset (mset D 57 0 a) 57 1 b) := by
  obtain ⟨⟨a1, a2, a3, a4, a5⟩, hb, hc, hd⟩ := h
  exact ⟨⟨rfl, rfl, a3, a4, a5⟩, fun i hi => hb i hi, fun w hw => hc w hw, fun i hi => hd i hi⟩
theorem DM.ck {M D : MM} (h : DM M D) (a : Int) : DM (mset M 60 1 a) (mset D 60 0 a) := by
  obtain ⟨⟨a1, a2, a3, a4, a5⟩, hb, hc, hd⟩ := h
  exact ⟨⟨a1, a2, a3, a4, rfl⟩, fun i hi => hb i hi, fun w hw => hc w hw, fun i hi => hd i hi⟩
theorem DM.nw {M D : MM} (h : DM M D) (a : Nat) : DM (mset M 64 (10 + a) 1) (mset D 64 a 1) := by
  obtain ⟨a1, hb, hc, hd⟩ := h
  refine ⟨a1, fun i hi => hb i hi, fun w hw => hc w hw, fun i hi => ?_⟩
  by_cases hia : i = a
  · subst hia; rw [ms_eq, ms_eq]
  · rw [ms_nj (by omega), ms_nj hia]; exact hd i hi
/-- nothing new from x on, of the first n -/
def risB (D : MM) (x : Int) (n : Nat) : Bool := decide (∀ i : Nat, i < n → x ≤ (i : Int) → newB D i = false)
theorem risB_step (D : MM) (x : Int) (n : Nat) : risB D x (n + 1) = (risB D x n && !(newB D n && decide (x ≤ (n : Int)))) := by
  apply Bool.eq_iff_iff.mpr
  unfold risB
  rw [decide_eq_true_iff, Bool.and_eq_true, decide_eq_true_iff]
  constructor
  · intro h
    refine ⟨fun i h1 h2 => h i (by omega) h2, ?_⟩
    by_cases hx : x ≤ (n : Int)
    · rw [h n (by omega) hx]; rfl
    · rw [decide_eq_false hx]; simp
  · rintro ⟨h1, h2⟩ i hi hx
    by_cases hin : i = n
    · subst hin
      rw [decide_eq_true hx] at h2
      simpa using h2
    · exact h1 i (by omega) hx
def gdP (M D : MM) (l : Int) (p : Nat) (v : Nat → Int) : Option AV → MM → Prop := fun r M' => r = some (Sum.inl (b2i (tk D l p v).isSome)) ∧ (∀ D', tk D l p v = some D' → DM M' D') ∧ ∀ k j, ¬ drf k j → M' k j = M k j
theorem m_goodW (p : Nat) (v : Nat → Int) (M D : MM) (hm : DM M D) (hv : ∀ k, k < 2 → M 78 k = v k ∧ 0 ≤ v k ∧ v k ≤ 99) : oQ 2 108 [vR 55, vI 119, vI p] M (gdP M D 119 p v) := by
  have v0 := hv 0 (by decide)
  have v1 := hv 1 (by decide)
  have ht : tk D 119 p v = tkW D v := by unfold tk; rw [if_pos rfl]
  have fr : ∀ k j, ¬ drf k j → mset (mset M 57 2 (v 0)) 57 3 (v 1) k j = M k j := fun k j hk => by
    unfold drf at hk
    unfold mset
    rw [if_neg (by omega), if_neg (by omega)]
  have no : ¬ ((2 ≤ v 0 ∧ v 0 ≤ 12) ∧ (2 ≤ v 1 ∧ v 1 ≤ 12)) → Rtn 108 0 0 (fun r sh M' => sh = sh0 ∧ gdP M D 119 p v r M') (some (Sum.inl 0)) (sh0, 0, 0) (mset (mset M 57 2 (v 0)) 57 3 (v 1)) := fun h => by
    have hn : tkW D v = none := by unfold tkW; rw [if_neg h]
    exact rt108 (by decide) ⟨rfl, by rw [ht, hn]; rfl, fun D' hD => (by rw [ht, hn] at hD; cases hD), fr⟩
  refine go108 (fun S hS => ?_)
  refine wpx_ok hS bk108 (sp := sp108) 60 0 _ _ _ _ ?_
  simp only [LCM, B2, Bool.not_eq_false, Bool.not_eq_true, decide_eq_true_eq, decide_eq_false_iff_not, Int.not_lt, Int.not_le, CST, TN, WX, WA, WB, GS, LOC, BT108, SP108, CLS, FLD, ARR, CD, true_and, and_true, and_self, forall_const, true_implies, false_implies, implies_true, not_true_eq_false, not_false_eq_true, if_true, if_false, rgI, rgL, scr, swl, lkl, cats, cat, is2, List.drop_succ_cons, List.drop_zero, List.drop_nil, List.cons_append, List.nil_append, Option.toList_some, Option.toList_none, List.length_cons, List.length_nil, ne_eq, Classical.not_not, reduceCtorEq, Nat.reduceAdd, Nat.reduceSub, Nat.reduceMul, Nat.reduceLT, Nat.reduceLeDiff, Nat.reduceEqDiff, Nat.reduceBEq, Int.reduceToNat, Int.reduceLE, Int.reduceLT, Int.reduceEq, Int.reduceNeg, Int.reduceAdd, Int.reduceSub, Int.reduceMul, Int.toNat_natCast, Nat.zero_add, Int.add_zero, Nat.add_zero, ite_true, ite_false, Option.some.injEq, Nat.le_refl, or_true, true_or, or_false, false_or, if_pos, reduceIte, Nat.reduceGT, ms_ne, ms_eq, ms_nj]
  rw [v0.1, v1.1]
  refine ⟨by omega, ?_⟩
  refine kI (c_in (v 0) 2 12 _ (by unfold rgL; omega) (by unfold rgL; omega) (by unfold rgL; omega)) (Nat.le_of_ble_eq_true rfl) rfl rfl (Nat.le_of_ble_eq_true rfl) (Nat.le_of_ble_eq_true rfl) rfl ?_
  refine wpx_ok hS bk108 (sp := sp108) 60 46 _ _ _ _ ?_
  simp only [LCM, B2, Bool.not_eq_false, Bool.not_eq_true, decide_eq_true_eq, decide_eq_false_iff_not, Int.not_lt, Int.not_le, CST, TN, WX, WA, WB, GS, LOC, BT108, SP108, CLS, FLD, ARR, CD, true_and, and_true, and_self, forall_const, true_implies, false_implies, implies_true, not_true_eq_false, not_false_eq_true, if_true, if_false, rgI, rgL, scr, swl, lkl, cats, cat, is2, List.drop_succ_cons, List.drop_zero, List.drop_nil, List.cons_append, List.nil_append, Option.toList_some, Option.toList_none, List.length_cons, List.length_nil, ne_eq, Classical.not_not, reduceCtorEq, Nat.reduceAdd, Nat.reduceSub, Nat.reduceMul, Nat.reduceLT, Nat.reduceLeDiff, Nat.reduceEqDiff, Nat.reduceBEq, Int.reduceToNat, Int.reduceLE, Int.reduceLT, Int.reduceEq, Int.reduceNeg, Int.reduceAdd, Int.reduceSub, Int.reduceMul, Int.toNat_natCast, Nat.zero_add, Int.add_zero, Nat.add_zero, ite_true, ite_false, Option.some.injEq, Nat.le_refl, or_true, true_or, or_false, false_or, if_pos, reduceIte, Nat.reduceGT, ms_ne, ms_eq, ms_nj]
  rw [v1.1]
  refine ⟨fun h => no (fun z => h z.1), fun h => ⟨by omega, ?_⟩⟩
  refine kI (c_in (v 1) 2 12 _ (by unfold rgL; omega) (by unfold rgL; omega) (by unfold rgL; omega)) (Nat.le_of_ble_eq_true rfl) rfl rfl (Nat.le_of_ble_eq_true rfl) (Nat.le_of_ble_eq_true rfl) rfl ?_
  refine wpx_ok hS bk108 (sp := sp108) 60 65 _ _ _ _ ?_
  simp only [LCM, B2, Bool.not_eq_false, Bool.not_eq_true, decide_eq_true_eq, decide_eq_false_iff_not, Int.not_lt, Int.not_le, CST, TN, WX, WA, WB, GS, LOC, BT108, SP108, CLS, FLD, ARR, CD, true_and, and_true, and_self, forall_const, true_implies, false_implies, implies_true, not_true_eq_false, not_false_eq_true, if_true, if_false, rgI, rgL, scr, swl, lkl, cats, cat, is2, List.drop_succ_cons, List.drop_zero, List.drop_nil, List.cons_append, List.nil_append, Option.toList_some, Option.toList_none, List.length_cons, List.length_nil, ne_eq, Classical.not_not, reduceCtorEq, Nat.reduceAdd, Nat.reduceSub, Nat.reduceMul, Nat.reduceLT, Nat.reduceLeDiff, Nat.reduceEqDiff, Nat.reduceBEq, Int.reduceToNat, Int.reduceLE, Int.reduceLT, Int.reduceEq, Int.reduceNeg, Int.reduceAdd, Int.reduceSub, Int.reduceMul, Int.toNat_natCast, Nat.zero_add, Int.add_zero, Nat.add_zero, ite_true, ite_false, Option.some.injEq, Nat.le_refl, or_true, true_or, or_false, false_or, if_pos, reduceIte, Nat.reduceGT, ms_ne, ms_eq, ms_nj]
  refine ⟨fun h1 => no (fun z => h1 z.2), fun h1 => ?_⟩
  have hs : tkW D v = some (mset (mset D 57 0 (v 0)) 57 1 (v 1)) := by unfold tkW; rw [if_pos ⟨h, h1⟩]
  refine rt108 (by decide) ⟨rfl, by rw [ht, hs]; rfl, fun D' hD => ?_, fr⟩
  rw [ht, hs] at hD
  cases hD
  exact hm.wk _ _
theorem m_goodH (p : Nat) (v : Nat → Int) (M D : MM) (hd : WFd D) (hm : DM M D) (hv : ∀ k, k < 4 → M 78 k = v k ∧ 0 ≤ v k ∧ v k ≤ 99) : oQ 2 108 [vR 55, vI 104, vI p] M (gdP M D 104 p v) := by
  have v0 := hv 0 (by decide)
  have v1 := hv 1 (by decide)
  have v2 := hv 2 (by decide)
  have v3 := hv 3 (by decide)
  have hH := hd.H
  have e58 : M 58 1 = (hN D : Int) := by rw [hm.1.2.2.1, hH.1]
  have ht : tk D 104 p v = tkH D p v := by unfold tk; rw [if_neg (by decide), if_pos rfl]
  have no : ¬ ((v 0 ≤ 1 ∧ v 2 ≤ 31 ∧ v 3 ≤ 3) ∧ D 58 0 ≠ 10) → Rtn 108 0 0 (fun r sh M' => sh = sh0 ∧ gdP M D 104 p v r M') (some (Sum.inl 0)) (sh0, 0, 0) M := fun h => by
    have hn : tkH D p v = none := by unfold tkH; rw [if_neg h]
    exact rt108 (by decide) ⟨rfl, by rw [ht, hn]; rfl, fun D' hD => (by rw [ht, hn] at hD; cases hD), fun _ _ _ => rfl⟩
  refine go108 (fun S hS => ?_)
  refine wpx_ok hS bk108 (sp := sp108) 60 0 _ _ _ _ ?_
  simp only [LCM, B2, Bool.not_eq_false, Bool.not_eq_true, decide_eq_true_eq, decide_eq_false_iff_not, Int.not_lt, Int.not_le, CST, TN, WX, WA, WB, GS, LOC, BT108, SP108, CLS, FLD, ARR, CD, true_and, and_true, and_self, forall_const, true_implies, false_implies, implies_true, not_true_eq_false, not_false_eq_true, if_true, if_false, rgI, rgL, scr, swl, lkl, cats, cat, is2, List.drop_succ_cons, List.drop_zero, List.drop_nil, List.cons_append, List.nil_append, Option.toList_some, Option.toList_none, List.length_cons, List.length_nil, ne_eq, Classical.not_not, reduceCtorEq, Nat.reduceAdd, Nat.reduceSub, Nat.reduceMul, Nat.reduceLT, Nat.reduceLeDiff, Nat.reduceEqDiff, Nat.reduceBEq, Int.reduceToNat, Int.reduceLE, Int.reduceLT, Int.reduceEq, Int.reduceNeg, Int.reduceAdd, Int.reduceSub, Int.reduceMul, Int.toNat_natCast, Nat.zero_add, Int.add_zero, Nat.add_zero, ite_true, ite_false, Option.some.injEq, Nat.le_refl, or_true, true_or, or_false, false_or, if_pos, reduceIte, Nat.reduceGT, ms_ne, ms_eq, ms_nj]
  rw [v0.1]
  refine ⟨by omega, ?_⟩
  refine kI (c_in (v 0) 0 1 _ (by unfold rgL; omega) (by unfold rgL; omega) (by unfold rgL; omega)) (Nat.le_of_ble_eq_true rfl) rfl rfl (Nat.le_of_ble_eq_true rfl) (Nat.le_of_ble_eq_true rfl) rfl ?_
  refine wpx_ok hS bk108 (sp := sp108) 60 92 _ _ _ _ ?_
  simp only [LCM, B2, Bool.not_eq_false, Bool.not_eq_true, decide_eq_true_eq, decide_eq_false_iff_not, Int.not_lt, Int.not_le, CST, TN, WX, WA, WB, GS, LOC, BT108, SP108, CLS, FLD, ARR, CD, true_and, and_true, and_self, forall_const, true_implies, false_implies, implies_true, not_true_eq_false, not_false_eq_true, if_true, if_false, rgI, rgL, scr, swl, lkl, cats, cat, is2, List.drop_succ_cons, List.drop_zero, List.drop_nil, List.cons_append, List.nil_append, Option.toList_some, Option.toList_none, List.length_cons, List.length_nil, ne_eq, Classical.not_not, reduceCtorEq, Nat.reduceAdd, Nat.reduceSub, Nat.reduceMul, Nat.reduceLT, Nat.reduceLeDiff, Nat.reduceEqDiff, Nat.reduceBEq, Int.reduceToNat, Int.reduceLE, Int.reduceLT, Int.reduceEq, Int.reduceNeg, Int.reduceAdd, Int.reduceSub, Int.reduceMul, Int.toNat_natCast, Nat.zero_add, Int.add_zero, Nat.add_zero, ite_true, ite_false, Option.some.injEq, Nat.le_refl, or_true, true_or, or_false, false_or, if_pos, reduceIte, Nat.reduceGT, ms_ne, ms_eq, ms_nj]
  rw [v2.1]
  refine ⟨fun h => no (by omega), fun h => ⟨by omega, ?_⟩⟩
  refine kI (c_in (v 2) 0 31 _ (by unfold rgL; omega) (by unfold rgL; omega) (by unfold rgL; omega)) (Nat.le_of_ble_eq_true rfl) rfl rfl (Nat.le_of_ble_eq_true rfl) (Nat.le_of_ble_eq_true rfl) rfl ?_
  refine wpx_ok hS bk108 (sp := sp108) 60 109 _ _ _ _ ?_
  simp only [LCM, B2, Bool.not_eq_false, Bool.not_eq_true, decide_eq_true_eq, decide_eq_false_iff_not, Int.not_lt, Int.not_le, CST, TN, WX, WA, WB, GS, LOC, BT108, SP108, CLS, FLD, ARR, CD, true_and, and_true, and_self, forall_const, true_implies, false_implies, implies_true, not_true_eq_false, not_false_eq_true, if_true, if_false, rgI, rgL, scr, swl, lkl, cats, cat, is2, List.drop_succ_cons, List.drop_zero, List.drop_nil, List.cons_append, List.nil_append, Option.toList_some, Option.toList_none, List.length_cons, List.length_nil, ne_eq, Classical.not_not, reduceCtorEq, Nat.reduceAdd, Nat.reduceSub, Nat.reduceMul, Nat.reduceLT, Nat.reduceLeDiff, Nat.reduceEqDiff, Nat.reduceBEq, Int.reduceToNat, Int.reduceLE, Int.reduceLT, Int.reduceEq, Int.reduceNeg, Int.reduceAdd, Int.reduceSub, Int.reduceMul, Int.toNat_natCast, Nat.zero_add, Int.add_zero, Nat.add_zero, ite_true, ite_false, Option.some.injEq, Nat.le_refl, or_true, true_or, or_false, false_or, if_pos, reduceIte, Nat.reduceGT, ms_ne, ms_eq, ms_nj]
  rw [v3.1]
  refine ⟨fun h1 => no (by omega), fun h1 => ⟨by omega, ?_⟩⟩
  refine kI (c_in (v 3) 0 3 _ (by unfold rgL; omega) (by unfold rgL; omega) (by unfold rgL; omega)) (Nat.le_of_ble_eq_true rfl) rfl rfl (Nat.le_of_ble_eq_true rfl) (Nat.le_of_ble_eq_true rfl) rfl ?_
  refine wpx_ok hS bk108 (sp := sp108) 60 126 _ _ _ _ ?_
  simp only [LCM, B2, Bool.not_eq_false, Bool.not_eq_true, decide_eq_true_eq, decide_eq_false_iff_not, Int.not_lt, Int.not_le, CST, TN, WX, WA, WB, GS, LOC, BT108, SP108, CLS, FLD, ARR, CD, true_and, and_true, and_self, forall_const, true_implies, false_implies, implies_true, not_true_eq_false, not_false_eq_true, if_true, if_false, rgI, rgL, scr, swl, lkl, cats, cat, is2, List.drop_succ_cons, List.drop_zero, List.drop_nil, List.cons_append, List.nil_append, Option.toList_some, Option.toList_none, List.length_cons, List.length_nil, ne_eq, Classical.not_not, reduceCtorEq, Nat.reduceAdd, Nat.reduceSub, Nat.reduceMul, Nat.reduceLT, Nat.reduceLeDiff, Nat.reduceEqDiff, Nat.reduceBEq, Int.reduceToNat, Int.reduceLE, Int.reduceLT, Int.reduceEq, Int.reduceNeg, Int.reduceAdd, Int.reduceSub, Int.reduceMul, Int.toNat_natCast, Nat.zero_add, Int.add_zero, Nat.add_zero, ite_true, ite_false, Option.some.injEq, Nat.le_refl, or_true, true_or, or_false, false_or, if_pos, reduceIte, Nat.reduceGT, ms_ne, ms_eq, ms_nj]
  rw [e58]
  refine ⟨fun h2 => no (by omega), fun h2 => ⟨by omega, fun h3 => ?_, fun h3 => no (by omega)⟩⟩
  refine wpx_ok hS bk108 (sp := sp108) 60 144 _ _ _ _ ?_
  simp only [LCM, B2, Bool.not_eq_false, Bool.not_eq_true, decide_eq_true_eq, decide_eq_false_iff_not, Int.not_lt, Int.not_le, CST, TN, WX, WA, WB, GS, LOC, BT108, SP108, CLS, FLD, ARR, CD, true_and, and_true, and_self, forall_const, true_implies, false_implies, implies_true, not_true_eq_false, not_false_eq_true, if_true, if_false, rgI, rgL, scr, swl, lkl, cats, cat, is2, List.drop_succ_cons, List.drop_zero, List.drop_nil, List.cons_append, List.nil_append, Option.toList_some, Option.toList_none, List.length_cons, List.length_nil, ne_eq, Classical.not_not, reduceCtorEq, Nat.reduceAdd, Nat.reduceSub, Nat.reduceMul, Nat.reduceLT, Nat.reduceLeDiff, Nat.reduceEqDiff, Nat.reduceBEq, Int.reduceToNat, Int.reduceLE, Int.reduceLT, Int.reduceEq, Int.reduceNeg, Int.reduceAdd, Int.reduceSub, Int.reduceMul, Int.toNat_natCast, Nat.zero_add, Int.add_zero, Nat.add_zero, ite_true, ite_false, Option.some.injEq, Nat.le_refl, or_true, true_or, or_false, false_or, if_pos, reduceIte, Nat.reduceGT, ms_ne, ms_eq, ms_nj]
  rw [e58, v0.1]
  simp only [T4]
  refine ⟨by omega, ?_⟩
  refine wpx_ok hS bk108 (sp := sp108) 60 144 _ _ _ _ ?_
  simp only [LCM, B2, Bool.not_eq_false, Bool.not_eq_true, decide_eq_true_eq, decide_eq_false_iff_not, Int.not_lt, Int.not_le, CST, TN, WX, WA, WB, GS, LOC, BT108, SP108, CLS, FLD, ARR, CD, true_and, and_true, and_self, forall_const, true_implies, false_implies, implies_true, not_true_eq_false, not_false_eq_true, if_true, if_false, rgI, rgL, scr, swl, lkl, cats, cat, is2, List.drop_succ_cons, List.drop_zero, List.drop_nil, List.cons_append, List.nil_append, Option.toList_some, Option.toList_none, List.length_cons, List.length_nil, ne_eq, Classical.not_not, reduceCtorEq, Nat.reduceAdd, Nat.reduceSub, Nat.reduceMul, Nat.reduceLT, Nat.reduceLeDiff, Nat.reduceEqDiff, Nat.reduceBEq, Int.reduceToNat, Int.reduceLE, Int.reduceLT, Int.reduceEq, Int.reduceNeg, Int.reduceAdd, Int.reduceSub, Int.reduceMul, Int.toNat_natCast, Nat.zero_add, Int.add_zero, Nat.add_zero, ite_true, ite_false, Option.some.injEq, Nat.le_refl, or_true, true_or, or_false, false_or, if_pos, reduceIte, Nat.reduceGT, ms_ne, ms_eq, ms_nj]
  rw [e58, v1.1]
  simp only [T4]
  refine ⟨by omega, ?_⟩
  refine wpx_ok hS bk108 (sp := sp108) 60 144 _ _ _ _ ?_
  simp only [LCM, B2, Bool.not_eq_false, Bool.not_eq_true, decide_eq_true_eq, decide_eq_false_iff_not, Int.not_lt, Int.not_le, CST, TN, WX, WA, WB, GS, LOC, BT108, SP108, CLS, FLD, ARR, CD, true_and, and_true, and_self, forall_const, true_implies, false_implies, implies_true, not_true_eq_false, not_false_eq_true, if_true, if_false, rgI, rgL, scr, swl, lkl, cats, cat, is2, List.drop_succ_cons, List.drop_zero, List.drop_nil, List.cons_append, List.nil_append, Option.toList_some, Option.toList_none, List.length_cons, List.length_nil, ne_eq, Classical.not_not, reduceCtorEq, Nat.reduceAdd, Nat.reduceSub, Nat.reduceMul, Nat.reduceLT, Nat.reduceLeDiff, Nat.reduceEqDiff, Nat.reduceBEq, Int.reduceToNat, Int.reduceLE, Int.reduceLT, Int.reduceEq, Int.reduceNeg, Int.reduceAdd, Int.reduceSub, Int.reduceMul, Int.toNat_natCast, Nat.zero_add, Int.add_zero, Nat.add_zero, ite_true, ite_false, Option.some.injEq, Nat.le_refl, or_true, true_or, or_false, false_or, if_pos, reduceIte, Nat.reduceGT, ms_ne, ms_eq, ms_nj]
  rw [e58, v2.1]
  simp only [T4]
  refine ⟨by omega, ?_⟩
  refine wpx_ok hS bk108 (sp := sp108) 60 144 _ _ _ _ ?_
  simp only [LCM, B2, Bool.not_eq_false, Bool.not_eq_true, decide_eq_true_eq, decide_eq_false_iff_not, Int.not_lt, Int.not_le, CST, TN, WX, WA, WB, GS, LOC, BT108, SP108, CLS, FLD, ARR, CD, true_and, and_true, and_self, forall_const, true_implies, false_implies, implies_true, not_true_eq_false, not_false_eq_true, if_true, if_false, rgI, rgL, scr, swl, lkl, cats, cat, is2, List.drop_succ_cons, List.drop_zero, List.drop_nil, List.cons_append, List.nil_append, Option.toList_some, Option.toList_none, List.length_cons, List.length_nil, ne_eq, Classical.not_not, reduceCtorEq, Nat.reduceAdd, Nat.reduceSub, Nat.reduceMul, Nat.reduceLT, Nat.reduceLeDiff, Nat.reduceEqDiff, Nat.reduceBEq, Int.reduceToNat, Int.reduceLE, Int.reduceLT, Int.reduceEq, Int.reduceNeg, Int.reduceAdd, Int.reduceSub, Int.reduceMul, Int.toNat_natCast, Nat.zero_add, Int.add_zero, Nat.add_zero, ite_true, ite_false, Option.some.injEq, Nat.le_refl, or_true, true_or, or_false, false_or, if_pos, reduceIte, Nat.reduceGT, ms_ne, ms_eq, ms_nj]
  rw [e58, v3.1]
  simp only [T4]
  refine ⟨by omega, ?_⟩
  refine wpx_ok hS bk108 (sp := sp108) 60 144 _ _ _ _ ?_
  simp only [LCM, B2, Bool.not_eq_false, Bool.not_eq_true, decide_eq_true_eq, decide_eq_false_iff_not, Int.not_lt, Int.not_le, CST, TN, WX, WA, WB, GS, LOC, BT108, SP108, CLS, FLD, ARR, CD, true_and, and_true, and_self, forall_const, true_implies, false_implies, implies_true, not_true_eq_false, not_false_eq_true, if_true, if_false, rgI, rgL, scr, swl, lkl, cats, cat, is2, List.drop_succ_cons, List.drop_zero, List.drop_nil, List.cons_append, List.nil_append, Option.toList_some, Option.toList_none, List.length_cons, List.length_nil, ne_eq, Classical.not_not, reduceCtorEq, Nat.reduceAdd, Nat.reduceSub, Nat.reduceMul, Nat.reduceLT, Nat.reduceLeDiff, Nat.reduceEqDiff, Nat.reduceBEq, Int.reduceToNat, Int.reduceLE, Int.reduceLT, Int.reduceEq, Int.reduceNeg, Int.reduceAdd, Int.reduceSub, Int.reduceMul, Int.toNat_natCast, Nat.zero_add, Int.add_zero, Nat.add_zero, ite_true, ite_false, Option.some.injEq, Nat.le_refl, or_true, true_or, or_false, false_or, if_pos, reduceIte, Nat.reduceGT, ms_ne, ms_eq, ms_nj]
  rw [e58]
  simp only [Int.toNat_natCast]
  refine ⟨by omega, ?_⟩
  have hs : tkH D p v = some (adH D p (v 0) (v 1) (v 2) (v 3)) := by unfold tkH; rw [if_pos (by omega)]
  have hA := hm.addH hd p (v 0) (v 1) (v 2) (v 3)
  rw [← hH.1] at hA
  refine rt108 (by decide) ⟨rfl, by rw [ht, hs]; rfl, fun D' hD => ?_, fun k j hk => ?_⟩
  · rw [ht, hs] at hD
    cases hD
    exact hA
  · unfold drf at hk
    unfold mset
    rw [if_neg (by omega), if_neg (by omega), if_neg (by omega), if_neg (by omega), if_neg (by omega), if_neg (by omega)]
theorem m_goodM (p : Nat) (v : Nat → Int) (M D : MM) (hd : WFd D) (hm : DM M D) (hv : ∀ k, k < 3 → M 78 k = v k ∧ 0 ≤ v k ∧ v k ≤ 99) : oQ 2 108 [vR 55, vI 109, vI p] M (gdP M D 109 p v) := by
  have v0 := hv 0 (by decide)
  have v1 := hv 1 (by decide)
  have v2 := hv 2 (by decide)
  have hH := hd.W
  have e58 : M 59 1 = (wN D : Int) := by rw [hm.1.2.2.2.1, hH.1]
  have ht : tk D 109 p v = tkM D v := by unfold tk; rw [if_neg (by decide), if_neg (by decide), if_pos rfl]
  have no : ¬ ((v 0 ≤ 4 ∧ (1 ≤ v 1 ∧ v 1 ≤ 9) ∧ (1 ≤ v 2 ∧ v 2 ≤ 9)) ∧ D 59 0 ≠ 6) → Rtn 108 0 0 (fun r sh M' => sh = sh0 ∧ gdP M D 109 p v r M') (some (Sum.inl 0)) (sh0, 0, 0) M := fun h => by
    have hn : tkM D v = none := by unfold tkM; rw [if_neg h]
    exact rt108 (by decide) ⟨rfl, by rw [ht, hn]; rfl, fun D' hD => (by rw [ht, hn] at hD; cases hD), fun _ _ _ => rfl⟩
  refine go108 (fun S hS => ?_)
  refine wpx_ok hS bk108 (sp := sp108) 60 0 _ _ _ _ ?_
  simp only [LCM, B2, Bool.not_eq_false, Bool.not_eq_true, decide_eq_true_eq, decide_eq_false_iff_not, Int.not_lt, Int.not_le, CST, TN, WX, WA, WB, GS, LOC, BT108, SP108, CLS, FLD, ARR, CD, true_and, and_true, and_self, forall_const, true_implies, false_implies, implies_true, not_true_eq_false, not_false_eq_true, if_true, if_false, rgI, rgL, scr, swl, lkl, cats, cat, is2, List.drop_succ_cons, List.drop_zero, List.drop_nil, List.cons_append, List.nil_append, Option.toList_some, Option.toList_none, List.length_cons, List.length_nil, ne_eq, Classical.not_not, reduceCtorEq, Nat.reduceAdd, Nat.reduceSub, Nat.reduceMul, Nat.reduceLT, Nat.reduceLeDiff, Nat.reduceEqDiff, Nat.reduceBEq, Int.reduceToNat, Int.reduceLE, Int.reduceLT, Int.reduceEq, Int.reduceNeg, Int.reduceAdd, Int.reduceSub, Int.reduceMul, Int.toNat_natCast, Nat.zero_add, Int.add_zero, Nat.add_zero, ite_true, ite_false, Option.some.injEq, Nat.le_refl, or_true, true_or, or_false, false_or, if_pos, reduceIte, Nat.reduceGT, ms_ne, ms_eq, ms_nj]
  rw [v0.1]
  refine ⟨by omega, ?_⟩
  refine kI (c_in (v 0) 0 4 _ (by unfold rgL; omega) (by unfold rgL; omega) (by unfold rgL; omega)) (Nat.le_of_ble_eq_true rfl) rfl rfl (Nat.le_of_ble_eq_true rfl) (Nat.le_of_ble_eq_true rfl) rfl ?_
  refine wpx_ok hS bk108 (sp := sp108) 60 223 _ _ _ _ ?_
  simp only [LCM, B2, Bool.not_eq_false, Bool.not_eq_true, decide_eq_true_eq, decide_eq_false_iff_not, Int.not_lt, Int.not_le, CST, TN, WX, WA, WB, GS, LOC, BT108, SP108, CLS, FLD, ARR, CD, true_and, and_true, and_self, forall_const, true_implies, false_implies, implies_true, not_true_eq_false, not_false_eq_true, if_true, if_false, rgI, rgL, scr, swl, lkl, cats, cat, is2, List.drop_succ_cons, List.drop_zero, List.drop_nil, List.cons_append, List.nil_append, Option.toList_some, Option.toList_none, List.length_cons, List.length_nil, ne_eq, Classical.not_not, reduceCtorEq, Nat.reduceAdd, Nat.reduceSub, Nat.reduceMul, Nat.reduceLT, Nat.reduceLeDiff, Nat.reduceEqDiff, Nat.reduceBEq, Int.reduceToNat, Int.reduceLE, Int.reduceLT, Int.reduceEq, Int.reduceNeg, Int.reduceAdd, Int.reduceSub, Int.reduceMul, Int.toNat_natCast, Nat.zero_add, Int.add_zero, Nat.add_zero, ite_true, ite_false, Option.some.injEq, Nat.le_refl, or_true, true_or, or_false, false_or, if_pos, reduceIte, Nat.reduceGT, ms_ne, ms_eq, ms_nj]
  rw [v1.1]
  refine ⟨fun h => no (by omega), fun h => ⟨by omega, ?_⟩⟩
  refine kI (c_in (v 1) 1 9 _ (by unfold rgL; omega) (by unfold rgL; omega) (by unfold rgL; omega)) (Nat.le_of_ble_eq_true rfl) rfl rfl (Nat.le_of_ble_eq_true rfl) (Nat.le_of_ble_eq_true rfl) rfl ?_
  refine wpx_ok hS bk108 (sp := sp108) 60 240 _ _ _ _ ?_
  simp only [LCM, B2, Bool.not_eq_false, Bool.not_eq_true, decide_eq_true_eq, decide_eq_false_iff_not, Int.not_lt, Int.not_le, CST, TN, WX, WA, WB, GS, LOC, BT108, SP108, CLS, FLD, ARR, CD, true_and, and_true, and_self, forall_const, true_implies, false_implies, implies_true, not_true_eq_false, not_false_eq_true, if_true, if_false, rgI, rgL, scr, swl, lkl, cats, cat, is2, List.drop_succ_cons, List.drop_zero, List.drop_nil, List.cons_append, List.nil_append, Option.toList_some, Option.toList_none, List.length_cons, List.length_nil, ne_eq, Classical.not_not, reduceCtorEq, Nat.reduceAdd, Nat.reduceSub, Nat.reduceMul, Nat.reduceLT, Nat.reduceLeDiff, Nat.reduceEqDiff, Nat.reduceBEq, Int.reduceToNat, Int.reduceLE, Int.reduceLT, Int.reduceEq, Int.reduceNeg, Int.reduceAdd, Int.reduceSub, Int.reduceMul, Int.toNat_natCast, Nat.zero_add, Int.add_zero, Nat.add_zero, ite_true, ite_false, Option.some.injEq, Nat.le_refl, or_true, true_or, or_false, false_or, if_pos, reduceIte, Nat.reduceGT, ms_ne, ms_eq, ms_nj]
  rw [v2.1]
  refine ⟨fun h1 => no (by omega), fun h1 => ⟨by omega, ?_⟩⟩
  refine kI (c_in (v 2) 1 9 _ (by unfold rgL; omega) (by unfold rgL; omega) (by unfold rgL; omega)) (Nat.le_of_ble_eq_true rfl) rfl rfl (Nat.le_of_ble_eq_true rfl) (Nat.le_of_ble_eq_true rfl) rfl ?_
  refine wpx_ok hS bk108 (sp := sp108) 60 257 _ _ _ _ ?_
  simp only [LCM, B2, Bool.not_eq_false, Bool.not_eq_true, decide_eq_true_eq, decide_eq_false_iff_not, Int.not_lt, Int.not_le, CST, TN, WX, WA, WB, GS, LOC, BT108, SP108, CLS, FLD, ARR, CD, true_and, and_true, and_self, forall_const, true_implies, false_implies, implies_true, not_true_eq_false, not_false_eq_true, if_true, if_false, rgI, rgL, scr, swl, lkl, cats, cat, is2, List.drop_succ_cons, List.drop_zero, List.drop_nil, List.cons_append, List.nil_append, Option.toList_some, Option.toList_none, List.length_cons, List.length_nil, ne_eq, Classical.not_not, reduceCtorEq, Nat.reduceAdd, Nat.reduceSub, Nat.reduceMul, Nat.reduceLT, Nat.reduceLeDiff, Nat.reduceEqDiff, Nat.reduceBEq, Int.reduceToNat, Int.reduceLE, Int.reduceLT, Int.reduceEq, Int.reduceNeg, Int.reduceAdd, Int.reduceSub, Int.reduceMul, Int.toNat_natCast, Nat.zero_add, Int.add_zero, Nat.add_zero, ite_true, ite_false, Option.some.injEq, Nat.le_refl, or_true, true_or, or_false, false_or, if_pos, reduceIte, Nat.reduceGT, ms_ne, ms_eq, ms_nj]
  rw [e58]
  refine ⟨fun h2 => no (by omega), fun h2 => ⟨by omega, fun h3 => ?_, fun h3 => no (by omega)⟩⟩
  refine wpx_ok hS bk108 (sp := sp108) 60 275 _ _ _ _ ?_
  simp only [LCM, B2, Bool.not_eq_false, Bool.not_eq_true, decide_eq_true_eq, decide_eq_false_iff_not, Int.not_lt, Int.not_le, CST, TN, WX, WA, WB, GS, LOC, BT108, SP108, CLS, FLD, ARR, CD, true_and, and_true, and_self, forall_const, true_implies, false_implies, implies_true, not_true_eq_false, not_false_eq_true, if_true, if_false, rgI, rgL, scr, swl, lkl, cats, cat, is2, List.drop_succ_cons, List.drop_zero, List.drop_nil, List.cons_append, List.nil_append, Option.toList_some, Option.toList_none, List.length_cons, List.length_nil, ne_eq, Classical.not_not, reduceCtorEq, Nat.reduceAdd, Nat.reduceSub, Nat.reduceMul, Nat.reduceLT, Nat.reduceLeDiff, Nat.reduceEqDiff, Nat.reduceBEq, Int.reduceToNat, Int.reduceLE, Int.reduceLT, Int.reduceEq, Int.reduceNeg, Int.reduceAdd, Int.reduceSub, Int.reduceMul, Int.toNat_natCast, Nat.zero_add, Int.add_zero, Nat.add_zero, ite_true, ite_false, Option.some.injEq, Nat.le_refl, or_true, true_or, or_false, false_or, if_pos, reduceIte, Nat.reduceGT, ms_ne, ms_eq, ms_nj]
  rw [e58, v0.1]
  simp only [T4]
  refine ⟨by omega, ?_⟩
  refine wpx_ok hS bk108 (sp := sp108) 60 275 _ _ _ _ ?_
  simp only [LCM, B2, Bool.not_eq_false, Bool.not_eq_true, decide_eq_true_eq, decide_eq_false_iff_not, Int.not_lt, Int.not_le, CST, TN, WX, WA, WB, GS, LOC, BT108, SP108, CLS, FLD, ARR, CD, true_and, and_true, and_self, forall_const, true_implies, false_implies, implies_true, not_true_eq_false, not_false_eq_true, if_true, if_false, rgI, rgL, scr, swl, lkl, cats, cat, is2, List.drop_succ_cons, List.drop_zero, List.drop_nil, List.cons_append, List.nil_append, Option.toList_some, Option.toList_none, List.length_cons, List.length_nil, ne_eq, Classical.not_not, reduceCtorEq, Nat.reduceAdd, Nat.reduceSub, Nat.reduceMul, Nat.reduceLT, Nat.reduceLeDiff, Nat.reduceEqDiff, Nat.reduceBEq, Int.reduceToNat, Int.reduceLE, Int.reduceLT, Int.reduceEq, Int.reduceNeg, Int.reduceAdd, Int.reduceSub, Int.reduceMul, Int.toNat_natCast, Nat.zero_add, Int.add_zero, Nat.add_zero, ite_true, ite_false, Option.some.injEq, Nat.le_refl, or_true, true_or, or_false, false_or, if_pos, reduceIte, Nat.reduceGT, ms_ne, ms_eq, ms_nj]
  rw [e58, v1.1]
  simp only [T4]
  refine ⟨by omega, ?_⟩
  refine wpx_ok hS bk108 (sp := sp108) 60 275 _ _ _ _ ?_
  simp only [LCM, B2, Bool.not_eq_false, Bool.not_eq_true, decide_eq_true_eq, decide_eq_false_iff_not, Int.not_lt, Int.not_le, CST, TN, WX, WA, WB, GS, LOC, BT108, SP108, CLS, FLD, ARR, CD, true_and, and_true, and_self, forall_const, true_implies, false_implies, implies_true, not_true_eq_false, not_false_eq_true, if_true, if_false, rgI, rgL, scr, swl, lkl, cats, cat, is2, List.drop_succ_cons, List.drop_zero, List.drop_nil, List.cons_append, List.nil_append, Option.toList_some, Option.toList_none, List.length_cons, List.length_nil, ne_eq, Classical.not_not, reduceCtorEq, Nat.reduceAdd, Nat.reduceSub, Nat.reduceMul, Nat.reduceLT, Nat.reduceLeDiff, Nat.reduceEqDiff, Nat.reduceBEq, Int.reduceToNat, Int.reduceLE, Int.reduceLT, Int.reduceEq, Int.reduceNeg, Int.reduceAdd, Int.reduceSub, Int.reduceMul, Int.toNat_natCast, Nat.zero_add, Int.add_zero, Nat.add_zero, ite_true, ite_false, Option.some.injEq, Nat.le_refl, or_true, true_or, or_false, false_or, if_pos, reduceIte, Nat.reduceGT, ms_ne, ms_eq, ms_nj]
  rw [e58, v2.1]
  simp only [T4]
  refine ⟨by omega, ?_⟩
  refine wpx_ok hS bk108 (sp := sp108) 60 275 _ _ _ _ ?_
  simp only [LCM, B2, Bool.not_eq_false, Bool.not_eq_true, decide_eq_true_eq, decide_eq_false_iff_not, Int.not_lt, Int.not_le, CST, TN, WX, WA, WB, GS, LOC, BT108, SP108, CLS, FLD, ARR, CD, true_and, and_true, and_self, forall_const, true_implies, false_implies, implies_true, not_true_eq_false, not_false_eq_true, if_true, if_false, rgI, rgL, scr, swl, lkl, cats, cat, is2, List.drop_succ_cons, List.drop_zero, List.drop_nil, List.cons_append, List.nil_append, Option.toList_some, Option.toList_none, List.length_cons, List.length_nil, ne_eq, Classical.not_not, reduceCtorEq, Nat.reduceAdd, Nat.reduceSub, Nat.reduceMul, Nat.reduceLT, Nat.reduceLeDiff, Nat.reduceEqDiff, Nat.reduceBEq, Int.reduceToNat, Int.reduceLE, Int.reduceLT, Int.reduceEq, Int.reduceNeg, Int.reduceAdd, Int.reduceSub, Int.reduceMul, Int.toNat_natCast, Nat.zero_add, Int.add_zero, Nat.add_zero, ite_true, ite_false, Option.some.injEq, Nat.le_refl, or_true, true_or, or_false, false_or, if_pos, reduceIte, Nat.reduceGT, ms_ne, ms_eq, ms_nj]
  rw [e58]
  have hs : tkM D v = some (adW D (v 0) (v 1) (v 2)) := by unfold tkM; rw [if_pos (by omega)]
  have hA := hm.addW hd (v 0) (v 1) (v 2)
  rw [← hH.1] at hA
  refine rt108 (by decide) ⟨rfl, by rw [ht, hs]; rfl, fun D' hD => ?_, fun k j hk => ?_⟩
  · rw [ht, hs] at hD
    cases hD
    exact hA
  · unfold drf at hk
    unfold mset
    rw [if_neg (by omega), if_neg (by omega), if_neg (by omega), if_neg (by omega)]
theorem m_goodC (p : Nat) (v : Nat → Int) (M D : MM) (hd : WFd D) (hm : DM M D) (hv : ∀ k, k < 1 → M 78 k = v k ∧ 0 ≤ v k ∧ v k ≤ 99) : oQ 2 108 [vR 55, vI 99, vI p] M (gdP M D 99 p v) := by
  have v0 := hv 0 (by decide)
  have hH := hd.H
  have e58 : M 58 1 = (hN D : Int) := by rw [hm.1.2.2.1, hH.1]
  have ht : tk D 99 p v = tkC D v := by unfold tk; rw [if_neg (by decide), if_neg (by decide), if_neg (by decide), if_pos rfl]
  refine go108 (fun S hS => ?_)
  refine wpx_ok hS bk108 (sp := sp108) 60 0 _ _ _ _ ?_
  simp only [LCM, B2, Bool.not_eq_false, Bool.not_eq_true, decide_eq_true_eq, decide_eq_false_iff_not, Int.not_lt, Int.not_le, CST, TN, WX, WA, WB, GS, LOC, BT108, SP108, CLS, FLD, ARR, CD, true_and, and_true, and_self, forall_const, true_implies, false_implies, implies_true, not_true_eq_false, not_false_eq_true, if_true, if_false, rgI, rgL, scr, swl, lkl, cats, cat, is2, List.drop_succ_cons, List.drop_zero, List.drop_nil, List.cons_append, List.nil_append, Option.toList_some, Option.toList_none, List.length_cons, List.length_nil, ne_eq, Classical.not_not, reduceCtorEq, Nat.reduceAdd, Nat.reduceSub, Nat.reduceMul, Nat.reduceLT, Nat.reduceLeDiff, Nat.reduceEqDiff, Nat.reduceBEq, Int.reduceToNat, Int.reduceLE, Int.reduceLT, Int.reduceEq, Int.reduceNeg, Int.reduceAdd, Int.reduceSub, Int.reduceMul, Int.toNat_natCast, Nat.zero_add, Int.add_zero, Nat.add_zero, ite_true, ite_false, Option.some.injEq, Nat.le_refl, or_true, true_or, or_false, false_or, if_pos, reduceIte, Nat.reduceGT, ms_ne, ms_eq, ms_nj]
  rw [v0.1, e58]
  refine ⟨by omega, by omega, ?_⟩
  refine kI (c_in (v 0) 0 ((hN D : Int) - 1) _ (by unfold rgL; omega) (by unfold rgL; omega) (by unfold rgL; omega)) (Nat.le_of_ble_eq_true rfl) rfl rfl (Nat.le_of_ble_eq_true rfl) (Nat.le_of_ble_eq_true rfl) rfl ?_
  refine wpx_ok hS bk108 (sp := sp108) 60 342 _ _ _ _ ?_
  simp only [LCM, B2, Bool.not_eq_false, Bool.not_eq_true, decide_eq_true_eq, decide_eq_false_iff_not, Int.not_lt, Int.not_le, CST, TN, WX, WA, WB, GS, LOC, BT108, SP108, CLS, FLD, ARR, CD, true_and, and_true, and_self, forall_const, true_implies, false_implies, implies_true, not_true_eq_false, not_false_eq_true, if_true, if_false, rgI, rgL, scr, swl, lkl, cats, cat, is2, List.drop_succ_cons, List.drop_zero, List.drop_nil, List.cons_append, List.nil_append, Option.toList_some, Option.toList_none, List.length_cons, List.length_nil, ne_eq, Classical.not_not, reduceCtorEq, Nat.reduceAdd, Nat.reduceSub, Nat.reduceMul, Nat.reduceLT, Nat.reduceLeDiff, Nat.reduceEqDiff, Nat.reduceBEq, Int.reduceToNat, Int.reduceLE, Int.reduceLT, Int.reduceEq, Int.reduceNeg, Int.reduceAdd, Int.reduceSub, Int.reduceMul, Int.toNat_natCast, Nat.zero_add, Int.add_zero, Nat.add_zero, ite_true, ite_false, Option.some.injEq, Nat.le_refl, or_true, true_or, or_false, false_or, if_pos, reduceIte, Nat.reduceGT, ms_ne, ms_eq, ms_nj]
  rw [v0.1]
  refine ⟨fun h => ?_, fun h => ?_⟩
  · have hs : tkC D v = some (mset D 60 0 (v 0)) := by unfold tkC; rw [if_pos (by omega)]
    refine rt108 (by decide) ⟨rfl, by rw [ht, hs]; rfl, fun D' hD => ?_, fun k j hk => ?_⟩
    · rw [ht, hs] at hD
      cases hD
      exact hm.ck _
    · unfold drf at hk
      unfold mset
      rw [if_neg (by omega)]
  · have hn : tkC D v = none := by unfold tkC; rw [if_neg (by omega)]
    exact rt108 (by decide) ⟨rfl, by rw [ht, hn]; rfl, fun D' hD => (by rw [ht, hn] at hD; cases hD), fun _ _ _ => rfl⟩
theorem m_goodN (p : Nat) (v : Nat → Int) (M D : MM) (hd : WFd D) (hm : DM M D) (hv : ∀ k, k < 1 → M 78 k = v k ∧ 0 ≤ v k ∧ v k ≤ 99) : oQ 2 108 [vR 55, vI 110, vI p] M (gdP M D 110 p v) := by
  have v0 := hv 0 (by decide)
  have hH := hd.H
  have e58 : M 58 1 = (hN D : Int) := by rw [hm.1.2.2.1, hH.1]
  have ht : tk D 110 p v = tkN D v := by unfold tk; rw [if_neg (by decide), if_neg (by decide), if_neg (by decide), if_neg (by decide), if_pos rfl]
  refine go108 (fun S hS => ?_)
  refine wpx_ok hS bk108 (sp := sp108) 60 0 _ _ _ _ ?_
  simp only [LCM, B2, Bool.not_eq_false, Bool.not_eq_true, decide_eq_true_eq, decide_eq_false_iff_not, Int.not_lt, Int.not_le, CST, TN, WX, WA, WB, GS, LOC, BT108, SP108, CLS, FLD, ARR, CD, true_and, and_true, and_self, forall_const, true_implies, false_implies, implies_true, not_true_eq_false, not_false_eq_true, if_true, if_false, rgI, rgL, scr, swl, lkl, cats, cat, is2, List.drop_succ_cons, List.drop_zero, List.drop_nil, List.cons_append, List.nil_append, Option.toList_some, Option.toList_none, List.length_cons, List.length_nil, ne_eq, Classical.not_not, reduceCtorEq, Nat.reduceAdd, Nat.reduceSub, Nat.reduceMul, Nat.reduceLT, Nat.reduceLeDiff, Nat.reduceEqDiff, Nat.reduceBEq, Int.reduceToNat, Int.reduceLE, Int.reduceLT, Int.reduceEq, Int.reduceNeg, Int.reduceAdd, Int.reduceSub, Int.reduceMul, Int.toNat_natCast, Nat.zero_add, Int.add_zero, Nat.add_zero, ite_true, ite_false, Option.some.injEq, Nat.le_refl, or_true, true_or, or_false, false_or, if_pos, reduceIte, Nat.reduceGT, ms_ne, ms_eq, ms_nj]
  rw [v0.1, e58]
  refine ⟨by omega, by omega, ?_⟩
  refine kI (c_in (v 0) 0 ((hN D : Int) - 1) _ (by unfold rgL; omega) (by unfold rgL; omega) (by unfold rgL; omega)) (Nat.le_of_ble_eq_true rfl) rfl rfl (Nat.le_of_ble_eq_true rfl) (Nat.le_of_ble_eq_true rfl) rfl ?_
  refine wpx_ok hS bk108 (sp := sp108) 60 342 _ _ _ _ ?_
  simp only [LCM, B2, Bool.not_eq_false, Bool.not_eq_true, decide_eq_true_eq, decide_eq_false_iff_not, Int.not_lt, Int.not_le, CST, TN, WX, WA, WB, GS, LOC, BT108, SP108, CLS, FLD, ARR, CD, true_and, and_true, and_self, forall_const, true_implies, false_implies, implies_true, not_true_eq_false, not_false_eq_true, if_true, if_false, rgI, rgL, scr, swl, lkl, cats, cat, is2, List.drop_succ_cons, List.drop_zero, List.drop_nil, List.cons_append, List.nil_append, Option.toList_some, Option.toList_none, List.length_cons, List.length_nil, ne_eq, Classical.not_not, reduceCtorEq, Nat.reduceAdd, Nat.reduceSub, Nat.reduceMul, Nat.reduceLT, Nat.reduceLeDiff, Nat.reduceEqDiff, Nat.reduceBEq, Int.reduceToNat, Int.reduceLE, Int.reduceLT, Int.reduceEq, Int.reduceNeg, Int.reduceAdd, Int.reduceSub, Int.reduceMul, Int.toNat_natCast, Nat.zero_add, Int.add_zero, Nat.add_zero, ite_true, ite_false, Option.some.injEq, Nat.le_refl, or_true, true_or, or_false, false_or, if_pos, reduceIte, Nat.reduceGT, ms_ne, ms_eq, ms_nj]
  refine ⟨fun h => ?_, fun h => ?_⟩
  · obtain ⟨a, ha⟩ : ∃ a : Nat, v 0 = (a : Int) := ⟨(v 0).toNat, by omega⟩
    have fr : ∀ k j, ¬ drf k j → mset M 64 (10 + a) 1 k j = M k j := fun k j hk => by
      unfold drf at hk
      unfold mset
      rw [if_neg (by omega)]
    have head : ∀ (m i : Nat), i + m = 10 → S 375 [some (vR 55), some (vI 110), some (vI p), some (vI (cnt (newB D) i)), some (vI (b2i (risB D (a : Int) i))), some (vI i)] [] (sh0, 0, 0) M := by
      intro m
      induction m with
      | zero =>
        intro i hi
        have hi10 : i = 10 := by omega
        have hcr := cnt_rg (newB D) i
        refine wpx_ok hS bk108 (sp := sp108) 60 375 _ _ _ _ ?_
        simp only [LCM, B2, Bool.not_eq_false, Bool.not_eq_true, decide_eq_true_eq, decide_eq_false_iff_not, Int.not_lt, Int.not_le, CST, TN, WX, WA, WB, GS, LOC, BT108, SP108, CLS, FLD, ARR, CD, true_and, and_true, and_self, forall_const, true_implies, false_implies, implies_true, not_true_eq_false, not_false_eq_true, if_true, if_false, rgI, rgL, scr, swl, lkl, cats, cat, is2, List.drop_succ_cons, List.drop_zero, List.drop_nil, List.cons_append, List.nil_append, Option.toList_some, Option.toList_none, List.length_cons, List.length_nil, ne_eq, Classical.not_not, reduceCtorEq, Nat.reduceAdd, Nat.reduceSub, Nat.reduceMul, Nat.reduceLT, Nat.reduceLeDiff, Nat.reduceEqDiff, Nat.reduceBEq, Int.reduceToNat, Int.reduceLE, Int.reduceLT, Int.reduceEq, Int.reduceNeg, Int.reduceAdd, Int.reduceSub, Int.reduceMul, Int.toNat_natCast, Nat.zero_add, Int.add_zero, Nat.add_zero, ite_true, ite_false, Option.some.injEq, Nat.le_refl, or_true, true_or, or_false, false_or, if_pos, reduceIte, Nat.reduceGT, ms_ne, ms_eq, ms_nj]
        rw [v0.1, ha]
        simp only [TN]
        refine ⟨by omega, fun _ => ⟨by omega, fun h1 => ?_, fun h1 => ⟨by omega, fun h2 => ?_, fun h2 => ?_⟩⟩, fun h => by omega⟩
        · have hn : tkN D v = none := by
            unfold tkN
            rw [ha, if_neg (fun z => ?_)]
            rw [hi10] at h1
            unfold risB at h1
            exact (of_decide_eq_false h1) z.2.2
          exact rt108 (by decide) ⟨rfl, by rw [ht, hn]; rfl, fun D' hD => (by rw [ht, hn] at hD; cases hD), fr⟩
        · have hn : tkN D v = none := by
            unfold tkN
            rw [if_neg (fun z => ?_)]
            rw [hi10] at h2
            omega
          exact rt108 (by decide) ⟨rfl, by rw [ht, hn]; rfl, fun D' hD => (by rw [ht, hn] at hD; cases hD), fr⟩
        · have hs : tkN D v = some (mset D 64 a 1) := by
            unfold tkN
            rw [hi10] at h1 h2
            unfold risB at h1
            rw [ha, if_pos ⟨by omega, h2, of_decide_eq_true h1⟩, Int.toNat_natCast]
          refine rt108 (by decide) ⟨rfl, by rw [ht, hs]; rfl, fun D' hD => ?_, fr⟩
          rw [ht, hs] at hD
          cases hD
          exact hm.nw _
      | succ m ih =>
        intro i hi
        have e64 : M 64 (10 + i) = D 64 i := hm.2.2.2 i (by omega)
        have h01 := (hd.2.2.2.1 i (by omega)).1
        have hcr := cnt_rg (newB D) i
        have hst := risB_step D (a : Int) i
        have hcs : cnt (newB D) (i + 1) = cnt (newB D) i + if newB D i then 1 else 0 := rfl
        have nx := ih (i + 1) (by omega)
        refine wpx_ok hS bk108 (sp := (fun t => sp108 t || t == 401)) 60 375 _ _ _ _ ?_
        simp only [LCM, B2, Bool.not_eq_false, Bool.not_eq_true, decide_eq_true_eq, decide_eq_false_iff_not, Int.not_lt, Int.not_le, CST, TN, WX, WA, WB, GS, LOC, BT108, SP108, CLS, FLD, ARR, CD, true_and, and_true, and_self, forall_const, true_implies, false_implies, implies_true, not_true_eq_false, not_false_eq_true, if_true, if_false, rgI, rgL, scr, swl, lkl, cats, cat, is2, List.drop_succ_cons, List.drop_zero, List.drop_nil, List.cons_append, List.nil_append, Option.toList_some, Option.toList_none, List.length_cons, List.length_nil, ne_eq, Classical.not_not, reduceCtorEq, Nat.reduceAdd, Nat.reduceSub, Nat.reduceMul, Nat.reduceLT, Nat.reduceLeDiff, Nat.reduceEqDiff, Nat.reduceBEq, Int.reduceToNat, Int.reduceLE, Int.reduceLT, Int.reduceEq, Int.reduceNeg, Int.reduceAdd, Int.reduceSub, Int.reduceMul, Int.toNat_natCast, Nat.zero_add, Int.add_zero, Nat.add_zero, ite_true, ite_false, Option.some.injEq, Nat.le_refl, or_true, true_or, or_false, false_or, if_pos, reduceIte, Nat.reduceGT, Bool.or_false, Bool.false_or, Bool.or_true, Bool.true_or, beq_self_eq_true, Nat.reduceBEq]
        rw [e64]
        refine ⟨by omega, fun h => by omega, fun h => ⟨by omega, by omega, fun h1 => ?_, fun h1 => ?_⟩⟩
        · have hb : newB D i = false := by unfold newB; exact decide_eq_false (by omega)
          rw [hb] at hst hcs
          rw [show risB D (a : Int) (i + 1) = risB D (a : Int) i by rw [hst]; simp, hcs] at nx
          refine wpx_ok hS bk108 (sp := sp108) 60 401 _ _ _ _ ?_
          simp only [LCM, B2, Bool.not_eq_false, Bool.not_eq_true, decide_eq_true_eq, decide_eq_false_iff_not, Int.not_lt, Int.not_le, CST, TN, WX, WA, WB, GS, LOC, BT108, SP108, CLS, FLD, ARR, CD, true_and, and_true, and_self, forall_const, true_implies, false_implies, implies_true, not_true_eq_false, not_false_eq_true, if_true, if_false, rgI, rgL, scr, swl, lkl, cats, cat, is2, List.drop_succ_cons, List.drop_zero, List.drop_nil, List.cons_append, List.nil_append, Option.toList_some, Option.toList_none, List.length_cons, List.length_nil, ne_eq, Classical.not_not, reduceCtorEq, Nat.reduceAdd, Nat.reduceSub, Nat.reduceMul, Nat.reduceLT, Nat.reduceLeDiff, Nat.reduceEqDiff, Nat.reduceBEq, Int.reduceToNat, Int.reduceLE, Int.reduceLT, Int.reduceEq, Int.reduceNeg, Int.reduceAdd, Int.reduceSub, Int.reduceMul, Int.toNat_natCast, Nat.zero_add, Int.add_zero, Nat.add_zero, ite_true, ite_false, Option.some.injEq, Nat.le_refl, or_true, true_or, or_false, false_or, if_pos, reduceIte, Nat.reduceGT, ms_ne, ms_eq, ms_nj]
          rw [e64]
          refine ⟨fun h2 => ?_, fun h2 => ⟨by omega, by omega, fun h3 => ?_, fun h3 => absurd h1 h3⟩⟩
          · rw [h2] at nx; simpa [B2] using nx
          · rw [h2] at nx; simpa [B2] using nx
        · have hb : newB D i = true := by unfold newB; exact decide_eq_true (by omega)
          rw [hb, Bool.true_and] at hst
          rw [hb, if_pos rfl] at hcs
          rw [hcs] at nx
          refine wpx_ok hS bk108 (sp := sp108) 60 401 _ _ _ _ ?_
          simp only [LCM, B2, Bool.not_eq_false, Bool.not_eq_true, decide_eq_true_eq, decide_eq_false_iff_not, Int.not_lt, Int.not_le, CST, TN, WX, WA, WB, GS, LOC, BT108, SP108, CLS, FLD, ARR, CD, true_and, and_true, and_self, forall_const, true_implies, false_implies, implies_true, not_true_eq_false, not_false_eq_true, if_true, if_false, rgI, rgL, scr, swl, lkl, cats, cat, is2, List.drop_succ_cons, List.drop_zero, List.drop_nil, List.cons_append, List.nil_append, Option.toList_some, Option.toList_none, List.length_cons, List.length_nil, ne_eq, Classical.not_not, reduceCtorEq, Nat.reduceAdd, Nat.reduceSub, Nat.reduceMul, Nat.reduceLT, Nat.reduceLeDiff, Nat.reduceEqDiff, Nat.reduceBEq, Int.reduceToNat, Int.reduceLE, Int.reduceLT, Int.reduceEq, Int.reduceNeg, Int.reduceAdd, Int.reduceSub, Int.reduceMul, Int.toNat_natCast, Nat.zero_add, Int.add_zero, Nat.add_zero, ite_true, ite_false, Option.some.injEq, Nat.le_refl, or_true, true_or, or_false, false_or, if_pos, reduceIte, Nat.reduceGT, ms_ne, ms_eq, ms_nj]
          rw [e64, v0.1, ha]
          refine ⟨fun h2 => ?_, fun h2 => ⟨by omega, by omega, fun h3 => absurd h3 h1, fun h3 => ⟨by omega, fun h4 => ?_, fun h4 => ?_⟩⟩⟩
          · rw [hst, h2] at nx; simpa [B2] using nx
          · rw [hst, decide_eq_true h4] at nx; simpa [B2] using nx
          · rw [hst, h2, decide_eq_false (by omega)] at nx; simpa [B2] using nx
    exact head 10 0 (by omega)
  · have hn : tkN D v = none := by unfold tkN; rw [if_neg (by omega)]
    exact rt108 (by decide) ⟨rfl, by rw [ht, hn]; rfl, fun D' hD => (by rw [ht, hn] at hD; cases hD), fun _ _ _ => rfl⟩

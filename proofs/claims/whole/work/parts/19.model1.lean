/-! the town as the model's cells have it -/
def len (T : MM) (i : Nat) : Int := T 57 (T 61 (4 * i)).toNat
def rsB (T : MM) (d : Int) (i : Nat) : Bool := decide (d % len T i = T 61 (4 * i + 1))
def skB (T : MM) (s i : Nat) : Bool := decide (bAnd (bShr (T 61 (4 * i + 2)) (s : Int)) 1 = 1)
def hN (T : MM) : Nat := (T 58 0).toNat
def wN (T : MM) : Nat := (T 59 0).toNat
def hands (T : MM) (s : Nat) (d : Int) : Int := cnt (fun i => skB T s i && !rsB T d i) (hN T)
def shrt (T : MM) (w : Nat) (d : Int) : Bool := decide (hands T (T 63 (3 * w)).toNat d < T 63 (3 * w + 1))
def upP (T : MM) (d : Int) (i : Nat) : Bool := decide (i < hN T) && !rsB T d i
def upM (T : MM) (d : Int) : Int := mk (upP T d)
/-- the first from i on, of n -/
def fstF (p : Nat → Bool) : Nat → Nat → Option Nat
  | _, 0 => none
  | i, n + 1 => if p i then some i else fstF p (i + 1) n
def newB (T : MM) (i : Nat) : Bool := decide (T 64 i = 1)
def WFt (T : MM) : Prop := (2 ≤ T 57 0 ∧ T 57 0 ≤ 12) ∧ (2 ≤ T 57 1 ∧ T 57 1 ≤ 12) ∧ (1 ≤ T 58 0 ∧ T 58 0 ≤ 10) ∧ (0 ≤ T 59 0 ∧ T 59 0 ≤ 6) ∧ (0 ≤ T 60 0 ∧ T 60 0 < T 58 0) ∧
  (∀ i : Nat, (i : Int) < T 58 0 → (T 61 (4 * i) = 0 ∨ T 61 (4 * i) = 1) ∧ (0 ≤ T 61 (4 * i + 1) ∧ T 61 (4 * i + 1) < len T i) ∧ (0 ≤ T 61 (4 * i + 2) ∧ T 61 (4 * i + 2) ≤ 31) ∧ (0 ≤ T 61 (4 * i + 3) ∧ T 61 (4 * i + 3) ≤ 3)) ∧
  (∀ w : Nat, (w : Int) < T 59 0 → (0 ≤ T 63 (3 * w) ∧ T 63 (3 * w) ≤ 4) ∧ (1 ≤ T 63 (3 * w + 1) ∧ T 63 (3 * w + 1) ≤ 9) ∧ (1 ≤ T 63 (3 * w + 2) ∧ T 63 (3 * w + 2) ≤ 9)) ∧
  (∀ i : Nat, i < 10 → (T 64 i = 0 ∨ T 64 i = 1) ∧ (T 58 0 ≤ i → T 64 i = 0)) ∧ cnt (newB T) 10 ≤ 3
theorem WFt.H {T : MM} (h : WFt T) : (hN T : Int) = T 58 0 ∧ 1 ≤ hN T ∧ hN T ≤ 10 := by
  have := h.2.2.1
  unfold hN
  omega
theorem WFt.W {T : MM} (h : WFt T) : (wN T : Int) = T 59 0 ∧ wN T ≤ 6 := by
  have := h.2.2.2.1
  unfold wN
  omega
theorem WFt.hs {T : MM} (h : WFt T) {i : Nat} (hi : i < hN T) : (T 61 (4 * i) = 0 ∨ T 61 (4 * i) = 1) ∧ (0 ≤ T 61 (4 * i + 1) ∧ T 61 (4 * i + 1) < len T i) ∧ (0 ≤ T 61 (4 * i + 2) ∧ T 61 (4 * i + 2) ≤ 31) ∧ (0 ≤ T 61 (4 * i + 3) ∧ T 61 (4 * i + 3) ≤ 3) := h.2.2.2.2.2.1 i (by have := h.H; omega)
theorem WFt.ln {T : MM} (h : WFt T) {i : Nat} (hi : i < hN T) : 2 ≤ len T i ∧ len T i ≤ 12 := by
  unfold len
  rcases (h.hs hi).1 with h1 | h1 <;> rw [h1]
  · exact h.1
  · exact h.2.1
theorem WFt.wk {T : MM} (h : WFt T) {w : Nat} (hw : w < wN T) : (0 ≤ T 63 (3 * w) ∧ T 63 (3 * w) ≤ 4) ∧ (1 ≤ T 63 (3 * w + 1) ∧ T 63 (3 * w + 1) ≤ 9) ∧ (1 ≤ T 63 (3 * w + 2) ∧ T 63 (3 * w + 2) ≤ 9) := h.2.2.2.2.2.2.1 w (by have := h.W; omega)
/-! its walks -/
theorem c_in (v a b : Int) (M : MM) (hv : rgL v) (ha : rgL a) (hb : rgL b) : oI 1 102 [vL v, vL a, vL b] M (b2i (decide (a ≤ v ∧ v ≤ b))) := by
  refine go102 (fun S hS => ?_)
  refine wpx_ok hS bk102 (sp := sp102) 60 0 _ _ _ _ ?_
  simp only [LCM, B2, Bool.not_eq_false, Bool.not_eq_true, decide_eq_true_eq, decide_eq_false_iff_not, Int.not_lt, Int.not_le, CST, TN, WX, WA, WB, GS, LOC, BT102, SP102, CLS, FLD, ARR, CD, true_and, and_true, and_self, forall_const, true_implies, false_implies, implies_true, not_true_eq_false, not_false_eq_true, if_true, if_false, rgI, rgL, scr, swl, lkl, cats, cat, is2, List.drop_succ_cons, List.drop_zero, List.drop_nil, List.cons_append, List.nil_append, Option.toList_some, Option.toList_none, List.length_cons, List.length_nil, ne_eq, reduceCtorEq, Nat.reduceAdd, Nat.reduceSub, Nat.reduceMul, Nat.reduceLT, Nat.reduceLeDiff, Nat.reduceEqDiff, Nat.reduceBEq, Int.reduceToNat, Int.reduceLE, Int.reduceLT, Int.reduceEq, Int.reduceNeg, Int.reduceAdd, Int.reduceSub, Int.reduceMul, Int.toNat_natCast, Nat.zero_add, Int.add_zero, Nat.add_zero, ite_true, ite_false, Option.some.injEq, Nat.le_refl, or_true, true_or, or_false, false_or, if_pos, reduceIte, Nat.reduceGT]
  refine ⟨hv, ha, fun h => ?_, fun h => ⟨hv, hb, fun h2 => ?_, fun h2 => ?_⟩⟩
  · exact rt102 (by decide) ⟨rfl, by rw [decide_eq_false (by omega)]; rfl, rfl⟩
  · exact rt102 (by decide) ⟨rfl, by rw [decide_eq_false (by omega)]; rfl, rfl⟩
  · exact rt102 (by decide) ⟨rfl, by rw [decide_eq_true (by omega)]; rfl, rfl⟩
theorem m_isHouse (i : Int) (M : MM) (hi : rgI i) (hW : WFt M) : oI 2 113 [vR 55, vI i] M (b2i (decide (0 ≤ i ∧ i < M 58 0))) := by
  have hH := hW.2.2.1
  refine go113 (fun S hS => ?_)
  refine wpx_ok hS bk113 (sp := sp113) 60 0 _ _ _ _ ?_
  simp only [LCM, B2, Bool.not_eq_false, Bool.not_eq_true, decide_eq_true_eq, decide_eq_false_iff_not, Int.not_lt, Int.not_le, CST, TN, WX, WA, WB, GS, LOC, BT113, SP113, CLS, FLD, ARR, CD, true_and, and_true, and_self, forall_const, true_implies, false_implies, implies_true, not_true_eq_false, not_false_eq_true, if_true, if_false, rgI, rgL, scr, swl, lkl, cats, cat, is2, List.drop_succ_cons, List.drop_zero, List.drop_nil, List.cons_append, List.nil_append, Option.toList_some, Option.toList_none, List.length_cons, List.length_nil, ne_eq, reduceCtorEq, Nat.reduceAdd, Nat.reduceSub, Nat.reduceMul, Nat.reduceLT, Nat.reduceLeDiff, Nat.reduceEqDiff, Nat.reduceBEq, Int.reduceToNat, Int.reduceLE, Int.reduceLT, Int.reduceEq, Int.reduceNeg, Int.reduceAdd, Int.reduceSub, Int.reduceMul, Int.toNat_natCast, Nat.zero_add, Int.add_zero, Nat.add_zero, ite_true, ite_false, Option.some.injEq, Nat.le_refl, or_true, true_or, or_false, false_or, if_pos, reduceIte, Nat.reduceGT]
  refine ⟨hi, by omega, ?_⟩
  refine kI (c_in i 0 (M 58 0 - 1) M (by unfold rgL rgI at *; omega) (by unfold rgL; omega) (by unfold rgL; omega)) (Nat.le_of_ble_eq_true rfl) rfl rfl (Nat.le_of_ble_eq_true rfl) (Nat.le_of_ble_eq_true rfl) rfl ?_
  refine wpx_ok hS bk113 (sp := sp113) 60 15 _ _ _ _ ?_
  simp only [LCM, B2, Bool.not_eq_false, Bool.not_eq_true, decide_eq_true_eq, decide_eq_false_iff_not, Int.not_lt, Int.not_le, CST, TN, WX, WA, WB, GS, LOC, BT113, SP113, CLS, FLD, ARR, CD, true_and, and_true, and_self, forall_const, true_implies, false_implies, implies_true, not_true_eq_false, not_false_eq_true, if_true, if_false, rgI, rgL, scr, swl, lkl, cats, cat, is2, List.drop_succ_cons, List.drop_zero, List.drop_nil, List.cons_append, List.nil_append, Option.toList_some, Option.toList_none, List.length_cons, List.length_nil, ne_eq, reduceCtorEq, Nat.reduceAdd, Nat.reduceSub, Nat.reduceMul, Nat.reduceLT, Nat.reduceLeDiff, Nat.reduceEqDiff, Nat.reduceBEq, Int.reduceToNat, Int.reduceLE, Int.reduceLT, Int.reduceEq, Int.reduceNeg, Int.reduceAdd, Int.reduceSub, Int.reduceMul, Int.toNat_natCast, Nat.zero_add, Int.add_zero, Nat.add_zero, ite_true, ite_false, Option.some.injEq, Nat.le_refl, or_true, true_or, or_false, false_or, if_pos, reduceIte, Nat.reduceGT]
  refine rt113 (b2i_01 _) ⟨rfl, ?_, rfl⟩
  congr 3
  apply decide_eq_decide.mpr
  omega
theorem m_isWork (i : Int) (M : MM) (hi : rgI i) (hW : WFt M) : oI 2 114 [vR 55, vI i] M (b2i (decide (0 ≤ i ∧ i < M 59 0))) := by
  have hH := hW.2.2.2.1
  refine go114 (fun S hS => ?_)
  refine wpx_ok hS bk114 (sp := sp114) 60 0 _ _ _ _ ?_
  simp only [LCM, B2, Bool.not_eq_false, Bool.not_eq_true, decide_eq_true_eq, decide_eq_false_iff_not, Int.not_lt, Int.not_le, CST, TN, WX, WA, WB, GS, LOC, BT114, SP114, CLS, FLD, ARR, CD, true_and, and_true, and_self, forall_const, true_implies, false_implies, implies_true, not_true_eq_false, not_false_eq_true, if_true, if_false, rgI, rgL, scr, swl, lkl, cats, cat, is2, List.drop_succ_cons, List.drop_zero, List.drop_nil, List.cons_append, List.nil_append, Option.toList_some, Option.toList_none, List.length_cons, List.length_nil, ne_eq, reduceCtorEq, Nat.reduceAdd, Nat.reduceSub, Nat.reduceMul, Nat.reduceLT, Nat.reduceLeDiff, Nat.reduceEqDiff, Nat.reduceBEq, Int.reduceToNat, Int.reduceLE, Int.reduceLT, Int.reduceEq, Int.reduceNeg, Int.reduceAdd, Int.reduceSub, Int.reduceMul, Int.toNat_natCast, Nat.zero_add, Int.add_zero, Nat.add_zero, ite_true, ite_false, Option.some.injEq, Nat.le_refl, or_true, true_or, or_false, false_or, if_pos, reduceIte, Nat.reduceGT]
  refine ⟨hi, by omega, ?_⟩
  refine kI (c_in i 0 (M 59 0 - 1) M (by unfold rgL rgI at *; omega) (by unfold rgL; omega) (by unfold rgL; omega)) (Nat.le_of_ble_eq_true rfl) rfl rfl (Nat.le_of_ble_eq_true rfl) (Nat.le_of_ble_eq_true rfl) rfl ?_
  refine wpx_ok hS bk114 (sp := sp114) 60 15 _ _ _ _ ?_
  simp only [LCM, B2, Bool.not_eq_false, Bool.not_eq_true, decide_eq_true_eq, decide_eq_false_iff_not, Int.not_lt, Int.not_le, CST, TN, WX, WA, WB, GS, LOC, BT114, SP114, CLS, FLD, ARR, CD, true_and, and_true, and_self, forall_const, true_implies, false_implies, implies_true, not_true_eq_false, not_false_eq_true, if_true, if_false, rgI, rgL, scr, swl, lkl, cats, cat, is2, List.drop_succ_cons, List.drop_zero, List.drop_nil, List.cons_append, List.nil_append, Option.toList_some, Option.toList_none, List.length_cons, List.length_nil, ne_eq, reduceCtorEq, Nat.reduceAdd, Nat.reduceSub, Nat.reduceMul, Nat.reduceLT, Nat.reduceLeDiff, Nat.reduceEqDiff, Nat.reduceBEq, Int.reduceToNat, Int.reduceLE, Int.reduceLT, Int.reduceEq, Int.reduceNeg, Int.reduceAdd, Int.reduceSub, Int.reduceMul, Int.toNat_natCast, Nat.zero_add, Int.add_zero, Nat.add_zero, ite_true, ite_false, Option.some.injEq, Nat.le_refl, or_true, true_or, or_false, false_or, if_pos, reduceIte, Nat.reduceGT]
  refine rt114 (b2i_01 _) ⟨rfl, ?_, rfl⟩
  congr 3
  apply decide_eq_decide.mpr
  omega
def isDayB (d : Int) : Bool := decide (0 ≤ d ∧ d ≤ 1000000000000000)
theorem m_isDay (d : Int) (M : MM) (hd : rgL d) : oI 2 115 [vL d] M (b2i (isDayB d)) := by
  refine go115 (fun S hS => ?_)
  refine wpx_ok hS bk115 (sp := sp115) 60 0 _ _ _ _ ?_
  simp only [LCM, B2, Bool.not_eq_false, Bool.not_eq_true, decide_eq_true_eq, decide_eq_false_iff_not, Int.not_lt, Int.not_le, CST, TN, WX, WA, WB, GS, LOC, BT115, SP115, CLS, FLD, ARR, CD, true_and, and_true, and_self, forall_const, true_implies, false_implies, implies_true, not_true_eq_false, not_false_eq_true, if_true, if_false, rgI, rgL, scr, swl, lkl, cats, cat, is2, List.drop_succ_cons, List.drop_zero, List.drop_nil, List.cons_append, List.nil_append, Option.toList_some, Option.toList_none, List.length_cons, List.length_nil, ne_eq, reduceCtorEq, Nat.reduceAdd, Nat.reduceSub, Nat.reduceMul, Nat.reduceLT, Nat.reduceLeDiff, Nat.reduceEqDiff, Nat.reduceBEq, Int.reduceToNat, Int.reduceLE, Int.reduceLT, Int.reduceEq, Int.reduceNeg, Int.reduceAdd, Int.reduceSub, Int.reduceMul, Int.toNat_natCast, Nat.zero_add, Int.add_zero, Nat.add_zero, ite_true, ite_false, Option.some.injEq, Nat.le_refl, or_true, true_or, or_false, false_or, if_pos, reduceIte, Nat.reduceGT]
  refine kI (c_in d 0 1000000000000000 M hd (by unfold rgL; omega) (by unfold rgL; omega)) (Nat.le_of_ble_eq_true rfl) rfl rfl (Nat.le_of_ble_eq_true rfl) (Nat.le_of_ble_eq_true rfl) rfl ?_
  refine wpx_ok hS bk115 (sp := sp115) 60 8 _ _ _ _ ?_
  simp only [LCM, B2, Bool.not_eq_false, Bool.not_eq_true, decide_eq_true_eq, decide_eq_false_iff_not, Int.not_lt, Int.not_le, CST, TN, WX, WA, WB, GS, LOC, BT115, SP115, CLS, FLD, ARR, CD, true_and, and_true, and_self, forall_const, true_implies, false_implies, implies_true, not_true_eq_false, not_false_eq_true, if_true, if_false, rgI, rgL, scr, swl, lkl, cats, cat, is2, List.drop_succ_cons, List.drop_zero, List.drop_nil, List.cons_append, List.nil_append, Option.toList_some, Option.toList_none, List.length_cons, List.length_nil, ne_eq, reduceCtorEq, Nat.reduceAdd, Nat.reduceSub, Nat.reduceMul, Nat.reduceLT, Nat.reduceLeDiff, Nat.reduceEqDiff, Nat.reduceBEq, Int.reduceToNat, Int.reduceLE, Int.reduceLT, Int.reduceEq, Int.reduceNeg, Int.reduceAdd, Int.reduceSub, Int.reduceMul, Int.toNat_natCast, Nat.zero_add, Int.add_zero, Nat.add_zero, ite_true, ite_false, Option.some.injEq, Nat.le_refl, or_true, true_or, or_false, false_or, if_pos, reduceIte, Nat.reduceGT]
  exact rt115 (b2i_01 _) ⟨rfl, rfl, rfl⟩
theorem m_weekOf (i : Nat) (M : MM) (hW : WFt M) (hi : i < hN M) : oI 1 117 [vR 55, vI i] M (len M i) := by
  have hH := hW.H
  have h1 := (hW.hs hi).1
  refine go117 (fun S hS => ?_)
  refine wpx_ok hS bk117 (sp := sp117) 60 0 _ _ _ _ ?_
  simp only [LCM, B2, Bool.not_eq_false, Bool.not_eq_true, decide_eq_true_eq, decide_eq_false_iff_not, Int.not_lt, Int.not_le, CST, TN, WX, WA, WB, GS, LOC, BT117, SP117, CLS, FLD, ARR, CD, true_and, and_true, and_self, forall_const, true_implies, false_implies, implies_true, not_true_eq_false, not_false_eq_true, if_true, if_false, rgI, rgL, scr, swl, lkl, cats, cat, is2, List.drop_succ_cons, List.drop_zero, List.drop_nil, List.cons_append, List.nil_append, Option.toList_some, Option.toList_none, List.length_cons, List.length_nil, ne_eq, reduceCtorEq, Nat.reduceAdd, Nat.reduceSub, Nat.reduceMul, Nat.reduceLT, Nat.reduceLeDiff, Nat.reduceEqDiff, Nat.reduceBEq, Int.reduceToNat, Int.reduceLE, Int.reduceLT, Int.reduceEq, Int.reduceNeg, Int.reduceAdd, Int.reduceSub, Int.reduceMul, Int.toNat_natCast, Nat.zero_add, Int.add_zero, Nat.add_zero, ite_true, ite_false, Option.some.injEq, Nat.le_refl, or_true, true_or, or_false, false_or, if_pos, reduceIte, Nat.reduceGT]
  refine ⟨by omega, by omega, ?_⟩
  exact rt117 ⟨rfl, rfl, rfl⟩
theorem m_isUp (i : Nat) (d : Int) (M : MM) (hW : WFt M) (hi : i < hN M) (hd : 0 ≤ d ∧ d ≤ 100000000000000000) : oI 2 118 [vR 55, vI i, vL d] M (b2i (!rsB M d i)) := by
  have hH := hW.H
  have h1 := hW.hs hi
  have h2 := hW.ln hi
  refine go118 (fun S hS => ?_)
  refine wpx_ok hS bk118 (sp := sp118) 60 0 _ _ _ _ ?_
  simp only [LCM, B2, Bool.not_eq_false, Bool.not_eq_true, decide_eq_true_eq, decide_eq_false_iff_not, Int.not_lt, Int.not_le, CST, TN, WX, WA, WB, GS, LOC, BT118, SP118, CLS, FLD, ARR, CD, true_and, and_true, and_self, forall_const, true_implies, false_implies, implies_true, not_true_eq_false, not_false_eq_true, if_true, if_false, rgI, rgL, scr, swl, lkl, cats, cat, is2, List.drop_succ_cons, List.drop_zero, List.drop_nil, List.cons_append, List.nil_append, Option.toList_some, Option.toList_none, List.length_cons, List.length_nil, ne_eq, reduceCtorEq, Nat.reduceAdd, Nat.reduceSub, Nat.reduceMul, Nat.reduceLT, Nat.reduceLeDiff, Nat.reduceEqDiff, Nat.reduceBEq, Int.reduceToNat, Int.reduceLE, Int.reduceLT, Int.reduceEq, Int.reduceNeg, Int.reduceAdd, Int.reduceSub, Int.reduceMul, Int.toNat_natCast, Nat.zero_add, Int.add_zero, Nat.add_zero, ite_true, ite_false, Option.some.injEq, Nat.le_refl, or_true, true_or, or_false, false_or, if_pos, reduceIte, Nat.reduceGT]
  refine ⟨rcv_ok rfl own117 rfl, kI (m_weekOf i M hW hi) (Nat.le_of_ble_eq_true rfl) rfl rfl (Nat.le_of_ble_eq_true rfl) (Nat.le_of_ble_eq_true rfl) rfl ?_⟩
  refine wpx_ok hS bk118 (sp := sp118) 60 6 _ _ _ _ ?_
  simp only [LCM, B2, Bool.not_eq_false, Bool.not_eq_true, decide_eq_true_eq, decide_eq_false_iff_not, Int.not_lt, Int.not_le, CST, TN, WX, WA, WB, GS, LOC, BT118, SP118, CLS, FLD, ARR, CD, true_and, and_true, and_self, forall_const, true_implies, false_implies, implies_true, not_true_eq_false, not_false_eq_true, if_true, if_false, rgI, rgL, scr, swl, lkl, cats, cat, is2, List.drop_succ_cons, List.drop_zero, List.drop_nil, List.cons_append, List.nil_append, Option.toList_some, Option.toList_none, List.length_cons, List.length_nil, ne_eq, reduceCtorEq, Nat.reduceAdd, Nat.reduceSub, Nat.reduceMul, Nat.reduceLT, Nat.reduceLeDiff, Nat.reduceEqDiff, Nat.reduceBEq, Int.reduceToNat, Int.reduceLE, Int.reduceLT, Int.reduceEq, Int.reduceNeg, Int.reduceAdd, Int.reduceSub, Int.reduceMul, Int.toNat_natCast, Nat.zero_add, Int.add_zero, Nat.add_zero, ite_true, ite_false, Option.some.injEq, Nat.le_refl, or_true, true_or, or_false, false_or, if_pos, reduceIte, Nat.reduceGT]
  have h3 := Int.emod_nonneg d (show len M i ≠ 0 by omega)
  have h4 := Int.emod_lt_of_pos d (show 0 < len M i by omega)
  refine ⟨by omega, by omega, by omega, by omega, by omega, by omega, fun h => ?_, fun h => ?_⟩
  · exact rt118 (by decide) ⟨rfl, by unfold rsB; rw [decide_eq_true h]; rfl, rfl⟩
  · exact rt118 (by decide) ⟨rfl, by unfold rsB; rw [decide_eq_false h]; rfl, rfl⟩
theorem pow_sm : ∀ i : Nat, i < 11 → 2 ^ i ≤ 1024 := by decide
theorem mkN_sm (p : Nat → Bool) {i : Nat} (h : i ≤ 10) : mkN p i < 1024 := Nat.lt_of_lt_of_le (mkN_lt p i) (pow_sm i (by omega))
theorem bOr_put (p : Nat → Bool) {i : Nat} (h : i < 10) (hp : p i = true) : bOr ((mkN p i : Nat) : Int) (bShl 1 (i : Int)) = ((mkN p (i + 1) : Nat) : Int) := by
  have h1 := mkN_sm p (i := i) (by omega)
  have h2 := pow_sm i (by omega)
  rw [bShl_1 (by omega), bOr_nat (by omega) (by omega), mkN, hp, if_pos rfl]
theorem bOr_skip (p : Nat → Bool) {i : Nat} (h : i < 10) (hp : p i = false) : bOr ((mkN p i : Nat) : Int) 0 = ((mkN p (i + 1) : Nat) : Int) := by
  have h1 := mkN_sm p (i := i) (by omega)
  have h2 : bOr ((mkN p i : Nat) : Int) ((0 : Nat) : Int) = _ := bOr_nat (by omega) (by omega)
  rw [mkN, hp, if_neg (by decide)]
  exact h2
theorem upP_of {T : MM} {d : Int} {i : Nat} (h : i < hN T) : upP T d i = !rsB T d i := by unfold upP; simp [h]
theorem mkN_cut {p : Nat → Bool} {h n : Nat} (hn : h ≤ n) (hp : ∀ i, h ≤ i → p i = false) : mkN p h = mkN p n := by
  apply Nat.eq_of_testBit_eq
  intro j
  rw [mkN_bit, mkN_bit]
  by_cases h1 : j < h
  · have h2 : j < n := by omega
    simp [h1, h2]
  · rw [hp j (by omega)]
    simp
theorem m_upOn (d : Int) (M : MM) (hW : WFt M) (hd : 0 ≤ d ∧ d ≤ 100000000000000000) : oI 3 120 [vR 55, vL d] M (upM M d) := by
  have hH := hW.H
  refine go120 (fun S hS => ?_)
  have head : ∀ (n i : Nat), i + n = hN M → S 5 [some (vR 55), some (vL d), none, some (vI (mkN (upP M d) i : Nat)), some (vI i)] [] (sh0, 0, 0) M := by
    intro n
    induction n with
    | zero =>
      intro i hi
      refine wpx_ok hS bk120 (sp := sp120) 60 5 _ _ _ _ ?_
      simp only [LCM, B2, Bool.not_eq_false, Bool.not_eq_true, decide_eq_true_eq, decide_eq_false_iff_not, Int.not_lt, Int.not_le, CST, TN, WX, WA, WB, GS, LOC, BT120, SP120, CLS, FLD, ARR, CD, true_and, and_true, and_self, forall_const, true_implies, false_implies, implies_true, not_true_eq_false, not_false_eq_true, if_true, if_false, rgI, rgL, scr, swl, lkl, cats, cat, is2, List.drop_succ_cons, List.drop_zero, List.drop_nil, List.cons_append, List.nil_append, Option.toList_some, Option.toList_none, List.length_cons, List.length_nil, ne_eq, reduceCtorEq, Nat.reduceAdd, Nat.reduceSub, Nat.reduceMul, Nat.reduceLT, Nat.reduceLeDiff, Nat.reduceEqDiff, Nat.reduceBEq, Int.reduceToNat, Int.reduceLE, Int.reduceLT, Int.reduceEq, Int.reduceNeg, Int.reduceAdd, Int.reduceSub, Int.reduceMul, Int.toNat_natCast, Nat.zero_add, Int.add_zero, Nat.add_zero, ite_true, ite_false, Option.some.injEq, Nat.le_refl, or_true, true_or, or_false, false_or, if_pos, reduceIte, Nat.reduceGT]
      refine ⟨by omega, fun h => ?_, fun h => by omega⟩
      refine rt120 ⟨rfl, ?_, rfl⟩
      congr 2
      unfold upM mk
      rw [mkN_cut (h := i) (n := 10) (by omega) (fun j hj => by unfold upP; rw [decide_eq_false (by omega)]; rfl)]
    | succ n ih =>
      intro i hi
      refine wpx_ok hS bk120 (sp := sp120) 60 5 _ _ _ _ ?_
      simp only [LCM, B2, Bool.not_eq_false, Bool.not_eq_true, decide_eq_true_eq, decide_eq_false_iff_not, Int.not_lt, Int.not_le, CST, TN, WX, WA, WB, GS, LOC, BT120, SP120, CLS, FLD, ARR, CD, true_and, and_true, and_self, forall_const, true_implies, false_implies, implies_true, not_true_eq_false, not_false_eq_true, if_true, if_false, rgI, rgL, scr, swl, lkl, cats, cat, is2, List.drop_succ_cons, List.drop_zero, List.drop_nil, List.cons_append, List.nil_append, Option.toList_some, Option.toList_none, List.length_cons, List.length_nil, ne_eq, reduceCtorEq, Nat.reduceAdd, Nat.reduceSub, Nat.reduceMul, Nat.reduceLT, Nat.reduceLeDiff, Nat.reduceEqDiff, Nat.reduceBEq, Int.reduceToNat, Int.reduceLE, Int.reduceLT, Int.reduceEq, Int.reduceNeg, Int.reduceAdd, Int.reduceSub, Int.reduceMul, Int.toNat_natCast, Nat.zero_add, Int.add_zero, Nat.add_zero, ite_true, ite_false, Option.some.injEq, Nat.le_refl, or_true, true_or, or_false, false_or, if_pos, reduceIte, Nat.reduceGT]
      refine ⟨by omega, fun h => by omega, fun h => ?_⟩
      refine ⟨rcv_ok rfl own118 rfl, kI (m_isUp i d M hW (by omega) hd) (Nat.le_of_ble_eq_true rfl) rfl rfl (Nat.le_of_ble_eq_true rfl) (Nat.le_of_ble_eq_true rfl) rfl ?_⟩
      refine wpx_ok hS bk120 (sp := sp120) 60 24 _ _ _ _ ?_
      simp only [LCM, B2, Bool.not_eq_false, Bool.not_eq_true, decide_eq_true_eq, decide_eq_false_iff_not, Int.not_lt, Int.not_le, CST, TN, WX, WA, WB, GS, LOC, BT120, SP120, CLS, FLD, ARR, CD, true_and, and_true, and_self, forall_const, true_implies, false_implies, implies_true, not_true_eq_false, not_false_eq_true, if_true, if_false, rgI, rgL, scr, swl, lkl, cats, cat, is2, List.drop_succ_cons, List.drop_zero, List.drop_nil, List.cons_append, List.nil_append, Option.toList_some, Option.toList_none, List.length_cons, List.length_nil, ne_eq, reduceCtorEq, Nat.reduceAdd, Nat.reduceSub, Nat.reduceMul, Nat.reduceLT, Nat.reduceLeDiff, Nat.reduceEqDiff, Nat.reduceBEq, Int.reduceToNat, Int.reduceLE, Int.reduceLT, Int.reduceEq, Int.reduceNeg, Int.reduceAdd, Int.reduceSub, Int.reduceMul, Int.toNat_natCast, Nat.zero_add, Int.add_zero, Nat.add_zero, ite_true, ite_false, Option.some.injEq, Nat.le_refl, or_true, true_or, or_false, false_or, if_pos, reduceIte, Nat.reduceGT]
      refine ⟨fun h1 => ?_, fun h1 => ?_⟩
      · rw [bOr_skip (upP M d) (by omega) (by rw [upP_of (by omega), h1])]
        exact ih (i + 1) (by omega)
      · rw [bOr_put (upP M d) (by omega) (by rw [upP_of (by omega), h1])]
        exact ih (i + 1) (by omega)
  refine wpx_ok hS bk120 (sp := sp120) 60 0 _ _ _ _ ?_
  simp only [LCM, B2, Bool.not_eq_false, Bool.not_eq_true, decide_eq_true_eq, decide_eq_false_iff_not, Int.not_lt, Int.not_le, CST, TN, WX, WA, WB, GS, LOC, BT120, SP120, CLS, FLD, ARR, CD, true_and, and_true, and_self, forall_const, true_implies, false_implies, implies_true, not_true_eq_false, not_false_eq_true, if_true, if_false, rgI, rgL, scr, swl, lkl, cats, cat, is2, List.drop_succ_cons, List.drop_zero, List.drop_nil, List.cons_append, List.nil_append, Option.toList_some, Option.toList_none, List.length_cons, List.length_nil, ne_eq, reduceCtorEq, Nat.reduceAdd, Nat.reduceSub, Nat.reduceMul, Nat.reduceLT, Nat.reduceLeDiff, Nat.reduceEqDiff, Nat.reduceBEq, Int.reduceToNat, Int.reduceLE, Int.reduceLT, Int.reduceEq, Int.reduceNeg, Int.reduceAdd, Int.reduceSub, Int.reduceMul, Int.toNat_natCast, Nat.zero_add, Int.add_zero, Nat.add_zero, ite_true, ite_false, Option.some.injEq, Nat.le_refl, or_true, true_or, or_false, false_or, if_pos, reduceIte, Nat.reduceGT]
  exact head (hN M) 0 (by omega)

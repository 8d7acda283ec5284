/-! cells that no answer hangs on between two calls -/
def tmp (k j : Nat) : Prop := (2 ≤ k ∧ k ≤ 17) ∨ (32 ≤ k ∧ k ≤ 44) ∨ (74 ≤ k ∧ k ≤ 78) ∨ k = 62 ∨ (k = 55 ∧ (j = 2 ∨ j = 25 ∨ j = 26 ∨ j = 29)) ∨ (k = 57 ∧ 2 ≤ j) ∨ ((k = 58 ∨ k = 59 ∨ k = 60) ∧ 1 ≤ j) ∨ (k = 61 ∧ 40 ≤ j) ∨ (k = 63 ∧ 18 ≤ j) ∨ (k = 64 ∧ 10 ≤ j)
def eqT (M M' : MM) : Prop := ∀ k j, ¬ tmp k j → M' k j = M k j
theorem eqT.rf (M : MM) : eqT M M := fun _ _ _ => rfl
theorem eqT.tr {A B C : MM} (h : eqT A B) (g : eqT B C) : eqT A C := fun k j hk => (g k j hk).trans (h k j hk)
theorem eqT.set {A B : MM} (h : eqT A B) {k j : Nat} (a : Int) (ht : tmp k j) : eqT A (mset B k j a) := by
  intro k' j' hk
  unfold mset
  rw [if_neg (fun z => hk (by rw [z.1, z.2]; exact ht))]
  exact h k' j' hk
/-! the answers -/
def f_up (T : MM) (d : Int) : Int := if isDayB d then upM T d else -1
def f_hands (T : MM) (s d : Int) : Int := if 0 ≤ s ∧ s ≤ 4 ∧ isDayB d = true then hands T s.toNat d else -1
def anyS (T : MM) (d : Int) : Bool := (shO T d).isSome
def f_judge (T : MM) (d : Int) (what : Int) : Int := if isDayB d = true ∧ 0 ≤ what ∧ what ≤ 1 then (match fstF (fun k => anyS T (d + k)) 0 1000 with | some k => if what = 0 then d + k else oZ (shO T (d + k)) (-1) | none => -4) else -1
def stOn (T : MM) (w : Nat) : Nat → Int
  | 0 => 0
  | d + 1 => if shrt T w d then stOn T w d + 1 else 0
def stN (T : MM) (w : Nat) : Nat → Int
  | 0 => 0
  | d + 1 => stN T w d + (if PN T ≤ d ∧ T 63 (3 * w + 2) ≤ stOn T w (d + 1) then 1 else 0)
def f_still (T : MM) (w : Int) : Int := if 0 ≤ w ∧ w < T 59 0 then stN T w.toNat (2 * PN T) else -1
def dayK (x : Option Nat) (d : Int) : Int := match x with
  | some k => d + k
  | none => -4
def f_together (T : MM) (x d : Int) : Int := if isSetB T x = true ∧ isDayB d = true then dayK (fstF (fun k => auB T x (d + k)) 0 (PN T)) d else -1
def f_often (T : MM) (x d n : Int) : Int := if isSetB T x = true ∧ isDayB d = true ∧ 0 ≤ n ∧ n ≤ 1000000000000 then n / PN T * cnt (fun k => auB T x (d + k)) (PN T) + cnt (fun k => auB T x (d + k)) (n % PN T).toNat else -1
def lgW (T : MM) (x : Int) : Nat → Int
  | 0 => 0
  | d + 1 => if auB T x d then 0 else lgW T x d + 1
def lgM (T : MM) (x : Int) : Nat → Int
  | 0 => 0
  | d + 1 => if lgM T x d < lgW T x (d + 1) then lgW T x (d + 1) else lgM T x d
def lgE (T : MM) (x : Int) : Nat → Bool
  | 0 => false
  | d + 1 => lgE T x d || auB T x d
def f_longest (T : MM) (x : Int) : Int := if isSetB T x then (if lgE T x (2 * PN T) then lgM T x (2 * PN T) else -4) else -1
def stP (T : MM) (t : Int) (i : Nat) : Bool := decide (i < hN T) && decide (T 61 (4 * i + 3) = t)
def f_street (T : MM) (t d : Int) : Int := if 0 ≤ t ∧ t ≤ 3 ∧ isDayB d = true then (if mk (stP T t) = 0 then -4 else dayK (fstF (fun k => decide (bAnd (mk (stP T t)) (upM T (d + k)) = 0)) 0 (PN T)) d) else -1
def rcD (T : MM) (d : Int) : Int := T 58 0 - cnt (upP T d) 10
def msV (T : MM) : Nat → Int
  | 0 => -1
  | d + 1 => if msV T d < rcD T d then rcD T d else msV T d
def msD (T : MM) (x : Int) : Nat → Int
  | 0 => x
  | d + 1 => if msV T d < rcD T d then d else msD T x d
def f_same (T : MM) (what : Int) : Int := if 0 ≤ what ∧ what ≤ 1 then (if what = 0 then msV T (PN T) else msD T 0 (PN T)) else -1
def hsum (T : MM) (s : Nat) (d : Int) : Nat → Int
  | 0 => 0
  | k + 1 => hsum T s d k + hands T s (d + k)
def hvO (T : MM) (s : Nat) (d : Int) : Nat → Int → Nat → Int
  | 0, _, j => j
  | n + 1, left, j => if left ≤ 0 then j else hvO T s d n (left - hands T s (d + j)) (j + 1)
def f_harvest (T : MM) (s d h : Int) : Int := if 0 ≤ s ∧ s ≤ 4 ∧ isDayB d = true ∧ 1 ≤ h ∧ h ≤ 1000000000000 then (if hsum T s.toNat d (PN T) = 0 then -4 else (h - 1) / hsum T s.toNat d (PN T) * PN T + hvO T s.toNat d (PN T) (h - (h - 1) / hsum T s.toNat d (PN T) * hsum T s.toNat d (PN T)) 0) else -1
theorem isDayB_iff {d : Int} : isDayB d = true ↔ 0 ≤ d ∧ d ≤ 1000000000000000 := by unfold isDayB; simp
theorem m_up (d : Int) (M : MM) (hW : WFt M) (hd : rgL d) : oI 4 123 [vR 55, vL d] M (f_up M d) := by
  refine go123 (fun S hS => ?_)
  refine wpx_ok hS bk123 (sp := sp123) 60 0 _ _ _ _ ?_
  simp only [LCM, B2, Bool.not_eq_false, Bool.not_eq_true, decide_eq_true_eq, decide_eq_false_iff_not, Int.not_lt, Int.not_le, CST, TN, WX, WA, WB, GS, LOC, BT123, SP123, CLS, FLD, ARR, CD, true_and, and_true, and_self, forall_const, true_implies, false_implies, implies_true, not_true_eq_false, not_false_eq_true, if_true, if_false, rgI, rgL, scr, swl, lkl, cats, cat, is2, List.drop_succ_cons, List.drop_zero, List.drop_nil, List.cons_append, List.nil_append, Option.toList_some, Option.toList_none, List.length_cons, List.length_nil, ne_eq, Classical.not_not, reduceCtorEq, Nat.reduceAdd, Nat.reduceSub, Nat.reduceMul, Nat.reduceLT, Nat.reduceLeDiff, Nat.reduceEqDiff, Nat.reduceBEq, Int.reduceToNat, Int.reduceLE, Int.reduceLT, Int.reduceEq, Int.reduceNeg, Int.reduceAdd, Int.reduceSub, Int.reduceMul, Int.toNat_natCast, Nat.zero_add, Int.add_zero, Nat.add_zero, ite_true, ite_false, Option.some.injEq, Nat.le_refl, or_true, true_or, or_false, false_or, if_pos, reduceIte, Nat.reduceGT]
  refine kI (m_isDay d M hd) (Nat.le_of_ble_eq_true rfl) rfl rfl (Nat.le_of_ble_eq_true rfl) (Nat.le_of_ble_eq_true rfl) rfl ?_
  refine wpx_ok hS bk123 (sp := sp123) 60 4 _ _ _ _ ?_
  simp only [LCM, B2, Bool.not_eq_false, Bool.not_eq_true, decide_eq_true_eq, decide_eq_false_iff_not, Int.not_lt, Int.not_le, CST, TN, WX, WA, WB, GS, LOC, BT123, SP123, CLS, FLD, ARR, CD, true_and, and_true, and_self, forall_const, true_implies, false_implies, implies_true, not_true_eq_false, not_false_eq_true, if_true, if_false, rgI, rgL, scr, swl, lkl, cats, cat, is2, List.drop_succ_cons, List.drop_zero, List.drop_nil, List.cons_append, List.nil_append, Option.toList_some, Option.toList_none, List.length_cons, List.length_nil, ne_eq, Classical.not_not, reduceCtorEq, Nat.reduceAdd, Nat.reduceSub, Nat.reduceMul, Nat.reduceLT, Nat.reduceLeDiff, Nat.reduceEqDiff, Nat.reduceBEq, Int.reduceToNat, Int.reduceLE, Int.reduceLT, Int.reduceEq, Int.reduceNeg, Int.reduceAdd, Int.reduceSub, Int.reduceMul, Int.toNat_natCast, Nat.zero_add, Int.add_zero, Nat.add_zero, ite_true, ite_false, Option.some.injEq, Nat.le_refl, or_true, true_or, or_false, false_or, if_pos, reduceIte, Nat.reduceGT]
  refine ⟨fun h => ?_, fun h => ?_⟩
  · exact rt123 ⟨rfl, by unfold f_up; rw [h]; rfl, rfl⟩
  · have h1 := isDayB_iff.mp h
    refine ⟨rcv_ok rfl own120 rfl, kI (m_upOn d M hW (by omega)) (Nat.le_of_ble_eq_true rfl) rfl rfl (Nat.le_of_ble_eq_true rfl) (Nat.le_of_ble_eq_true rfl) rfl ?_⟩
    refine wpx_ok hS bk123 (sp := sp123) 60 12 _ _ _ _ ?_
    simp only [LCM, B2, Bool.not_eq_false, Bool.not_eq_true, decide_eq_true_eq, decide_eq_false_iff_not, Int.not_lt, Int.not_le, CST, TN, WX, WA, WB, GS, LOC, BT123, SP123, CLS, FLD, ARR, CD, true_and, and_true, and_self, forall_const, true_implies, false_implies, implies_true, not_true_eq_false, not_false_eq_true, if_true, if_false, rgI, rgL, scr, swl, lkl, cats, cat, is2, List.drop_succ_cons, List.drop_zero, List.drop_nil, List.cons_append, List.nil_append, Option.toList_some, Option.toList_none, List.length_cons, List.length_nil, ne_eq, Classical.not_not, reduceCtorEq, Nat.reduceAdd, Nat.reduceSub, Nat.reduceMul, Nat.reduceLT, Nat.reduceLeDiff, Nat.reduceEqDiff, Nat.reduceBEq, Int.reduceToNat, Int.reduceLE, Int.reduceLT, Int.reduceEq, Int.reduceNeg, Int.reduceAdd, Int.reduceSub, Int.reduceMul, Int.toNat_natCast, Nat.zero_add, Int.add_zero, Nat.add_zero, ite_true, ite_false, Option.some.injEq, Nat.le_refl, or_true, true_or, or_false, false_or, if_pos, reduceIte, Nat.reduceGT]
    exact rt123 ⟨rfl, by unfold f_up; rw [h]; rfl, rfl⟩
theorem m_hands (s d : Int) (M : MM) (hW : WFt M) (hs : rgI s) (hd : rgL d) : oI 4 124 [vR 55, vI s, vL d] M (f_hands M s d) := by
  refine go124 (fun S hS => ?_)
  refine wpx_ok hS bk124 (sp := sp124) 60 0 _ _ _ _ ?_
  simp only [LCM, B2, Bool.not_eq_false, Bool.not_eq_true, decide_eq_true_eq, decide_eq_false_iff_not, Int.not_lt, Int.not_le, CST, TN, WX, WA, WB, GS, LOC, BT124, SP124, CLS, FLD, ARR, CD, true_and, and_true, and_self, forall_const, true_implies, false_implies, implies_true, not_true_eq_false, not_false_eq_true, if_true, if_false, rgI, rgL, scr, swl, lkl, cats, cat, is2, List.drop_succ_cons, List.drop_zero, List.drop_nil, List.cons_append, List.nil_append, Option.toList_some, Option.toList_none, List.length_cons, List.length_nil, ne_eq, Classical.not_not, reduceCtorEq, Nat.reduceAdd, Nat.reduceSub, Nat.reduceMul, Nat.reduceLT, Nat.reduceLeDiff, Nat.reduceEqDiff, Nat.reduceBEq, Int.reduceToNat, Int.reduceLE, Int.reduceLT, Int.reduceEq, Int.reduceNeg, Int.reduceAdd, Int.reduceSub, Int.reduceMul, Int.toNat_natCast, Nat.zero_add, Int.add_zero, Nat.add_zero, ite_true, ite_false, Option.some.injEq, Nat.le_refl, or_true, true_or, or_false, false_or, if_pos, reduceIte, Nat.reduceGT]
  refine ⟨hs, ?_⟩
  refine kI (c_in s 0 4 M (by unfold rgL rgI at *; omega) (by unfold rgL; omega) (by unfold rgL; omega)) (Nat.le_of_ble_eq_true rfl) rfl rfl (Nat.le_of_ble_eq_true rfl) (Nat.le_of_ble_eq_true rfl) rfl ?_
  refine wpx_ok hS bk124 (sp := sp124) 60 9 _ _ _ _ ?_
  simp only [LCM, B2, Bool.not_eq_false, Bool.not_eq_true, decide_eq_true_eq, decide_eq_false_iff_not, Int.not_lt, Int.not_le, CST, TN, WX, WA, WB, GS, LOC, BT124, SP124, CLS, FLD, ARR, CD, true_and, and_true, and_self, forall_const, true_implies, false_implies, implies_true, not_true_eq_false, not_false_eq_true, if_true, if_false, rgI, rgL, scr, swl, lkl, cats, cat, is2, List.drop_succ_cons, List.drop_zero, List.drop_nil, List.cons_append, List.nil_append, Option.toList_some, Option.toList_none, List.length_cons, List.length_nil, ne_eq, Classical.not_not, reduceCtorEq, Nat.reduceAdd, Nat.reduceSub, Nat.reduceMul, Nat.reduceLT, Nat.reduceLeDiff, Nat.reduceEqDiff, Nat.reduceBEq, Int.reduceToNat, Int.reduceLE, Int.reduceLT, Int.reduceEq, Int.reduceNeg, Int.reduceAdd, Int.reduceSub, Int.reduceMul, Int.toNat_natCast, Nat.zero_add, Int.add_zero, Nat.add_zero, ite_true, ite_false, Option.some.injEq, Nat.le_refl, or_true, true_or, or_false, false_or, if_pos, reduceIte, Nat.reduceGT]
  refine ⟨fun h => ?_, fun h => ?_⟩
  · exact rt124 ⟨rfl, by unfold f_hands; rw [if_neg (fun z => h ⟨z.1, z.2.1⟩)], rfl⟩
  · refine kI (m_isDay d M hd) (Nat.le_of_ble_eq_true rfl) rfl rfl (Nat.le_of_ble_eq_true rfl) (Nat.le_of_ble_eq_true rfl) rfl ?_
    refine wpx_ok hS bk124 (sp := sp124) 60 16 _ _ _ _ ?_
    simp only [LCM, B2, Bool.not_eq_false, Bool.not_eq_true, decide_eq_true_eq, decide_eq_false_iff_not, Int.not_lt, Int.not_le, CST, TN, WX, WA, WB, GS, LOC, BT124, SP124, CLS, FLD, ARR, CD, true_and, and_true, and_self, forall_const, true_implies, false_implies, implies_true, not_true_eq_false, not_false_eq_true, if_true, if_false, rgI, rgL, scr, swl, lkl, cats, cat, is2, List.drop_succ_cons, List.drop_zero, List.drop_nil, List.cons_append, List.nil_append, Option.toList_some, Option.toList_none, List.length_cons, List.length_nil, ne_eq, Classical.not_not, reduceCtorEq, Nat.reduceAdd, Nat.reduceSub, Nat.reduceMul, Nat.reduceLT, Nat.reduceLeDiff, Nat.reduceEqDiff, Nat.reduceBEq, Int.reduceToNat, Int.reduceLE, Int.reduceLT, Int.reduceEq, Int.reduceNeg, Int.reduceAdd, Int.reduceSub, Int.reduceMul, Int.toNat_natCast, Nat.zero_add, Int.add_zero, Nat.add_zero, ite_true, ite_false, Option.some.injEq, Nat.le_refl, or_true, true_or, or_false, false_or, if_pos, reduceIte, Nat.reduceGT]
    refine ⟨fun h1 => ?_, fun h1 => ?_⟩
    · exact rt124 ⟨rfl, by unfold f_hands; rw [if_neg (fun z => by rw [h1] at z; exact absurd z.2.2 (by decide))], rfl⟩
    · have h2 := isDayB_iff.mp h1
      obtain ⟨n, rfl⟩ : ∃ n : Nat, s = (n : Int) := ⟨s.toNat, by omega⟩
      refine ⟨rcv_ok rfl own122 rfl, kI (m_handsOn n d M hW (by omega) (by omega)) (Nat.le_of_ble_eq_true rfl) rfl rfl (Nat.le_of_ble_eq_true rfl) (Nat.le_of_ble_eq_true rfl) rfl ?_⟩
      refine wpx_ok hS bk124 (sp := sp124) 60 25 _ _ _ _ ?_
      simp only [LCM, B2, Bool.not_eq_false, Bool.not_eq_true, decide_eq_true_eq, decide_eq_false_iff_not, Int.not_lt, Int.not_le, CST, TN, WX, WA, WB, GS, LOC, BT124, SP124, CLS, FLD, ARR, CD, true_and, and_true, and_self, forall_const, true_implies, false_implies, implies_true, not_true_eq_false, not_false_eq_true, if_true, if_false, rgI, rgL, scr, swl, lkl, cats, cat, is2, List.drop_succ_cons, List.drop_zero, List.drop_nil, List.cons_append, List.nil_append, Option.toList_some, Option.toList_none, List.length_cons, List.length_nil, ne_eq, Classical.not_not, reduceCtorEq, Nat.reduceAdd, Nat.reduceSub, Nat.reduceMul, Nat.reduceLT, Nat.reduceLeDiff, Nat.reduceEqDiff, Nat.reduceBEq, Int.reduceToNat, Int.reduceLE, Int.reduceLT, Int.reduceEq, Int.reduceNeg, Int.reduceAdd, Int.reduceSub, Int.reduceMul, Int.toNat_natCast, Nat.zero_add, Int.add_zero, Nat.add_zero, ite_true, ite_false, Option.some.injEq, Nat.le_refl, or_true, true_or, or_false, false_or, if_pos, reduceIte, Nat.reduceGT]
      exact rt124 ⟨rfl, by unfold f_hands; rw [if_pos ⟨h.1, h.2, h1⟩, Int.toNat_natCast], rfl⟩
theorem shO_rg {T : MM} {d : Int} (h : WFt T) : -1 ≤ oZ (shO T d) (-1) ∧ oZ (shO T d) (-1) < 6 ∧ (anyS T d = true ↔ 0 ≤ oZ (shO T d) (-1)) := by
  have hf : ∀ (p : Nat → Bool) (n i k : Nat), fstF p i n = some k → k < i + n := by
    intro p n
    induction n with
    | zero => intro i k hk; cases hk
    | succ n ih =>
      intro i k hk
      rw [fstF] at hk
      split at hk
      · cases hk; omega
      · have := ih (i + 1) k hk; omega
  have hw := h.W
  unfold anyS
  cases hs : shO T d with
  | none => simp [oZ]
  | some k =>
    have := hf _ _ _ _ hs
    simp [oZ]
    omega
theorem m_judge (d what : Int) (M : MM) (hW : WFt M) (hd : rgL d) (hw : rgI what) : oL 6 127 [vR 55, vL d, vI what] M (f_judge M d what) := by
  refine go127 (fun S hS => ?_)
  refine wpx_ok hS bk127 (sp := sp127) 60 0 _ _ _ _ ?_
  simp only [LCM, B2, Bool.not_eq_false, Bool.not_eq_true, decide_eq_true_eq, decide_eq_false_iff_not, Int.not_lt, Int.not_le, CST, TN, WX, WA, WB, GS, LOC, BT127, SP127, CLS, FLD, ARR, CD, true_and, and_true, and_self, forall_const, true_implies, false_implies, implies_true, not_true_eq_false, not_false_eq_true, if_true, if_false, rgI, rgL, scr, swl, lkl, cats, cat, is2, List.drop_succ_cons, List.drop_zero, List.drop_nil, List.cons_append, List.nil_append, Option.toList_some, Option.toList_none, List.length_cons, List.length_nil, ne_eq, Classical.not_not, reduceCtorEq, Nat.reduceAdd, Nat.reduceSub, Nat.reduceMul, Nat.reduceLT, Nat.reduceLeDiff, Nat.reduceEqDiff, Nat.reduceBEq, Int.reduceToNat, Int.reduceLE, Int.reduceLT, Int.reduceEq, Int.reduceNeg, Int.reduceAdd, Int.reduceSub, Int.reduceMul, Int.toNat_natCast, Nat.zero_add, Int.add_zero, Nat.add_zero, ite_true, ite_false, Option.some.injEq, Nat.le_refl, or_true, true_or, or_false, false_or, if_pos, reduceIte, Nat.reduceGT]
  refine kI (m_isDay d M hd) (Nat.le_of_ble_eq_true rfl) rfl rfl (Nat.le_of_ble_eq_true rfl) (Nat.le_of_ble_eq_true rfl) rfl ?_
  refine wpx_ok hS bk127 (sp := sp127) 60 4 _ _ _ _ ?_
  simp only [LCM, B2, Bool.not_eq_false, Bool.not_eq_true, decide_eq_true_eq, decide_eq_false_iff_not, Int.not_lt, Int.not_le, CST, TN, WX, WA, WB, GS, LOC, BT127, SP127, CLS, FLD, ARR, CD, true_and, and_true, and_self, forall_const, true_implies, false_implies, implies_true, not_true_eq_false, not_false_eq_true, if_true, if_false, rgI, rgL, scr, swl, lkl, cats, cat, is2, List.drop_succ_cons, List.drop_zero, List.drop_nil, List.cons_append, List.nil_append, Option.toList_some, Option.toList_none, List.length_cons, List.length_nil, ne_eq, Classical.not_not, reduceCtorEq, Nat.reduceAdd, Nat.reduceSub, Nat.reduceMul, Nat.reduceLT, Nat.reduceLeDiff, Nat.reduceEqDiff, Nat.reduceBEq, Int.reduceToNat, Int.reduceLE, Int.reduceLT, Int.reduceEq, Int.reduceNeg, Int.reduceAdd, Int.reduceSub, Int.reduceMul, Int.toNat_natCast, Nat.zero_add, Int.add_zero, Nat.add_zero, ite_true, ite_false, Option.some.injEq, Nat.le_refl, or_true, true_or, or_false, false_or, if_pos, reduceIte, Nat.reduceGT]
  refine ⟨fun h => ?_, fun h => ?_⟩
  · exact rt127 ⟨rfl, by unfold f_judge; rw [if_neg (fun z => by rw [h] at z; exact absurd z.1 (by decide))], rfl⟩
  · have h1 := isDayB_iff.mp h
    refine ⟨hw, ?_⟩
    refine kI (c_in what 0 1 M (by unfold rgL rgI at *; omega) (by unfold rgL; omega) (by unfold rgL; omega)) (Nat.le_of_ble_eq_true rfl) rfl rfl (Nat.le_of_ble_eq_true rfl) (Nat.le_of_ble_eq_true rfl) rfl ?_
    refine wpx_ok hS bk127 (sp := sp127) 60 14 _ _ _ _ ?_
    simp only [LCM, B2, Bool.not_eq_false, Bool.not_eq_true, decide_eq_true_eq, decide_eq_false_iff_not, Int.not_lt, Int.not_le, CST, TN, WX, WA, WB, GS, LOC, BT127, SP127, CLS, FLD, ARR, CD, true_and, and_true, and_self, forall_const, true_implies, false_implies, implies_true, not_true_eq_false, not_false_eq_true, if_true, if_false, rgI, rgL, scr, swl, lkl, cats, cat, is2, List.drop_succ_cons, List.drop_zero, List.drop_nil, List.cons_append, List.nil_append, Option.toList_some, Option.toList_none, List.length_cons, List.length_nil, ne_eq, Classical.not_not, reduceCtorEq, Nat.reduceAdd, Nat.reduceSub, Nat.reduceMul, Nat.reduceLT, Nat.reduceLeDiff, Nat.reduceEqDiff, Nat.reduceBEq, Int.reduceToNat, Int.reduceLE, Int.reduceLT, Int.reduceEq, Int.reduceNeg, Int.reduceAdd, Int.reduceSub, Int.reduceMul, Int.toNat_natCast, Nat.zero_add, Int.add_zero, Nat.add_zero, ite_true, ite_false, Option.some.injEq, Nat.le_refl, or_true, true_or, or_false, false_or, if_pos, reduceIte, Nat.reduceGT]
    refine ⟨fun h2 => ?_, fun h2 => ?_⟩
    · have head : ∀ (n k : Nat) (o6 : Option AV), k + n = 1000 → fstF (fun k => anyS M (d + k)) k n = fstF (fun k => anyS M (d + k)) 0 1000 → S 24 [some (vR 55), some (vL d), none, some (vI what), some (vL (d + k)), none, o6] [] (sh0, 0, 0) M := by
        intro n
        induction n with
        | zero =>
          intro k o6 hk hf
          refine wpx_ok hS bk127 (sp := sp127) 60 24 _ _ _ _ ?_
          simp only [LCM, B2, Bool.not_eq_false, Bool.not_eq_true, decide_eq_true_eq, decide_eq_false_iff_not, Int.not_lt, Int.not_le, CST, TN, WX, WA, WB, GS, LOC, BT127, SP127, CLS, FLD, ARR, CD, true_and, and_true, and_self, forall_const, true_implies, false_implies, implies_true, not_true_eq_false, not_false_eq_true, if_true, if_false, rgI, rgL, scr, swl, lkl, cats, cat, is2, List.drop_succ_cons, List.drop_zero, List.drop_nil, List.cons_append, List.nil_append, Option.toList_some, Option.toList_none, List.length_cons, List.length_nil, ne_eq, Classical.not_not, reduceCtorEq, Nat.reduceAdd, Nat.reduceSub, Nat.reduceMul, Nat.reduceLT, Nat.reduceLeDiff, Nat.reduceEqDiff, Nat.reduceBEq, Int.reduceToNat, Int.reduceLE, Int.reduceLT, Int.reduceEq, Int.reduceNeg, Int.reduceAdd, Int.reduceSub, Int.reduceMul, Int.toNat_natCast, Nat.zero_add, Int.add_zero, Nat.add_zero, ite_true, ite_false, Option.some.injEq, Nat.le_refl, or_true, true_or, or_false, false_or, if_pos, reduceIte, Nat.reduceGT]
          refine ⟨by omega, by omega, fun h3 => ?_, fun h3 => by omega⟩
          exact rt127 ⟨rfl, by unfold f_judge; rw [if_pos ⟨h, h2⟩, ← hf]; rfl, rfl⟩
        | succ n ih =>
          intro k o6 hk hf
          rw [fstF] at hf
          refine wpx_ok hS bk127 (sp := sp127) 60 24 _ _ _ _ ?_
          simp only [LCM, B2, Bool.not_eq_false, Bool.not_eq_true, decide_eq_true_eq, decide_eq_false_iff_not, Int.not_lt, Int.not_le, CST, TN, WX, WA, WB, GS, LOC, BT127, SP127, CLS, FLD, ARR, CD, true_and, and_true, and_self, forall_const, true_implies, false_implies, implies_true, not_true_eq_false, not_false_eq_true, if_true, if_false, rgI, rgL, scr, swl, lkl, cats, cat, is2, List.drop_succ_cons, List.drop_zero, List.drop_nil, List.cons_append, List.nil_append, Option.toList_some, Option.toList_none, List.length_cons, List.length_nil, ne_eq, Classical.not_not, reduceCtorEq, Nat.reduceAdd, Nat.reduceSub, Nat.reduceMul, Nat.reduceLT, Nat.reduceLeDiff, Nat.reduceEqDiff, Nat.reduceBEq, Int.reduceToNat, Int.reduceLE, Int.reduceLT, Int.reduceEq, Int.reduceNeg, Int.reduceAdd, Int.reduceSub, Int.reduceMul, Int.toNat_natCast, Nat.zero_add, Int.add_zero, Nat.add_zero, ite_true, ite_false, Option.some.injEq, Nat.le_refl, or_true, true_or, or_false, false_or, if_pos, reduceIte, Nat.reduceGT]
          refine ⟨by omega, by omega, fun h3 => by omega, fun h3 => ?_⟩
          refine ⟨rcv_ok rfl own126 rfl, kI (m_shortOn (d + k) M hW (by omega)) (Nat.le_of_ble_eq_true rfl) rfl rfl (Nat.le_of_ble_eq_true rfl) (Nat.le_of_ble_eq_true rfl) rfl ?_⟩
          have hr := shO_rg (d := d + k) hW
          refine wpx_ok hS bk127 (sp := sp127) 60 41 _ _ _ _ ?_
          simp only [LCM, B2, Bool.not_eq_false, Bool.not_eq_true, decide_eq_true_eq, decide_eq_false_iff_not, Int.not_lt, Int.not_le, CST, TN, WX, WA, WB, GS, LOC, BT127, SP127, CLS, FLD, ARR, CD, true_and, and_true, and_self, forall_const, true_implies, false_implies, implies_true, not_true_eq_false, not_false_eq_true, if_true, if_false, rgI, rgL, scr, swl, lkl, cats, cat, is2, List.drop_succ_cons, List.drop_zero, List.drop_nil, List.cons_append, List.nil_append, Option.toList_some, Option.toList_none, List.length_cons, List.length_nil, ne_eq, Classical.not_not, reduceCtorEq, Nat.reduceAdd, Nat.reduceSub, Nat.reduceMul, Nat.reduceLT, Nat.reduceLeDiff, Nat.reduceEqDiff, Nat.reduceBEq, Int.reduceToNat, Int.reduceLE, Int.reduceLT, Int.reduceEq, Int.reduceNeg, Int.reduceAdd, Int.reduceSub, Int.reduceMul, Int.toNat_natCast, Nat.zero_add, Int.add_zero, Nat.add_zero, ite_true, ite_false, Option.some.injEq, Nat.le_refl, or_true, true_or, or_false, false_or, if_pos, reduceIte, Nat.reduceGT]
          refine ⟨by omega, fun h4 => ?_, fun h4 => ⟨hw, fun h5 => ⟨by omega, ?_⟩, fun h5 => ?_⟩⟩
          · have h6 : anyS M (d + k) = false := by
              cases hz : anyS M (d + k) with
              | false => rfl
              | true => rw [hr.2.2] at hz; omega
            rw [h6] at hf
            have := ih (k + 1) (some (vI (oZ (shO M (d + k)) (-1)))) (by omega) hf
            rw [show d + ((k + 1 : Nat) : Int) = d + k + 1 by omega] at this
            exact this
          · rw [hr.2.2.mpr h4, if_pos rfl] at hf
            exact rt127 ⟨rfl, by unfold f_judge; rw [if_pos ⟨h, h2⟩, ← hf]; simp only; rw [if_neg h5], rfl⟩
          · rw [hr.2.2.mpr h4, if_pos rfl] at hf
            exact rt127 ⟨rfl, by unfold f_judge; rw [if_pos ⟨h, h2⟩, ← hf]; simp only; rw [if_pos h5], rfl⟩
      have := head 1000 0 none (by omega) rfl
      rw [show d + ((0 : Nat) : Int) = d by omega] at this
      exact this
    · exact rt127 ⟨rfl, by unfold f_judge; rw [if_neg (fun z => h2 z.2)], rfl⟩
theorem stOn_rg (T : MM) (w : Nat) : ∀ d : Nat, 0 ≤ stOn T w d ∧ stOn T w d ≤ d
  | 0 => by simp [stOn]
  | d + 1 => by
    have := stOn_rg T w d
    rw [stOn]
    split <;> omega
theorem stN_rg (T : MM) (w : Nat) : ∀ d : Nat, 0 ≤ stN T w d ∧ stN T w d ≤ d
  | 0 => by simp [stN]
  | d + 1 => by
    have := stN_rg T w d
    rw [stN]
    split <;> omega
theorem m_still (w : Int) (M : MM) (hW : WFt M) (hw : rgI w) : oI 5 128 [vR 55, vI w] M (f_still M w) := by
  have hP := hW.P
  refine go128 (fun S hS => ?_)
  refine wpx_ok hS bk128 (sp := sp128) 60 0 _ _ _ _ ?_
  simp only [LCM, B2, Bool.not_eq_false, Bool.not_eq_true, decide_eq_true_eq, decide_eq_false_iff_not, Int.not_lt, Int.not_le, CST, TN, WX, WA, WB, GS, LOC, BT128, SP128, CLS, FLD, ARR, CD, true_and, and_true, and_self, forall_const, true_implies, false_implies, implies_true, not_true_eq_false, not_false_eq_true, if_true, if_false, rgI, rgL, scr, swl, lkl, cats, cat, is2, List.drop_succ_cons, List.drop_zero, List.drop_nil, List.cons_append, List.nil_append, Option.toList_some, Option.toList_none, List.length_cons, List.length_nil, ne_eq, Classical.not_not, reduceCtorEq, Nat.reduceAdd, Nat.reduceSub, Nat.reduceMul, Nat.reduceLT, Nat.reduceLeDiff, Nat.reduceEqDiff, Nat.reduceBEq, Int.reduceToNat, Int.reduceLE, Int.reduceLT, Int.reduceEq, Int.reduceNeg, Int.reduceAdd, Int.reduceSub, Int.reduceMul, Int.toNat_natCast, Nat.zero_add, Int.add_zero, Nat.add_zero, ite_true, ite_false, Option.some.injEq, Nat.le_refl, or_true, true_or, or_false, false_or, if_pos, reduceIte, Nat.reduceGT]
  refine ⟨rcv_ok rfl own114 rfl, kI (m_isWork w M hw hW) (Nat.le_of_ble_eq_true rfl) rfl rfl (Nat.le_of_ble_eq_true rfl) (Nat.le_of_ble_eq_true rfl) rfl ?_⟩
  refine wpx_ok hS bk128 (sp := sp128) 60 5 _ _ _ _ ?_
  simp only [LCM, B2, Bool.not_eq_false, Bool.not_eq_true, decide_eq_true_eq, decide_eq_false_iff_not, Int.not_lt, Int.not_le, CST, TN, WX, WA, WB, GS, LOC, BT128, SP128, CLS, FLD, ARR, CD, true_and, and_true, and_self, forall_const, true_implies, false_implies, implies_true, not_true_eq_false, not_false_eq_true, if_true, if_false, rgI, rgL, scr, swl, lkl, cats, cat, is2, List.drop_succ_cons, List.drop_zero, List.drop_nil, List.cons_append, List.nil_append, Option.toList_some, Option.toList_none, List.length_cons, List.length_nil, ne_eq, Classical.not_not, reduceCtorEq, Nat.reduceAdd, Nat.reduceSub, Nat.reduceMul, Nat.reduceLT, Nat.reduceLeDiff, Nat.reduceEqDiff, Nat.reduceBEq, Int.reduceToNat, Int.reduceLE, Int.reduceLT, Int.reduceEq, Int.reduceNeg, Int.reduceAdd, Int.reduceSub, Int.reduceMul, Int.toNat_natCast, Nat.zero_add, Int.add_zero, Nat.add_zero, ite_true, ite_false, Option.some.injEq, Nat.le_refl, or_true, true_or, or_false, false_or, if_pos, reduceIte, Nat.reduceGT]
  refine ⟨fun h => ?_, fun h => ?_⟩
  · obtain ⟨n, rfl⟩ : ∃ n : Nat, w = (n : Int) := ⟨w.toNat, by omega⟩
    have hn : n < wN M := by have := hW.W; omega
    have hwk := hW.wk hn
    have hwW := hW.W
    have head : ∀ (m d : Nat), d + m = 2 * PN M → S 17 [some (vR 55), some (vI n), some (vI (stN M n d)), some (vI (stOn M n d)), some (vI d)] [] (sh0, 0, 0) M := by
      intro m
      induction m with
      | zero =>
        intro d hd
        refine wpx_ok hS bk128 (sp := sp128) 60 17 _ _ _ _ ?_
        simp only [LCM, B2, Bool.not_eq_false, Bool.not_eq_true, decide_eq_true_eq, decide_eq_false_iff_not, Int.not_lt, Int.not_le, CST, TN, WX, WA, WB, GS, LOC, BT128, SP128, CLS, FLD, ARR, CD, true_and, and_true, and_self, forall_const, true_implies, false_implies, implies_true, not_true_eq_false, not_false_eq_true, if_true, if_false, rgI, rgL, scr, swl, lkl, cats, cat, is2, List.drop_succ_cons, List.drop_zero, List.drop_nil, List.cons_append, List.nil_append, Option.toList_some, Option.toList_none, List.length_cons, List.length_nil, ne_eq, Classical.not_not, reduceCtorEq, Nat.reduceAdd, Nat.reduceSub, Nat.reduceMul, Nat.reduceLT, Nat.reduceLeDiff, Nat.reduceEqDiff, Nat.reduceBEq, Int.reduceToNat, Int.reduceLE, Int.reduceLT, Int.reduceEq, Int.reduceNeg, Int.reduceAdd, Int.reduceSub, Int.reduceMul, Int.toNat_natCast, Nat.zero_add, Int.add_zero, Nat.add_zero, ite_true, ite_false, Option.some.injEq, Nat.le_refl, or_true, true_or, or_false, false_or, if_pos, reduceIte, Nat.reduceGT]
        refine ⟨rcv_ok rfl own119 rfl, kI (m_period M hW) (Nat.le_of_ble_eq_true rfl) rfl rfl (Nat.le_of_ble_eq_true rfl) (Nat.le_of_ble_eq_true rfl) rfl ?_⟩
        refine wpx_ok hS bk128 (sp := sp128) 60 24 _ _ _ _ ?_
        simp only [LCM, B2, Bool.not_eq_false, Bool.not_eq_true, decide_eq_true_eq, decide_eq_false_iff_not, Int.not_lt, Int.not_le, CST, TN, WX, WA, WB, GS, LOC, BT128, SP128, CLS, FLD, ARR, CD, true_and, and_true, and_self, forall_const, true_implies, false_implies, implies_true, not_true_eq_false, not_false_eq_true, if_true, if_false, rgI, rgL, scr, swl, lkl, cats, cat, is2, List.drop_succ_cons, List.drop_zero, List.drop_nil, List.cons_append, List.nil_append, Option.toList_some, Option.toList_none, List.length_cons, List.length_nil, ne_eq, Classical.not_not, reduceCtorEq, Nat.reduceAdd, Nat.reduceSub, Nat.reduceMul, Nat.reduceLT, Nat.reduceLeDiff, Nat.reduceEqDiff, Nat.reduceBEq, Int.reduceToNat, Int.reduceLE, Int.reduceLT, Int.reduceEq, Int.reduceNeg, Int.reduceAdd, Int.reduceSub, Int.reduceMul, Int.toNat_natCast, Nat.zero_add, Int.add_zero, Nat.add_zero, ite_true, ite_false, Option.some.injEq, Nat.le_refl, or_true, true_or, or_false, false_or, if_pos, reduceIte, Nat.reduceGT]
        refine ⟨by omega, fun h1 => ?_, fun h1 => by omega⟩
        exact rt128 ⟨rfl, by unfold f_still; rw [if_pos h, Int.toNat_natCast, show d = 2 * PN M by omega], rfl⟩
      | succ m ih =>
        intro d hd
        have ih2 := ih (d + 1) (by omega)
        have r1 := stOn_rg M n (d + 1)
        have r2 := stOn_rg M n d
        have e1 : stN M n (d + 1) = stN M n d + (if PN M ≤ d ∧ M 63 (3 * n + 2) ≤ stOn M n (d + 1) then 1 else 0) := rfl
        have e2 : stOn M n (d + 1) = if shrt M n d then stOn M n d + 1 else 0 := rfl
        have next : S 54 [some (vR 55), some (vI n), some (vI (stN M n d)), some (vI (stOn M n (d + 1))), some (vI d)] [vI (PN M), vI d, vI (stN M n d)] (sh0, 0, 0) M := by
          refine wpx_ok hS bk128 (sp := sp128) 60 54 _ _ _ _ ?_
          simp only [LCM, B2, Bool.not_eq_false, Bool.not_eq_true, decide_eq_true_eq, decide_eq_false_iff_not, Int.not_lt, Int.not_le, CST, TN, WX, WA, WB, GS, LOC, BT128, SP128, CLS, FLD, ARR, CD, true_and, and_true, and_self, forall_const, true_implies, false_implies, implies_true, not_true_eq_false, not_false_eq_true, if_true, if_false, rgI, rgL, scr, swl, lkl, cats, cat, is2, List.drop_succ_cons, List.drop_zero, List.drop_nil, List.cons_append, List.nil_append, Option.toList_some, Option.toList_none, List.length_cons, List.length_nil, ne_eq, Classical.not_not, reduceCtorEq, Nat.reduceAdd, Nat.reduceSub, Nat.reduceMul, Nat.reduceLT, Nat.reduceLeDiff, Nat.reduceEqDiff, Nat.reduceBEq, Int.reduceToNat, Int.reduceLE, Int.reduceLT, Int.reduceEq, Int.reduceNeg, Int.reduceAdd, Int.reduceSub, Int.reduceMul, Int.toNat_natCast, Nat.zero_add, Int.add_zero, Nat.add_zero, ite_true, ite_false, Option.some.injEq, Nat.le_refl, or_true, true_or, or_false, false_or, if_pos, reduceIte, Nat.reduceGT]
          refine ⟨by omega, fun h1 => ?_, fun h1 => ⟨by omega, by omega, fun h2 => ?_, fun h2 => ?_⟩⟩
          · rw [if_neg (by omega), Int.add_zero] at e1
            rw [e1] at ih2
            exact ih2
          · rw [if_neg (by omega), Int.add_zero] at e1
            rw [e1] at ih2
            exact ih2
          · rw [if_pos (by omega)] at e1
            rw [e1] at ih2
            exact ih2
        refine wpx_ok hS bk128 (sp := sp128) 60 17 _ _ _ _ ?_
        simp only [LCM, B2, Bool.not_eq_false, Bool.not_eq_true, decide_eq_true_eq, decide_eq_false_iff_not, Int.not_lt, Int.not_le, CST, TN, WX, WA, WB, GS, LOC, BT128, SP128, CLS, FLD, ARR, CD, true_and, and_true, and_self, forall_const, true_implies, false_implies, implies_true, not_true_eq_false, not_false_eq_true, if_true, if_false, rgI, rgL, scr, swl, lkl, cats, cat, is2, List.drop_succ_cons, List.drop_zero, List.drop_nil, List.cons_append, List.nil_append, Option.toList_some, Option.toList_none, List.length_cons, List.length_nil, ne_eq, Classical.not_not, reduceCtorEq, Nat.reduceAdd, Nat.reduceSub, Nat.reduceMul, Nat.reduceLT, Nat.reduceLeDiff, Nat.reduceEqDiff, Nat.reduceBEq, Int.reduceToNat, Int.reduceLE, Int.reduceLT, Int.reduceEq, Int.reduceNeg, Int.reduceAdd, Int.reduceSub, Int.reduceMul, Int.toNat_natCast, Nat.zero_add, Int.add_zero, Nat.add_zero, ite_true, ite_false, Option.some.injEq, Nat.le_refl, or_true, true_or, or_false, false_or, if_pos, reduceIte, Nat.reduceGT]
        refine ⟨rcv_ok rfl own119 rfl, kI (m_period M hW) (Nat.le_of_ble_eq_true rfl) rfl rfl (Nat.le_of_ble_eq_true rfl) (Nat.le_of_ble_eq_true rfl) rfl ?_⟩
        refine wpx_ok hS bk128 (sp := sp128) 60 24 _ _ _ _ ?_
        simp only [LCM, B2, Bool.not_eq_false, Bool.not_eq_true, decide_eq_true_eq, decide_eq_false_iff_not, Int.not_lt, Int.not_le, CST, TN, WX, WA, WB, GS, LOC, BT128, SP128, CLS, FLD, ARR, CD, true_and, and_true, and_self, forall_const, true_implies, false_implies, implies_true, not_true_eq_false, not_false_eq_true, if_true, if_false, rgI, rgL, scr, swl, lkl, cats, cat, is2, List.drop_succ_cons, List.drop_zero, List.drop_nil, List.cons_append, List.nil_append, Option.toList_some, Option.toList_none, List.length_cons, List.length_nil, ne_eq, Classical.not_not, reduceCtorEq, Nat.reduceAdd, Nat.reduceSub, Nat.reduceMul, Nat.reduceLT, Nat.reduceLeDiff, Nat.reduceEqDiff, Nat.reduceBEq, Int.reduceToNat, Int.reduceLE, Int.reduceLT, Int.reduceEq, Int.reduceNeg, Int.reduceAdd, Int.reduceSub, Int.reduceMul, Int.toNat_natCast, Nat.zero_add, Int.add_zero, Nat.add_zero, ite_true, ite_false, Option.some.injEq, Nat.le_refl, or_true, true_or, or_false, false_or, if_pos, reduceIte, Nat.reduceGT]
        refine ⟨by omega, fun h1 => by omega, fun h1 => ⟨by omega, ?_⟩⟩
        refine ⟨rcv_ok rfl own125 rfl, kI (m_isShort n d M hW hn (by omega)) (Nat.le_of_ble_eq_true rfl) rfl rfl (Nat.le_of_ble_eq_true rfl) (Nat.le_of_ble_eq_true rfl) rfl ?_⟩
        refine wpx_ok hS bk128 (sp := sp128) 60 36 _ _ _ _ ?_
        simp only [LCM, B2, Bool.not_eq_false, Bool.not_eq_true, decide_eq_true_eq, decide_eq_false_iff_not, Int.not_lt, Int.not_le, CST, TN, WX, WA, WB, GS, LOC, BT128, SP128, CLS, FLD, ARR, CD, true_and, and_true, and_self, forall_const, true_implies, false_implies, implies_true, not_true_eq_false, not_false_eq_true, if_true, if_false, rgI, rgL, scr, swl, lkl, cats, cat, is2, List.drop_succ_cons, List.drop_zero, List.drop_nil, List.cons_append, List.nil_append, Option.toList_some, Option.toList_none, List.length_cons, List.length_nil, ne_eq, Classical.not_not, reduceCtorEq, Nat.reduceAdd, Nat.reduceSub, Nat.reduceMul, Nat.reduceLT, Nat.reduceLeDiff, Nat.reduceEqDiff, Nat.reduceBEq, Int.reduceToNat, Int.reduceLE, Int.reduceLT, Int.reduceEq, Int.reduceNeg, Int.reduceAdd, Int.reduceSub, Int.reduceMul, Int.toNat_natCast, Nat.zero_add, Int.add_zero, Nat.add_zero, ite_true, ite_false, Option.some.injEq, Nat.le_refl, or_true, true_or, or_false, false_or, if_pos, reduceIte, Nat.reduceGT]
        refine ⟨fun h2 => ?_, fun h2 => ?_⟩
        · rw [h2] at e2
          rw [show stOn M n (d + 1) = 0 from e2] at next
          refine ⟨rcv_ok rfl own119 rfl, kI (m_period M hW) (Nat.le_of_ble_eq_true rfl) rfl rfl (Nat.le_of_ble_eq_true rfl) (Nat.le_of_ble_eq_true rfl) rfl ?_⟩
          exact next
        · rw [h2, if_pos rfl] at e2
          rw [e2] at next
          refine ⟨rcv_ok rfl own119 rfl, kI (m_period M hW) (Nat.le_of_ble_eq_true rfl) rfl rfl (Nat.le_of_ble_eq_true rfl) (Nat.le_of_ble_eq_true rfl) rfl ?_⟩
          exact next
    exact head (2 * PN M) 0 (by omega)
  · exact rt128 ⟨rfl, by unfold f_still; rw [if_neg h], rfl⟩

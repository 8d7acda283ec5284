/-! the component's cells against the town T -/
def skP (T : MM) (s i : Nat) : Bool := decide (i < hN T) && skB T s i
def newP (T : MM) (i : Nat) : Bool := newB T i
def RC (M T : MM) : Prop := (M 19 0 = T 57 0 ∧ M 19 1 = T 57 1 ∧ M 18 1 = T 58 0 ∧ M 18 5 = T 59 0 ∧ M 18 9 = T 60 0) ∧
  (∀ i, i < hN T → M 20 i = T 61 (4 * i + 2) ∧ M 21 i = T 61 (4 * i + 3)) ∧ (∀ s, s < 5 → M 22 s = mk (skP T s)) ∧ (∀ w, w < wN T → M 23 w = T 63 (3 * w) ∧ M 24 w = T 63 (3 * w + 1) ∧ M 25 w = T 63 (3 * w + 2)) ∧
  (∀ i, i < hN T → M 27 i = T 61 (4 * i) ∧ M 28 i = T 61 (4 * i + 1)) ∧ M 26 2 = mk (newP T)
def rk (T : MM) (w j i : Nat) : Bool := decide (T 61 (4 * i) = w ∧ T 61 (4 * i + 1) = j)
def gN (T : MM) : Nat := (T 57 0).toNat * (T 57 1).toNat / PN T
/-- the rota holds the rests of the houses p -/
def RO (M T : MM) (p : Nat → Bool) : Prop := (M 33 0 = T 57 0 ∧ M 33 1 = T 57 1 ∧ M 32 2 = gN T) ∧ ∀ j, j < 12 → M 35 j = mk (fun i => p i && rk T 0 j i) ∧ M 36 j = mk (fun i => p i && rk T 1 j i)
def pH (T : MM) (i : Nat) : Bool := decide (i < hN T)
def ro (k : Nat) : Prop := 32 ≤ k ∧ k ≤ 36
theorem RC.keep {M M' T : MM} (h : RC M T) (hk : ∀ k j, 18 ≤ k → k ≤ 30 → M' k j = M k j) : RC M' T := by
  obtain ⟨⟨a1, a2, a3, a4, a5⟩, b, c, d, e, f⟩ := h
  refine ⟨⟨?_, ?_, ?_, ?_, ?_⟩, fun i hi => ?_, fun s hs => ?_, fun w hw => ?_, fun i hi => ?_, ?_⟩
  · rw [hk _ _ (by omega) (by omega)]; exact a1
  · rw [hk _ _ (by omega) (by omega)]; exact a2
  · rw [hk _ _ (by omega) (by omega)]; exact a3
  · rw [hk _ _ (by omega) (by omega)]; exact a4
  · rw [hk _ _ (by omega) (by omega)]; exact a5
  · rw [hk _ _ (by omega) (by omega), hk _ _ (by omega) (by omega)]; exact b i hi
  · rw [hk _ _ (by omega) (by omega)]; exact c s hs
  · rw [hk _ _ (by omega) (by omega), hk _ _ (by omega) (by omega), hk _ _ (by omega) (by omega)]; exact d w hw
  · rw [hk _ _ (by omega) (by omega), hk _ _ (by omega) (by omega)]; exact e i hi
  · rw [hk _ _ (by omega) (by omega)]; exact f
theorem RO.keep {M M' T : MM} {p : Nat → Bool} (h : RO M T p) (hk : ∀ k j, 32 ≤ k → k ≤ 36 → M' k j = M k j) : RO M' T p := by
  refine ⟨⟨?_, ?_, ?_⟩, fun j hj => ⟨?_, ?_⟩⟩
  · rw [hk _ _ (by omega) (by omega)]; exact h.1.1
  · rw [hk _ _ (by omega) (by omega)]; exact h.1.2.1
  · rw [hk _ _ (by omega) (by omega)]; exact h.1.2.2
  · rw [hk _ _ (by omega) (by omega)]; exact (h.2 j hj).1
  · rw [hk _ _ (by omega) (by omega)]; exact (h.2 j hj).2
theorem RO.eqp {M T : MM} {p q : Nat → Bool} (h : RO M T p) (hp : ∀ i, i < 10 → p i = q i) : RO M T q := by
  refine ⟨h.1, fun j hj => ⟨?_, ?_⟩⟩
  · rw [(h.2 j hj).1]; exact mk_eq (fun i hi => by rw [hp i hi])
  · rw [(h.2 j hj).2]; exact mk_eq (fun i hi => by rw [hp i hi])
/-- another town with the same rests of these houses -/
theorem RO.town {M T T' : MM} {p : Nat → Bool} (h : RO M T p) (h0 : T' 57 0 = T 57 0) (h1 : T' 57 1 = T 57 1) (hp : ∀ i, i < 10 → p i = true → T' 61 (4 * i) = T 61 (4 * i) ∧ T' 61 (4 * i + 1) = T 61 (4 * i + 1)) : RO M T' p := by
  have hr : ∀ w j i, i < 10 → (p i && rk T w j i) = (p i && rk T' w j i) := by
    intro w j i hi
    cases hpi : p i with
    | false => rfl
    | true =>
      obtain ⟨e1, e2⟩ := hp i hi hpi
      unfold rk
      rw [e1, e2]
  refine ⟨⟨by rw [h0]; exact h.1.1, by rw [h1]; exact h.1.2.1, ?_⟩, fun j hj => ⟨?_, ?_⟩⟩
  · have : gN T' = gN T := by unfold gN PN; rw [h0, h1]
    rw [this]; exact h.1.2.2
  · rw [(h.2 j hj).1]; exact mk_eq (fun i hi => hr 0 j i hi)
  · rw [(h.2 j hj).2]; exact mk_eq (fun i hi => hr 1 j i hi)
theorem RO.put {M T : MM} {p : Nat → Bool} (h : RO M T p) {i w j : Nat} (hi : i < 10) (hw : w = 0 ∨ w = 1) (hj : j < 12) (h1 : T 61 (4 * i) = w) (h2 : T 61 (4 * i + 1) = j) : RO (mset M (35 + w) j (bOr (M (35 + w) j) (bShl 1 i))) T (fun x => p x || x == i) := by
  have key : ∀ w' j' : Nat, mk (fun x => (p x || x == i) && rk T w' j' x) = if w' = w ∧ j' = j then bOr (mk (fun x => p x && rk T w' j' x)) (bShl 1 i) else mk (fun x => p x && rk T w' j' x) := by
    intro w' j'
    have hri : rk T w' j' i = decide (w' = w ∧ j' = j) := by
      unfold rk
      rw [h1, h2]
      apply decide_eq_decide.mpr
      omega
    by_cases hc : w' = w ∧ j' = j
    · rw [if_pos hc, mk_put hi]
      refine mk_eq (fun x hx => ?_)
      by_cases hxi : x = i
      · subst hxi; rw [hri, decide_eq_true hc]; simp
      · have hb : (x == i) = false := beq_eq_false_iff_ne.mpr hxi
        simp [hb]
    · rw [if_neg hc]
      refine mk_eq (fun x hx => ?_)
      by_cases hxi : x = i
      · subst hxi; rw [hri, decide_eq_false hc]; simp
      · have hb : (x == i) = false := beq_eq_false_iff_ne.mpr hxi
        simp [hb]
  refine ⟨⟨?_, ?_, ?_⟩, fun j' hj' => ⟨?_, ?_⟩⟩
  · rw [ms_ne (by omega)]; exact h.1.1
  · rw [ms_ne (by omega)]; exact h.1.2.1
  · rw [ms_ne (by omega)]; exact h.1.2.2
  · rw [key 0 j']
    rcases hw with rfl | rfl
    · by_cases hjj : j' = j
      · subst hjj; rw [if_pos ⟨rfl, rfl⟩, ms_eq, (h.2 j' hj').1]
      · rw [if_neg (fun z => hjj z.2), ms_nj hjj, (h.2 j' hj').1]
    · rw [if_neg (by omega), ms_ne (by omega), (h.2 j' hj').1]
  · rw [key 1 j']
    rcases hw with rfl | rfl
    · rw [if_neg (by omega), ms_ne (by omega), (h.2 j' hj').2]
    · by_cases hjj : j' = j
      · subst hjj; rw [if_pos ⟨rfl, rfl⟩, ms_eq, (h.2 j' hj').2]
      · rw [if_neg (fun z => hjj z.2), ms_nj hjj, (h.2 j' hj').2]
theorem RO.lift {M T : MM} {p : Nat → Bool} (h : RO M T p) {i w j : Nat} (hi : i < 10) (hw : w = 0 ∨ w = 1) (hj : j < 12) (h1 : T 61 (4 * i) = w) (h2 : T 61 (4 * i + 1) = j) : RO (mset M (35 + w) j (bAnd (M (35 + w) j) (bXor (bShl 1 i) (-1)))) T (fun x => p x && !(x == i)) := by
  have key : ∀ w' j' : Nat, mk (fun x => (p x && !(x == i)) && rk T w' j' x) = if w' = w ∧ j' = j then bAnd (mk (fun x => p x && rk T w' j' x)) (bXor (bShl 1 i) (-1)) else mk (fun x => p x && rk T w' j' x) := by
    intro w' j'
    have hri : rk T w' j' i = decide (w' = w ∧ j' = j) := by
      unfold rk
      rw [h1, h2]
      apply decide_eq_decide.mpr
      omega
    by_cases hc : w' = w ∧ j' = j
    · rw [if_pos hc, mk_lift hi]
      refine mk_eq (fun x hx => ?_)
      by_cases hxi : x = i
      · subst hxi; simp
      · have hb : (x == i) = false := beq_eq_false_iff_ne.mpr hxi
        simp [hb]
    · rw [if_neg hc]
      refine mk_eq (fun x hx => ?_)
      by_cases hxi : x = i
      · subst hxi; rw [hri, decide_eq_false hc]; simp
      · have hb : (x == i) = false := beq_eq_false_iff_ne.mpr hxi
        simp [hb]
  refine ⟨⟨?_, ?_, ?_⟩, fun j' hj' => ⟨?_, ?_⟩⟩
  · rw [ms_ne (by omega)]; exact h.1.1
  · rw [ms_ne (by omega)]; exact h.1.2.1
  · rw [ms_ne (by omega)]; exact h.1.2.2
  · rw [key 0 j']
    rcases hw with rfl | rfl
    · by_cases hjj : j' = j
      · subst hjj; rw [if_pos ⟨rfl, rfl⟩, ms_eq, (h.2 j' hj').1]
      · rw [if_neg (fun z => hjj z.2), ms_nj hjj, (h.2 j' hj').1]
    · rw [if_neg (by omega), ms_ne (by omega), (h.2 j' hj').1]
  · rw [key 1 j']
    rcases hw with rfl | rfl
    · rw [if_neg (by omega), ms_ne (by omega), (h.2 j' hj').2]
    · by_cases hjj : j' = j
      · subst hjj; rw [if_pos ⟨rfl, rfl⟩, ms_eq, (h.2 j' hj').2]
      · rw [if_neg (fun z => hjj z.2), ms_nj hjj, (h.2 j' hj').2]
/-! its walks -/
theorem x_isHouse (i : Int) (M T : MM) (hC : RC M T) (hW : WFt T) (hi : rgI i) : oI 1 72 [vR 0, vI i] M (b2i (decide (0 ≤ i ∧ i < T 58 0))) := by
  have hH := hW.2.2.1
  refine go72 (fun S hS => ?_)
  refine wpx_ok hS bk72 (sp := sp72) 60 0 _ _ _ _ ?_
  simp only [LCM, B2, Bool.not_eq_false, Bool.not_eq_true, decide_eq_true_eq, decide_eq_false_iff_not, Int.not_lt, Int.not_le, CST, TN, WX, WA, WB, GS, LOC, BT72, SP72, CLS, FLD, ARR, CD, true_and, and_true, and_self, forall_const, true_implies, false_implies, implies_true, not_true_eq_false, not_false_eq_true, if_true, if_false, rgI, rgL, scr, swl, lkl, cats, cat, is2, List.drop_succ_cons, List.drop_zero, List.drop_nil, List.cons_append, List.nil_append, Option.toList_some, Option.toList_none, List.length_cons, List.length_nil, ne_eq, Classical.not_not, reduceCtorEq, Nat.reduceAdd, Nat.reduceSub, Nat.reduceMul, Nat.reduceLT, Nat.reduceLeDiff, Nat.reduceEqDiff, Nat.reduceBEq, Int.reduceToNat, Int.reduceLE, Int.reduceLT, Int.reduceEq, Int.reduceNeg, Int.reduceAdd, Int.reduceSub, Int.reduceMul, Int.toNat_natCast, Nat.zero_add, Int.add_zero, Nat.add_zero, ite_true, ite_false, Option.some.injEq, Nat.le_refl, or_true, true_or, or_false, false_or, if_pos, reduceIte, Nat.reduceGT]
  rw [hC.1.2.2.1]
  refine ⟨hi, fun h => ?_, fun h => ⟨⟨hi, by omega⟩, fun h1 => ?_, fun h1 => ?_⟩⟩
  · exact rt72 (by decide) ⟨rfl, by rw [decide_eq_false (by omega)]; rfl, rfl⟩
  · exact rt72 (by decide) ⟨rfl, by rw [decide_eq_false (by omega)]; rfl, rfl⟩
  · exact rt72 (by decide) ⟨rfl, by rw [decide_eq_true (by omega)]; rfl, rfl⟩
theorem x_isWork (i : Int) (M T : MM) (hC : RC M T) (hW : WFt T) (hi : rgI i) : oI 1 74 [vR 0, vI i] M (b2i (decide (0 ≤ i ∧ i < T 59 0))) := by
  have hH := hW.2.2.2.1
  refine go74 (fun S hS => ?_)
  refine wpx_ok hS bk74 (sp := sp74) 60 0 _ _ _ _ ?_
  simp only [LCM, B2, Bool.not_eq_false, Bool.not_eq_true, decide_eq_true_eq, decide_eq_false_iff_not, Int.not_lt, Int.not_le, CST, TN, WX, WA, WB, GS, LOC, BT74, SP74, CLS, FLD, ARR, CD, true_and, and_true, and_self, forall_const, true_implies, false_implies, implies_true, not_true_eq_false, not_false_eq_true, if_true, if_false, rgI, rgL, scr, swl, lkl, cats, cat, is2, List.drop_succ_cons, List.drop_zero, List.drop_nil, List.cons_append, List.nil_append, Option.toList_some, Option.toList_none, List.length_cons, List.length_nil, ne_eq, Classical.not_not, reduceCtorEq, Nat.reduceAdd, Nat.reduceSub, Nat.reduceMul, Nat.reduceLT, Nat.reduceLeDiff, Nat.reduceEqDiff, Nat.reduceBEq, Int.reduceToNat, Int.reduceLE, Int.reduceLT, Int.reduceEq, Int.reduceNeg, Int.reduceAdd, Int.reduceSub, Int.reduceMul, Int.toNat_natCast, Nat.zero_add, Int.add_zero, Nat.add_zero, ite_true, ite_false, Option.some.injEq, Nat.le_refl, or_true, true_or, or_false, false_or, if_pos, reduceIte, Nat.reduceGT]
  rw [hC.1.2.2.2.1]
  refine ⟨hi, fun h => ?_, fun h => ⟨⟨hi, by omega⟩, fun h1 => ?_, fun h1 => ?_⟩⟩
  · exact rt74 (by decide) ⟨rfl, by rw [decide_eq_false (by omega)]; rfl, rfl⟩
  · exact rt74 (by decide) ⟨rfl, by rw [decide_eq_false (by omega)]; rfl, rfl⟩
  · exact rt74 (by decide) ⟨rfl, by rw [decide_eq_true (by omega)]; rfl, rfl⟩
theorem x_isSet (x : Int) (M T : MM) (hC : RC M T) (hW : WFt T) (hx : rgI x) : oI 1 75 [vR 0, vI x] M (b2i (isSetB T x)) := by
  have hb := bShl_H hW
  refine go75 (fun S hS => ?_)
  refine wpx_ok hS bk75 (sp := sp75) 60 0 _ _ _ _ ?_
  simp only [LCM, B2, Bool.not_eq_false, Bool.not_eq_true, decide_eq_true_eq, decide_eq_false_iff_not, Int.not_lt, Int.not_le, CST, TN, WX, WA, WB, GS, LOC, BT75, SP75, CLS, FLD, ARR, CD, true_and, and_true, and_self, forall_const, true_implies, false_implies, implies_true, not_true_eq_false, not_false_eq_true, if_true, if_false, rgI, rgL, scr, swl, lkl, cats, cat, is2, List.drop_succ_cons, List.drop_zero, List.drop_nil, List.cons_append, List.nil_append, Option.toList_some, Option.toList_none, List.length_cons, List.length_nil, ne_eq, Classical.not_not, reduceCtorEq, Nat.reduceAdd, Nat.reduceSub, Nat.reduceMul, Nat.reduceLT, Nat.reduceLeDiff, Nat.reduceEqDiff, Nat.reduceBEq, Int.reduceToNat, Int.reduceLE, Int.reduceLT, Int.reduceEq, Int.reduceNeg, Int.reduceAdd, Int.reduceSub, Int.reduceMul, Int.toNat_natCast, Nat.zero_add, Int.add_zero, Nat.add_zero, ite_true, ite_false, Option.some.injEq, Nat.le_refl, or_true, true_or, or_false, false_or, if_pos, reduceIte, Nat.reduceGT]
  rw [hC.1.2.2.1]
  refine ⟨hx, fun h => ?_, fun h => ⟨⟨hx, by omega⟩, fun h1 => ?_, fun h1 => ?_⟩⟩
  · exact rt75 (by decide) ⟨rfl, by unfold isSetB; rw [decide_eq_false (by omega)]; rfl, rfl⟩
  · exact rt75 (by decide) ⟨rfl, by unfold isSetB; rw [decide_eq_false (by omega)]; rfl, rfl⟩
  · exact rt75 (by decide) ⟨rfl, by unfold isSetB; rw [decide_eq_true (by omega)]; rfl, rfl⟩
theorem x_isSkill (s : Int) (M : MM) (hs : rgI s) : oI 1 76 [vI s] M (b2i (decide (0 ≤ s ∧ s ≤ 4))) := by
  refine go76 (fun S hS => ?_)
  refine wpx_ok hS bk76 (sp := sp76) 60 0 _ _ _ _ ?_
  simp only [LCM, B2, Bool.not_eq_false, Bool.not_eq_true, decide_eq_true_eq, decide_eq_false_iff_not, Int.not_lt, Int.not_le, CST, TN, WX, WA, WB, GS, LOC, BT76, SP76, CLS, FLD, ARR, CD, true_and, and_true, and_self, forall_const, true_implies, false_implies, implies_true, not_true_eq_false, not_false_eq_true, if_true, if_false, rgI, rgL, scr, swl, lkl, cats, cat, is2, List.drop_succ_cons, List.drop_zero, List.drop_nil, List.cons_append, List.nil_append, Option.toList_some, Option.toList_none, List.length_cons, List.length_nil, ne_eq, Classical.not_not, reduceCtorEq, Nat.reduceAdd, Nat.reduceSub, Nat.reduceMul, Nat.reduceLT, Nat.reduceLeDiff, Nat.reduceEqDiff, Nat.reduceBEq, Int.reduceToNat, Int.reduceLE, Int.reduceLT, Int.reduceEq, Int.reduceNeg, Int.reduceAdd, Int.reduceSub, Int.reduceMul, Int.toNat_natCast, Nat.zero_add, Int.add_zero, Nat.add_zero, ite_true, ite_false, Option.some.injEq, Nat.le_refl, or_true, true_or, or_false, false_or, if_pos, reduceIte, Nat.reduceGT]
  refine ⟨hs, fun h => ?_, fun h => ⟨hs, fun h1 => ?_, fun h1 => ?_⟩⟩
  · exact rt76 (by decide) ⟨rfl, by rw [decide_eq_false (by omega)]; rfl, rfl⟩
  · exact rt76 (by decide) ⟨rfl, by rw [decide_eq_false (by omega)]; rfl, rfl⟩
  · exact rt76 (by decide) ⟨rfl, by rw [decide_eq_true (by omega)]; rfl, rfl⟩
theorem x_isDay (d : Int) (M : MM) (hd : rgL d) : oI 1 77 [vL d] M (b2i (isDayB d)) := by
  refine go77 (fun S hS => ?_)
  refine wpx_ok hS bk77 (sp := sp77) 60 0 _ _ _ _ ?_
  simp only [LCM, B2, Bool.not_eq_false, Bool.not_eq_true, decide_eq_true_eq, decide_eq_false_iff_not, Int.not_lt, Int.not_le, CST, TN, WX, WA, WB, GS, LOC, BT77, SP77, CLS, FLD, ARR, CD, true_and, and_true, and_self, forall_const, true_implies, false_implies, implies_true, not_true_eq_false, not_false_eq_true, if_true, if_false, rgI, rgL, scr, swl, lkl, cats, cat, is2, List.drop_succ_cons, List.drop_zero, List.drop_nil, List.cons_append, List.nil_append, Option.toList_some, Option.toList_none, List.length_cons, List.length_nil, ne_eq, Classical.not_not, reduceCtorEq, Nat.reduceAdd, Nat.reduceSub, Nat.reduceMul, Nat.reduceLT, Nat.reduceLeDiff, Nat.reduceEqDiff, Nat.reduceBEq, Int.reduceToNat, Int.reduceLE, Int.reduceLT, Int.reduceEq, Int.reduceNeg, Int.reduceAdd, Int.reduceSub, Int.reduceMul, Int.toNat_natCast, Nat.zero_add, Int.add_zero, Nat.add_zero, ite_true, ite_false, Option.some.injEq, Nat.le_refl, or_true, true_or, or_false, false_or, if_pos, reduceIte, Nat.reduceGT]
  refine ⟨hd, fun h => ?_, fun h => ⟨hd, fun h1 => ?_, fun h1 => ?_⟩⟩
  · exact rt77 (by decide) ⟨rfl, by unfold isDayB; rw [decide_eq_false (by omega)]; rfl, rfl⟩
  · exact rt77 (by decide) ⟨rfl, by unfold isDayB; rw [decide_eq_false (by omega)]; rfl, rfl⟩
  · exact rt77 (by decide) ⟨rfl, by unfold isDayB; rw [decide_eq_true (by omega)]; rfl, rfl⟩
theorem x_period (M T : MM) (hC : RC M T) (hW : WFt T) : oI 1 31 [vR 18] M (PN T) := by
  have h1 := hW.1
  have h2 := hW.2.1
  obtain ⟨a, ha⟩ : ∃ a : Nat, T 57 0 = (a : Int) := ⟨(T 57 0).toNat, by omega⟩
  obtain ⟨b, hb⟩ : ∃ b : Nat, T 57 1 = (b : Int) := ⟨(T 57 1).toNat, by omega⟩
  have hMa : M 19 0 = (a : Int) := by rw [hC.1.1, ha]
  have hMb : M 19 1 = (b : Int) := by rw [hC.1.2.1, hb]
  obtain ⟨f1, f2, f3, f4, f5, f6, f7, f8, f9⟩ := per_facts a (by omega) (by omega) b (by omega) (by omega)
  have hPN : PN T = perN a b := by unfold PN; rw [ha, hb]; rfl
  refine go31 (fun S hS => ?_)
  have hmul : ∀ k, k ≤ perQ a b → a * k ≤ 132 := fun k hk => Nat.le_trans (Nat.mul_le_mul_left a hk) (by omega)
  have head : ∀ (n k : Nat), k + n = perQ a b → 1 ≤ k → S 20 [some (vR 18), some (vI b), some (vI ((a * k : Nat) : Int)), some (vI k)] [] (sh0, 0, 0) M := by
    intro n
    induction n with
    | zero =>
      intro k hk hk1
      have := hmul k (by omega)
      have h3 : ((a * k : Nat) : Int) % (b : Int) = ((a * k % b : Nat) : Int) := by rw [Int.natCast_emod]
      have h4 : a * k % b = 0 := by rw [show k = perQ a b by omega]; exact f2
      have hfin : Rtn 31 0 0 (fun r sh M' => sh = sh0 ∧ r = some (Sum.inl ((PN T : Nat) : Int)) ∧ M' = M) (some (Sum.inl (max 1 ((a * k : Nat) : Int)))) (sh0, 0, 0) M := by
        refine rt31 ⟨rfl, ?_, rfl⟩
        rw [Int.max_eq_right (by rw [show k = perQ a b by omega, f3]; omega), hPN, ← f3, show k = perQ a b by omega]
      refine wpx_ok hS bk31 (sp := sp31) 60 20 _ _ _ _ ?_
      simp only [LCM, B2, Bool.not_eq_false, Bool.not_eq_true, decide_eq_true_eq, decide_eq_false_iff_not, Int.not_lt, Int.not_le, CST, TN, WX, WA, WB, GS, LOC, BT31, SP31, CLS, FLD, ARR, CD, true_and, and_true, and_self, forall_const, true_implies, false_implies, implies_true, not_true_eq_false, not_false_eq_true, if_true, if_false, rgI, rgL, scr, swl, lkl, cats, cat, is2, List.drop_succ_cons, List.drop_zero, List.drop_nil, List.cons_append, List.nil_append, Option.toList_some, Option.toList_none, List.length_cons, List.length_nil, ne_eq, Classical.not_not, reduceCtorEq, Nat.reduceAdd, Nat.reduceSub, Nat.reduceMul, Nat.reduceLT, Nat.reduceLeDiff, Nat.reduceEqDiff, Nat.reduceBEq, Int.reduceToNat, Int.reduceLE, Int.reduceLT, Int.reduceEq, Int.reduceNeg, Int.reduceAdd, Int.reduceSub, Int.reduceMul, Int.toNat_natCast, Nat.zero_add, Int.add_zero, Nat.add_zero, ite_true, ite_false, Option.some.injEq, Nat.le_refl, or_true, true_or, or_false, false_or, if_pos, reduceIte, Nat.reduceGT]
      refine ⟨by omega, fun h => ⟨by omega, hfin⟩, fun h => ⟨by omega, by omega, fun _ => ⟨by omega, hfin⟩, fun h5 => ?_⟩⟩
      exfalso
      apply h5
      rw [h3, h4]
      rfl
    | succ n ih =>
      intro k hk hk1
      have := hmul k (by omega)
      have h3 : ((a * k : Nat) : Int) % (b : Int) = ((a * k % b : Nat) : Int) := by rw [Int.natCast_emod]
      have h4 : a * k % b < b := Nat.mod_lt _ (by omega)
      refine wpx_ok hS bk31 (sp := sp31) 60 20 _ _ _ _ ?_
      simp only [LCM, B2, Bool.not_eq_false, Bool.not_eq_true, decide_eq_true_eq, decide_eq_false_iff_not, Int.not_lt, Int.not_le, CST, TN, WX, WA, WB, GS, LOC, BT31, SP31, CLS, FLD, ARR, CD, true_and, and_true, and_self, forall_const, true_implies, false_implies, implies_true, not_true_eq_false, not_false_eq_true, if_true, if_false, rgI, rgL, scr, swl, lkl, cats, cat, is2, List.drop_succ_cons, List.drop_zero, List.drop_nil, List.cons_append, List.nil_append, Option.toList_some, Option.toList_none, List.length_cons, List.length_nil, ne_eq, Classical.not_not, reduceCtorEq, Nat.reduceAdd, Nat.reduceSub, Nat.reduceMul, Nat.reduceLT, Nat.reduceLeDiff, Nat.reduceEqDiff, Nat.reduceBEq, Int.reduceToNat, Int.reduceLE, Int.reduceLT, Int.reduceEq, Int.reduceNeg, Int.reduceAdd, Int.reduceSub, Int.reduceMul, Int.toNat_natCast, Nat.zero_add, Int.add_zero, Nat.add_zero, ite_true, ite_false, Option.some.injEq, Nat.le_refl, or_true, true_or, or_false, false_or, if_pos, reduceIte, Nat.reduceGT]
      refine ⟨by omega, fun h => by omega, fun h => ⟨by omega, by omega, fun h5 => ?_, fun h5 => ?_⟩⟩
      · exfalso
        exact f1 k (by omega) hk1 (by omega)
      · have h6 := ih (k + 1) (by omega) (by omega)
        rw [show ((a * (k + 1) : Nat) : Int) = ((a * k : Nat) : Int) + M 19 0 by rw [hMa, Nat.mul_add]; omega] at h6
        exact h6
  refine wpx_ok hS bk31 (sp := sp31) 60 0 _ _ _ _ ?_
  simp only [LCM, B2, Bool.not_eq_false, Bool.not_eq_true, decide_eq_true_eq, decide_eq_false_iff_not, Int.not_lt, Int.not_le, CST, TN, WX, WA, WB, GS, LOC, BT31, SP31, CLS, FLD, ARR, CD, true_and, and_true, and_self, forall_const, true_implies, false_implies, implies_true, not_true_eq_false, not_false_eq_true, if_true, if_false, rgI, rgL, scr, swl, lkl, cats, cat, is2, List.drop_succ_cons, List.drop_zero, List.drop_nil, List.cons_append, List.nil_append, Option.toList_some, Option.toList_none, List.length_cons, List.length_nil, ne_eq, Classical.not_not, reduceCtorEq, Nat.reduceAdd, Nat.reduceSub, Nat.reduceMul, Nat.reduceLT, Nat.reduceLeDiff, Nat.reduceEqDiff, Nat.reduceBEq, Int.reduceToNat, Int.reduceLE, Int.reduceLT, Int.reduceEq, Int.reduceNeg, Int.reduceAdd, Int.reduceSub, Int.reduceMul, Int.toNat_natCast, Nat.zero_add, Int.add_zero, Nat.add_zero, ite_true, ite_false, Option.some.injEq, Nat.le_refl, or_true, true_or, or_false, false_or, if_pos, reduceIte, Nat.reduceGT]
  have h6 := head (perQ a b - 1) 1 (by omega) (Nat.le_refl _)
  rw [Nat.mul_one] at h6
  rw [hMa, hMb, Int.max_eq_right (by omega)]
  exact ⟨by omega, h6⟩
/-- Arrays.fill -/
def mfil (M : MM) (r n : Nat) (v : Int) : MM := fun k j => if k = r ∧ j < n then v else M k j
theorem x_afill (r n : Nat) (f : Nat → Option Nat) (v : Int) (M : MM) (hr : arr sh0 r = some (0, n, f)) (hn : n ≤ 1000) (hs : r ≠ 1000000) : oV 1 162 [vR r, vI v] M (mfil M r n v) := by
  refine go162 (fun S hS => ?_)
  have head : ∀ (m i : Nat), i + m = n → S 5 [some (vR r), some (vI v), some (vI i), some (vI n)] [] (sh0, 0, 0) (mfil M r i v) := by
    intro m
    induction m with
    | zero =>
      intro i hi
      refine wpx_ok hS bk162 (sp := sp162) 60 5 _ _ _ _ ?_
      simp only [LCM, B2, Bool.not_eq_false, Bool.not_eq_true, decide_eq_true_eq, decide_eq_false_iff_not, Int.not_lt, Int.not_le, CST, TN, WX, WA, WB, GS, LOC, BT162, SP162, CLS, FLD, ARR, CD, true_and, and_true, and_self, forall_const, true_implies, false_implies, implies_true, not_true_eq_false, not_false_eq_true, if_true, if_false, rgI, rgL, scr, swl, lkl, cats, cat, is2, List.drop_succ_cons, List.drop_zero, List.drop_nil, List.cons_append, List.nil_append, Option.toList_some, Option.toList_none, List.length_cons, List.length_nil, ne_eq, Classical.not_not, reduceCtorEq, Nat.reduceAdd, Nat.reduceSub, Nat.reduceMul, Nat.reduceLT, Nat.reduceLeDiff, Nat.reduceEqDiff, Nat.reduceBEq, Int.reduceToNat, Int.reduceLE, Int.reduceLT, Int.reduceEq, Int.reduceNeg, Int.reduceAdd, Int.reduceSub, Int.reduceMul, Int.toNat_natCast, Nat.zero_add, Int.add_zero, Nat.add_zero, ite_true, ite_false, Option.some.injEq, Nat.le_refl, or_true, true_or, or_false, false_or, if_pos, reduceIte, Nat.reduceGT]
      refine ⟨by omega, fun h => rt162 (Nat.le_refl _) (Nat.le_refl _) ⟨rfl, rfl, by rw [show i = n by omega]⟩, fun h => by omega⟩
    | succ m ih =>
      intro i hi
      refine wpx_ok hS bk162 (sp := sp162) 60 5 _ _ _ _ ?_
      simp only [LCM, B2, Bool.not_eq_false, Bool.not_eq_true, decide_eq_true_eq, decide_eq_false_iff_not, Int.not_lt, Int.not_le, CST, TN, WX, WA, WB, GS, LOC, BT162, SP162, CLS, FLD, ARR, CD, true_and, and_true, and_self, forall_const, true_implies, false_implies, implies_true, not_true_eq_false, not_false_eq_true, if_true, if_false, rgI, rgL, scr, swl, lkl, cats, cat, is2, List.drop_succ_cons, List.drop_zero, List.drop_nil, List.cons_append, List.nil_append, Option.toList_some, Option.toList_none, List.length_cons, List.length_nil, ne_eq, Classical.not_not, reduceCtorEq, Nat.reduceAdd, Nat.reduceSub, Nat.reduceMul, Nat.reduceLT, Nat.reduceLeDiff, Nat.reduceEqDiff, Nat.reduceBEq, Int.reduceToNat, Int.reduceLE, Int.reduceLT, Int.reduceEq, Int.reduceNeg, Int.reduceAdd, Int.reduceSub, Int.reduceMul, Int.toNat_natCast, Nat.zero_add, Int.add_zero, Nat.add_zero, ite_true, ite_false, Option.some.injEq, Nat.le_refl, or_true, true_or, or_false, false_or, if_pos, reduceIte, Nat.reduceGT]
      rw [hr]
      refine ⟨by omega, fun h => by omega, fun h => ?_⟩
      simp only [GS, true_and, Int.toNat_natCast]
      refine ⟨by omega, by omega, ?_⟩
      have := ih (i + 1) (by omega)
      rw [show mfil M r (i + 1) v = mset (mfil M r i v) r i v by
        funext k j
        unfold mfil mset
        by_cases hk : k = r
        · subst hk
          by_cases hj : j = i
          · subst hj; simp
          · by_cases hj2 : j < i
            · have : j < i + 1 := by omega
              simp [hj, hj2, this]
            · have : ¬ j < i + 1 := by omega
              simp [hj, hj2, this]
        · simp [hk]] at this
      exact this
  refine wpx_ok hS bk162 (sp := sp162) 60 0 _ _ _ _ ?_
  simp only [LCM, B2, Bool.not_eq_false, Bool.not_eq_true, decide_eq_true_eq, decide_eq_false_iff_not, Int.not_lt, Int.not_le, CST, TN, WX, WA, WB, GS, LOC, BT162, SP162, CLS, FLD, ARR, CD, true_and, and_true, and_self, forall_const, true_implies, false_implies, implies_true, not_true_eq_false, not_false_eq_true, if_true, if_false, rgI, rgL, scr, swl, lkl, cats, cat, is2, List.drop_succ_cons, List.drop_zero, List.drop_nil, List.cons_append, List.nil_append, Option.toList_some, Option.toList_none, List.length_cons, List.length_nil, ne_eq, Classical.not_not, reduceCtorEq, Nat.reduceAdd, Nat.reduceSub, Nat.reduceMul, Nat.reduceLT, Nat.reduceLeDiff, Nat.reduceEqDiff, Nat.reduceBEq, Int.reduceToNat, Int.reduceLE, Int.reduceLT, Int.reduceEq, Int.reduceNeg, Int.reduceAdd, Int.reduceSub, Int.reduceMul, Int.toNat_natCast, Nat.zero_add, Int.add_zero, Nat.add_zero, ite_true, ite_false, Option.some.injEq, Nat.le_refl, or_true, true_or, or_false, false_or, if_pos, reduceIte, Nat.reduceGT]
  rw [hr]
  simp only [hs, if_false, reduceIte]
  refine ⟨by omega, by omega, ?_⟩
  have := head n 0 (by omega)
  rw [show mfil M r 0 v = M by funext k j; unfold mfil; simp] at this
  exact this

/-! what was SEEN -/
theorem pow20 : ∀ i : Nat, i < 21 → 2 ^ i ≤ 1048576 := by decide
theorem mk20_lt (q : Nat → Bool) : mkN q 20 < 1048576 := mkN_lt q 20
theorem m20_has {q : Nat → Bool} {k : Nat} (hk : k < 20) : bAnd ((mkN q 20 : Nat) : Int) (bShl 1 (k : Int)) = 0 ↔ q k = false := by
  have h1 := mk20_lt q
  have h2 := pow20 k (by omega)
  rw [bShl_1 (by omega), bAnd_nat (by omega) (by omega)]
  constructor
  · intro h
    have h3 : mkN q 20 &&& 2 ^ k = 0 := by omega
    have h4 : (mkN q 20 &&& 2 ^ k).testBit k = false := by rw [h3]; simp
    rw [Nat.testBit_and, mkN_bit, Nat.testBit_two_pow_self, decide_eq_true hk] at h4
    simpa using h4
  · intro h
    have h3 : mkN q 20 &&& 2 ^ k = 0 := by
      apply Nat.eq_of_testBit_eq
      intro j
      rw [Nat.testBit_and, mkN_bit, Nat.zero_testBit]
      by_cases hj : j = k
      · subst hj; rw [h]; simp
      · rw [Nat.testBit_two_pow_of_ne (fun z => hj z.symm)]; simp
    rw [h3]
    rfl
theorem m20_put {q : Nat → Bool} {k : Nat} (hk : k < 20) : bOr ((mkN q 20 : Nat) : Int) (bShl 1 (k : Int)) = ((mkN (fun j => q j || j == k) 20 : Nat) : Int) := by
  have h1 := mk20_lt q
  have h2 := pow20 k (by omega)
  rw [bShl_1 (by omega), bOr_nat (by omega) (by omega)]
  congr 1
  apply Nat.eq_of_testBit_eq
  intro j
  rw [Nat.testBit_or, mkN_bit, mkN_bit]
  by_cases hj : j = k
  · subst hj; rw [Nat.testBit_two_pow_self, decide_eq_true hk]; simp
  · have hb : (j == k) = false := beq_eq_false_iff_ne.mpr hj
    rw [Nat.testBit_two_pow_of_ne (fun z => hj z.symm), hb]; simp
theorem m20_lift {q : Nat → Bool} {k : Nat} (hk : k < 20) : bAnd ((mkN q 20 : Nat) : Int) (bXor (bShl 1 (k : Int)) (-1)) = ((mkN (fun j => q j && !(j == k)) 20 : Nat) : Int) := by
  have h1 := mk20_lt q
  have h2 := pow20 k (by omega)
  rw [bShl_1 (by omega), bAndN_nat (by omega) (by omega)]
  congr 1
  apply Nat.eq_of_testBit_eq
  intro j
  rw [Nat.testBit_and, Nat.testBit_xor, mkN_bit, mkN_bit, show (4294967295 : Nat) = 2 ^ 32 - 1 by decide, Nat.testBit_two_pow_sub_one]
  by_cases hj20 : j < 20
  · have hj32 : j < 32 := by omega
    by_cases hj : j = k
    · subst hj; rw [Nat.testBit_two_pow_self]; simp [hj32]
    · have hb : (j == k) = false := beq_eq_false_iff_ne.mpr hj
      rw [Nat.testBit_two_pow_of_ne (fun z => hj z.symm), hb]
      simp [hj20, hj32]
  · simp [hj20]
def RS (M T : MM) : Prop := M 26 3 = T 55 11 ∧ (∀ k : Nat, (k : Int) < T 55 11 → M 29 k = T 65 k ∧ M 30 k = T 66 k) ∧ ∃ q : Nat → Bool, M 26 6 = ((mkN q 20 : Nat) : Int) ∧ ∀ k : Nat, (k : Int) < T 55 11 → q k = decide (T 67 k = 1)
theorem RS.keep {M M' T : MM} (h : RS M T) (hk : ∀ k j, 26 ≤ k → k ≤ 30 → M' k j = M k j) : RS M' T := by
  obtain ⟨a, b, q, c, d⟩ := h
  refine ⟨by rw [hk _ _ (by omega) (by omega)]; exact a, fun k h1 => ?_, q, by rw [hk _ _ (by omega) (by omega)]; exact c, d⟩
  rw [hk _ _ (by omega) (by omega), hk _ _ (by omega) (by omega)]
  exact b k h1
theorem x_seenWent (k : Nat) (M T : MM) (hs : WFs T) (hR : RS M T) (hk : (k : Int) < T 55 11) : oI 1 4 [vR 26, vI k] M (b2i (decide (T 67 k = 1))) := by
  obtain ⟨q, h1, h2⟩ := hR.2.2
  have h20 := hs.1
  have hr := bAnd_rg ((mkN q 20 : Nat) : Int) (bShl 1 (k : Int))
  refine go4 (fun S hS => ?_)
  refine wpx_ok hS bk4 (sp := sp4) 60 0 _ _ _ _ ?_
  simp only [LCM, B2, Bool.not_eq_false, Bool.not_eq_true, decide_eq_true_eq, decide_eq_false_iff_not, Int.not_lt, Int.not_le, CST, TN, WX, WA, WB, GS, LOC, BT4, SP4, CLS, FLD, ARR, CD, true_and, and_true, and_self, forall_const, true_implies, false_implies, implies_true, not_true_eq_false, not_false_eq_true, if_true, if_false, rgI, rgL, scr, swl, lkl, cats, cat, is2, List.drop_succ_cons, List.drop_zero, List.drop_nil, List.cons_append, List.nil_append, Option.toList_some, Option.toList_none, List.length_cons, List.length_nil, ne_eq, Classical.not_not, reduceCtorEq, Nat.reduceAdd, Nat.reduceSub, Nat.reduceMul, Nat.reduceLT, Nat.reduceLeDiff, Nat.reduceEqDiff, Nat.reduceBEq, Int.reduceToNat, Int.reduceLE, Int.reduceLT, Int.reduceEq, Int.reduceNeg, Int.reduceAdd, Int.reduceSub, Int.reduceMul, Int.toNat_natCast, Nat.zero_add, Int.add_zero, Nat.add_zero, ite_true, ite_false, Option.some.injEq, Nat.le_refl, or_true, true_or, or_false, false_or, if_pos, reduceIte, Nat.reduceGT]
  rw [h1, m20_has (by omega), h2 k hk]
  refine ⟨hr, fun h => ?_, fun h => ?_⟩
  · exact rt4 (by decide) ⟨rfl, by rw [h]; rfl, rfl⟩
  · exact rt4 (by decide) ⟨rfl, by rw [show decide (T 67 k = 1) = true by simpa using h]; rfl, rfl⟩
theorem shR_SW {T T' : MM} (g : SW T T') (r : Nat → Bool) (w : Nat) : shR T r w = shR T' r w := by
  unfold shR
  rw [g.1 63 _ (by decide), g.1 63 _ (by decide), show skP T' (T 63 (3 * w)).toNat = skP T (T 63 (3 * w)).toNat from funext (fun x => g.eK (T 63 (3 * w)).toNat x)]
theorem x_allSeen (M T T' : MM) (hC : RC M T) (hW : WFt T) (hs : WFs T) (hRS : RS M T) (g : SW T T') (hW' : WFt T') (hR : RO M T' (pH T')) : oI 3 94 [vR 0] M (b2i (fsB T' (T 55 11).toNat)) := by
  have hW2 := hW.W
  have h20 := hs.1
  refine go94 (fun S hS => ?_)
  have head : ∀ (n k : Nat), k + n = (T 55 11).toNat → fstF (bdS T') k n = fstF (bdS T') 0 (T 55 11).toNat → ∀ o : Option AV, S 2 [some (vR 0), some (vI k), o] [] (sh0, 0, 0) M := by
    intro n
    induction n with
    | zero =>
      intro k hk hf o
      refine wpx_ok hS bk94 (sp := sp94) 60 2 _ _ _ _ ?_
      simp only [LCM, B2, Bool.not_eq_false, Bool.not_eq_true, decide_eq_true_eq, decide_eq_false_iff_not, Int.not_lt, Int.not_le, CST, TN, WX, WA, WB, GS, LOC, BT94, SP94, CLS, FLD, ARR, CD, true_and, and_true, and_self, forall_const, true_implies, false_implies, implies_true, not_true_eq_false, not_false_eq_true, if_true, if_false, rgI, rgL, scr, swl, lkl, cats, cat, is2, List.drop_succ_cons, List.drop_zero, List.drop_nil, List.cons_append, List.nil_append, Option.toList_some, Option.toList_none, List.length_cons, List.length_nil, ne_eq, Classical.not_not, reduceCtorEq, Nat.reduceAdd, Nat.reduceSub, Nat.reduceMul, Nat.reduceLT, Nat.reduceLeDiff, Nat.reduceEqDiff, Nat.reduceBEq, Int.reduceToNat, Int.reduceLE, Int.reduceLT, Int.reduceEq, Int.reduceNeg, Int.reduceAdd, Int.reduceSub, Int.reduceMul, Int.toNat_natCast, Nat.zero_add, Int.add_zero, Nat.add_zero, ite_true, ite_false, Option.some.injEq, Nat.le_refl, or_true, true_or, or_false, false_or, if_pos, reduceIte, Nat.reduceGT]
      rw [hRS.1]
      refine ⟨by omega, fun h => rt94 (by decide) ⟨rfl, ?_, rfl⟩, fun h => by omega⟩
      unfold fsB
      rw [← hf]
      rfl
    | succ n ih =>
      intro k hk hf o
      have hsk := hs.2 k (by omega)
      have e := hRS.2.1 k (by omega)
      rw [fstF] at hf
      obtain ⟨w, hw⟩ : ∃ w : Nat, T 66 k = (w : Int) := ⟨(T 66 k).toNat, by omega⟩
      have hbd : bdS T' k = (shrt T' w (T 65 k) == decide (T 67 k = 1)) := by
        unfold bdS
        rw [g.1 66 k (by decide), g.1 65 k (by decide), g.1 67 k (by decide), hw]
        rfl
      have hsh : shR T (fun i => pH T' i && rsB T' (T 65 k) i) w = shrt T' w (T 65 k) := by rw [shR_SW g, shR_day hW']
      refine wpx_ok hS bk94 (sp := sp94) 60 2 _ _ _ _ ?_
      simp only [LCM, B2, Bool.not_eq_false, Bool.not_eq_true, decide_eq_true_eq, decide_eq_false_iff_not, Int.not_lt, Int.not_le, CST, TN, WX, WA, WB, GS, LOC, BT94, SP94, CLS, FLD, ARR, CD, true_and, and_true, and_self, forall_const, true_implies, false_implies, implies_true, not_true_eq_false, not_false_eq_true, if_true, if_false, rgI, rgL, scr, swl, lkl, cats, cat, is2, List.drop_succ_cons, List.drop_zero, List.drop_nil, List.cons_append, List.nil_append, Option.toList_some, Option.toList_none, List.length_cons, List.length_nil, ne_eq, Classical.not_not, reduceCtorEq, Nat.reduceAdd, Nat.reduceSub, Nat.reduceMul, Nat.reduceLT, Nat.reduceLeDiff, Nat.reduceEqDiff, Nat.reduceBEq, Int.reduceToNat, Int.reduceLE, Int.reduceLT, Int.reduceEq, Int.reduceNeg, Int.reduceAdd, Int.reduceSub, Int.reduceMul, Int.toNat_natCast, Nat.zero_add, Int.add_zero, Nat.add_zero, ite_true, ite_false, Option.some.injEq, Nat.le_refl, or_true, true_or, or_false, false_or, if_pos, reduceIte, Nat.reduceGT]
      rw [hRS.1, e.1, e.2, hw]
      refine ⟨by omega, fun h => by omega, fun h => ⟨by omega, by omega, ?_⟩⟩
      refine ⟨rcv_ok rfl own24 rfl, kI (x_restingOn (T 65 k) M T' (pH T') hW' hR (fun i h => of_decide_eq_true h) (by omega)) (Nat.le_of_ble_eq_true rfl) rfl rfl (Nat.le_of_ble_eq_true rfl) (Nat.le_of_ble_eq_true rfl) rfl ?_⟩
      refine wpx_ok hS bk94 (sp := sp94) 60 42 _ _ _ _ ?_
      simp only [LCM, B2, Bool.not_eq_false, Bool.not_eq_true, decide_eq_true_eq, decide_eq_false_iff_not, Int.not_lt, Int.not_le, CST, TN, WX, WA, WB, GS, LOC, BT94, SP94, CLS, FLD, ARR, CD, true_and, and_true, and_self, forall_const, true_implies, false_implies, implies_true, not_true_eq_false, not_false_eq_true, if_true, if_false, rgI, rgL, scr, swl, lkl, cats, cat, is2, List.drop_succ_cons, List.drop_zero, List.drop_nil, List.cons_append, List.nil_append, Option.toList_some, Option.toList_none, List.length_cons, List.length_nil, ne_eq, Classical.not_not, reduceCtorEq, Nat.reduceAdd, Nat.reduceSub, Nat.reduceMul, Nat.reduceLT, Nat.reduceLeDiff, Nat.reduceEqDiff, Nat.reduceBEq, Int.reduceToNat, Int.reduceLE, Int.reduceLT, Int.reduceEq, Int.reduceNeg, Int.reduceAdd, Int.reduceSub, Int.reduceMul, Int.toNat_natCast, Nat.zero_add, Int.add_zero, Nat.add_zero, ite_true, ite_false, Option.some.injEq, Nat.le_refl, or_true, true_or, or_false, false_or, if_pos, reduceIte, Nat.reduceGT]
      refine ⟨rcv_ok rfl own33 rfl, kI (x_isShort w (fun i => pH T' i && rsB T' (T 65 k) i) M T hW hC (by omega)) (Nat.le_of_ble_eq_true rfl) rfl rfl (Nat.le_of_ble_eq_true rfl) (Nat.le_of_ble_eq_true rfl) rfl ?_⟩
      rw [hsh]
      have aft : ∀ v : Bool, v = !shrt T' w (T 65 k) → S 63 [some (vR 0), some (vI k), some (vI (b2i v))] [vI (b2i (decide (T 67 k = 1))), vI (b2i v)] (sh0, 0, 0) M := by
        intro v hv
        refine wpx_ok hS bk94 (sp := sp94) 60 63 _ _ _ _ ?_
        simp only [LCM, B2, Bool.not_eq_false, Bool.not_eq_true, decide_eq_true_eq, decide_eq_false_iff_not, Int.not_lt, Int.not_le, CST, TN, WX, WA, WB, GS, LOC, BT94, SP94, CLS, FLD, ARR, CD, true_and, and_true, and_self, forall_const, true_implies, false_implies, implies_true, not_true_eq_false, not_false_eq_true, if_true, if_false, rgI, rgL, scr, swl, lkl, cats, cat, is2, List.drop_succ_cons, List.drop_zero, List.drop_nil, List.cons_append, List.nil_append, Option.toList_some, Option.toList_none, List.length_cons, List.length_nil, ne_eq, Classical.not_not, reduceCtorEq, Nat.reduceAdd, Nat.reduceSub, Nat.reduceMul, Nat.reduceLT, Nat.reduceLeDiff, Nat.reduceEqDiff, Nat.reduceBEq, Int.reduceToNat, Int.reduceLE, Int.reduceLT, Int.reduceEq, Int.reduceNeg, Int.reduceAdd, Int.reduceSub, Int.reduceMul, Int.toNat_natCast, Nat.zero_add, Int.add_zero, Nat.add_zero, ite_true, ite_false, Option.some.injEq, Nat.le_refl, or_true, true_or, or_false, false_or, if_pos, reduceIte, Nat.reduceGT]
        refine ⟨fun h1 => ?_, fun h1 => ?_⟩
        · have h2 : bdS T' k = false := by
            rw [hbd]
            cases hq : decide (T 67 k = 1) <;> rw [hq] at h1 <;> cases hv2 : shrt T' w (T 65 k) <;> rw [hv2] at hv <;> subst hv <;> first | rfl | (exact absurd h1 (by decide))
          rw [h2] at hf
          exact ih (k + 1) (by omega) hf _
        · have h2 : bdS T' k = true := by
            rw [hbd]
            cases hq : decide (T 67 k = 1) <;> rw [hq] at h1 <;> cases hv2 : shrt T' w (T 65 k) <;> rw [hv2] at hv <;> subst hv <;> first | rfl | (exact absurd rfl h1)
          rw [h2, if_pos rfl] at hf
          refine rt94 (by decide) ⟨rfl, ?_, rfl⟩
          unfold fsB
          rw [← hf]
          rfl
      refine wpx_ok hS bk94 (sp := sp94) 60 45 _ _ _ _ ?_
      simp only [LCM, B2, Bool.not_eq_false, Bool.not_eq_true, decide_eq_true_eq, decide_eq_false_iff_not, Int.not_lt, Int.not_le, CST, TN, WX, WA, WB, GS, LOC, BT94, SP94, CLS, FLD, ARR, CD, true_and, and_true, and_self, forall_const, true_implies, false_implies, implies_true, not_true_eq_false, not_false_eq_true, if_true, if_false, rgI, rgL, scr, swl, lkl, cats, cat, is2, List.drop_succ_cons, List.drop_zero, List.drop_nil, List.cons_append, List.nil_append, Option.toList_some, Option.toList_none, List.length_cons, List.length_nil, ne_eq, Classical.not_not, reduceCtorEq, Nat.reduceAdd, Nat.reduceSub, Nat.reduceMul, Nat.reduceLT, Nat.reduceLeDiff, Nat.reduceEqDiff, Nat.reduceBEq, Int.reduceToNat, Int.reduceLE, Int.reduceLT, Int.reduceEq, Int.reduceNeg, Int.reduceAdd, Int.reduceSub, Int.reduceMul, Int.toNat_natCast, Nat.zero_add, Int.add_zero, Nat.add_zero, ite_true, ite_false, Option.some.injEq, Nat.le_refl, or_true, true_or, or_false, false_or, if_pos, reduceIte, Nat.reduceGT]
      refine ⟨fun h1 => ?_, fun h1 => ?_⟩
      · refine ⟨rcv_ok rfl own4 rfl, kI (x_seenWent k M T hs hRS (by omega)) (Nat.le_of_ble_eq_true rfl) rfl rfl (Nat.le_of_ble_eq_true rfl) (Nat.le_of_ble_eq_true rfl) rfl ?_⟩
        exact aft false (by rw [h1]; rfl)
      · refine ⟨rcv_ok rfl own4 rfl, kI (x_seenWent k M T hs hRS (by omega)) (Nat.le_of_ble_eq_true rfl) rfl rfl (Nat.le_of_ble_eq_true rfl) (Nat.le_of_ble_eq_true rfl) rfl ?_⟩
        exact aft true (by rw [h1]; rfl)
  refine wpx_ok hS bk94 (sp := sp94) 60 0 _ _ _ _ ?_
  simp only [LCM, B2, Bool.not_eq_false, Bool.not_eq_true, decide_eq_true_eq, decide_eq_false_iff_not, Int.not_lt, Int.not_le, CST, TN, WX, WA, WB, GS, LOC, BT94, SP94, CLS, FLD, ARR, CD, true_and, and_true, and_self, forall_const, true_implies, false_implies, implies_true, not_true_eq_false, not_false_eq_true, if_true, if_false, rgI, rgL, scr, swl, lkl, cats, cat, is2, List.drop_succ_cons, List.drop_zero, List.drop_nil, List.cons_append, List.nil_append, Option.toList_some, Option.toList_none, List.length_cons, List.length_nil, ne_eq, Classical.not_not, reduceCtorEq, Nat.reduceAdd, Nat.reduceSub, Nat.reduceMul, Nat.reduceLT, Nat.reduceLeDiff, Nat.reduceEqDiff, Nat.reduceBEq, Int.reduceToNat, Int.reduceLE, Int.reduceLT, Int.reduceEq, Int.reduceNeg, Int.reduceAdd, Int.reduceSub, Int.reduceMul, Int.toNat_natCast, Nat.zero_add, Int.add_zero, Nat.add_zero, ite_true, ite_false, Option.some.injEq, Nat.le_refl, or_true, true_or, or_false, false_or, if_pos, reduceIte, Nat.reduceGT]
  exact head (T 55 11).toNat 0 (by omega) rfl _
theorem alS_anyE (T : MM) : alS T = !anyE T := by
  unfold alS anyE
  cases h : fstF (fun d => anyS T d) 0 (PN T) with
  | none =>
    have h1 := fstF_none.mp h
    have h2 : fstF (evS T) 0 (wN T) = none := by
      refine fstF_none.mpr (fun w _ hw => ?_)
      unfold evS
      have h3 : fstF (fun d => shrt T w d) 0 (PN T) = none := by
        refine fstF_none.mpr (fun d _ hd => ?_)
        have h4 := h1 d (by omega) hd
        unfold anyS shO at h4
        have h5 : fstF (fun w => shrt T w d) 0 (wN T) = none := by
          cases hx : fstF (fun w => shrt T w d) 0 (wN T) with
          | none => rfl
          | some y => rw [hx] at h4; cases h4
        exact fstF_none.mp h5 w (by omega) hw
      rw [h3]
      rfl
    rw [h2]
    rfl
  | some d =>
    obtain ⟨-, h2, h3, -⟩ := fstF_some.mp h
    unfold anyS shO at h3
    cases hx : fstF (fun w => shrt T w d) 0 (wN T) with
    | none => rw [hx] at h3; cases h3
    | some w =>
      obtain ⟨-, h4, h5, -⟩ := fstF_some.mp hx
      cases hy : fstF (evS T) 0 (wN T) with
      | some z => rfl
      | none =>
        have h6 := fstF_none.mp hy w (by omega) h4
        unfold evS at h6
        cases hz : fstF (fun d => shrt T w d) 0 (PN T) with
        | some z => rw [hz] at h6; cases h6
        | none =>
          have h7 := fstF_none.mp hz d (by omega) h2
          rw [h5] at h7
          cases h7
/-- what the ways hold behind c codes -/
def WV (M T : MM) (b : Bool) (c : Nat) : Prop := M 37 6 = cnt (okC T b) c ∧ (0 ≤ M 37 7 ∧ M 37 7 ≤ 10) ∧ (0 < cnt (okC T b) c → M 37 7 = wtC T b (bsC T b c) ∧ ∀ i, i < hN T → newB T i = true → M 42 (ix T i) = dig T (bsC T b c) i) ∧ ∀ i, i < hN T → newB T i = true → M 43 (ix T i) = smC T b i c
def row (k : Nat) : Prop := ro k ∨ (37 ≤ k ∧ k ≤ 43)
theorem WV.keep {M M' T : MM} {b : Bool} {c : Nat} (h : WV M T b c) (hk : ∀ k j, (k = 37 ∨ k = 42 ∨ k = 43) → M' k j = M k j) : WV M' T b c := by
  obtain ⟨h1, h2, h3, h4⟩ := h
  refine ⟨by rw [hk 37 6 (by omega)]; exact h1, by rw [hk 37 7 (by omega)]; exact h2, fun h => ?_, fun i hi hb => by rw [hk 43 _ (by omega)]; exact h4 i hi hb⟩
  rw [hk 37 7 (by omega)]
  exact ⟨(h3 h).1, fun i hi hb => by rw [hk 42 _ (by omega)]; exact (h3 h).2 i hi hb⟩
theorem WV.no {M T : MM} {b : Bool} {c : Nat} (h : WV M T b c) (hn : okC T b c = false) : WV M T b (c + 1) := by
  unfold WV
  have ec : cnt (okC T b) (c + 1) = cnt (okC T b) c := by rw [cnt, hn]; simp
  have eb : bsC T b (c + 1) = bsC T b c := by rw [bsC, hn]; rfl
  rw [ec, eb]
  refine ⟨h.1, h.2.1, h.2.2.1, fun i hi hb => ?_⟩
  rw [smC, hn]
  exact h.2.2.2 i hi hb
theorem WV.yes {M M' T : MM} {b : Bool} {c : Nat} (hW : WFt T) (h : WV M T b c) (hD : WD M T c) (hy : okC T b c = true) (a6 : M' 37 6 = M 37 6 + 1) (a7 : M' 37 7 = (if fdV M (wtC T b c) then wtC T b c else M 37 7)) (a42 : ∀ j, j < 3 → M' 42 j = if fdV M (wtC T b c) then M 41 j else M 42 j) (a43 : ∀ j, j < nM T → M' 43 j = bOr (M 43 j) (bShl 1 (M 41 j))) : WV M' T b (c + 1) := by
  have hn3 := nM_3 hW
  have hcr := cnt_rg (okC T b) c
  have hwr := wtC_rg hW b c
  have hxl : ∀ i, i < hN T → newB T i = true → ix T i < nM T := fun i hi hb => ix_lt (T := T) (j := hN T) hi hb
  have ec : cnt (okC T b) (c + 1) = cnt (okC T b) c + 1 := by rw [cnt, hy]; simp
  have hv : fdV M (wtC T b c) = (decide (cnt (okC T b) c = 0) || decide (wtC T b c < wtC T b (bsC T b c))) := by
    unfold fdV
    rw [h.1]
    by_cases h0 : cnt (okC T b) c = 0
    · rw [decide_eq_true h0]; rfl
    · rw [(h.2.2.1 (by omega)).1]
  rw [hv] at a7 a42
  refine ⟨by rw [a6, h.1, ec], ?_, fun _ => ?_, fun i hi hb => ?_⟩
  · rw [a7]; split
    · exact hwr
    · exact h.2.1
  · rw [bsC, hy, Bool.true_and]
    cases hq : (decide (cnt (okC T b) c = 0) || decide (wtC T b c < wtC T b (bsC T b c))) with
    | true =>
      rw [hq] at a7 a42
      rw [if_pos rfl]
      refine ⟨a7, fun i hi hb => ?_⟩
      rw [a42 _ (by have := hxl i hi hb; omega), if_pos rfl]
      exact hD i hi hb
    | false =>
      rw [hq] at a7 a42
      rw [if_neg (by decide)]
      have h0 : 0 < cnt (okC T b) c := by
        simp only [Bool.or_eq_false_iff, decide_eq_false_iff_not] at hq
        omega
      have := h.2.2.1 h0
      refine ⟨?_, fun i hi hb => ?_⟩
      · rw [a7, if_neg (by decide)]; exact this.1
      · rw [a42 _ (by have := hxl i hi hb; omega), if_neg (by decide)]; exact this.2 i hi hb
  · rw [a43 _ (hxl i hi hb), smC, hy, if_pos rfl, h.2.2.2 i hi hb, hD i hi hb, cd_new hi hb]

/-! the model reads the text: numbers, parts, begins, takes -/
theorem m_number (tx : Nat → Int) (n p : Nat) (M : MM) (hn4 : n ≤ 400) (hb : ∀ k, -128 ≤ tx k ∧ tx k ≤ 127) (hn : M 55 0 = n) (hx : ∀ k, M 56 k = tx k) (hp : M 55 2 = p) (hpn : p ≤ n) :
    oQ 2 105 [vR 55] M (fun r M' => ∃ q : Nat, p ≤ q ∧ q ≤ n ∧ (okD tx n p = true → q = p + nln tx n p) ∧ M' = mset M 55 2 q ∧ r = some (Sum.inl (if okD tx n p then nvl tx n p else -1))) := by
  refine go105 (fun S hS => ?_)
  have ext : ∀ (f : Nat) (v : Int), p + f ≤ n → (∀ j, j < f → fig tx n (p + j) = true) → fig tx n (p + f) = false → v = (if f = 0 then 0 else if f = 1 then tx p - 48 else 10 * (tx p - 48) + tx (p + 1) - 48) → S 80 [some (vR 55), some (vI v), some (vI f)] [] (sh0, 0, 0) (mset M 55 2 ((p + f : Nat) : Int)) := by
    intro f v hf hlo hno hv
    have hq : ∀ r : Int, r = (if okD tx n p then nvl tx n p else -1) → (okD tx n p = true → f = nln tx n p) → Rtn 105 0 0 (fun r sh M' => sh = sh0 ∧ ∃ q : Nat, p ≤ q ∧ q ≤ n ∧ (okD tx n p = true → q = p + nln tx n p) ∧ M' = mset M 55 2 q ∧ r = some (Sum.inl (if okD tx n p then nvl tx n p else -1))) (some (Sum.inl r)) (sh0, 0, 0) (mset M 55 2 ((p + f : Nat) : Int)) := by
      intro r h1 h2
      exact rt105 ⟨rfl, p + f, by omega, hf, fun z => by rw [h2 z], rfl, by rw [h1]⟩
    refine wpx_ok hS bk105 (sp := sp105) 60 80 _ _ _ _ ?_
    simp only [LCM, B2, Bool.not_eq_false, Bool.not_eq_true, decide_eq_true_eq, decide_eq_false_iff_not, Int.not_lt, Int.not_le, CST, TN, WX, WA, WB, GS, LOC, BT105, SP105, CLS, FLD, ARR, CD, true_and, and_true, and_self, forall_const, true_implies, false_implies, implies_true, not_true_eq_false, not_false_eq_true, if_true, if_false, rgI, rgL, scr, swl, lkl, cats, cat, is2, List.drop_succ_cons, List.drop_zero, List.drop_nil, List.cons_append, List.nil_append, Option.toList_some, Option.toList_none, List.length_cons, List.length_nil, ne_eq, Classical.not_not, reduceCtorEq, Nat.reduceAdd, Nat.reduceSub, Nat.reduceMul, Nat.reduceLT, Nat.reduceLeDiff, Nat.reduceEqDiff, Nat.reduceBEq, Int.reduceToNat, Int.reduceLE, Int.reduceLT, Int.reduceEq, Int.reduceNeg, Int.reduceAdd, Int.reduceSub, Int.reduceMul, Int.toNat_natCast, Nat.zero_add, Int.add_zero, Nat.add_zero, ite_true, ite_false, Option.some.injEq, Nat.le_refl, or_true, true_or, or_false, false_or, if_pos, reduceIte, Nat.reduceGT]
    refine ⟨by omega, ?_⟩
    refine kI (c_in f 1 2 _ (by unfold rgL; omega) (by unfold rgL; omega) (by unfold rgL; omega)) (Nat.le_of_ble_eq_true rfl) rfl rfl (Nat.le_of_ble_eq_true rfl) (Nat.le_of_ble_eq_true rfl) rfl ?_
    refine wpx_ok hS bk105 (sp := sp105) 60 89 _ _ _ _ ?_
    simp only [LCM, B2, Bool.not_eq_false, Bool.not_eq_true, decide_eq_true_eq, decide_eq_false_iff_not, Int.not_lt, Int.not_le, CST, TN, WX, WA, WB, GS, LOC, BT105, SP105, CLS, FLD, ARR, CD, true_and, and_true, and_self, forall_const, true_implies, false_implies, implies_true, not_true_eq_false, not_false_eq_true, if_true, if_false, rgI, rgL, scr, swl, lkl, cats, cat, is2, List.drop_succ_cons, List.drop_zero, List.drop_nil, List.cons_append, List.nil_append, Option.toList_some, Option.toList_none, List.length_cons, List.length_nil, ne_eq, Classical.not_not, reduceCtorEq, Nat.reduceAdd, Nat.reduceSub, Nat.reduceMul, Nat.reduceLT, Nat.reduceLeDiff, Nat.reduceEqDiff, Nat.reduceBEq, Int.reduceToNat, Int.reduceLE, Int.reduceLT, Int.reduceEq, Int.reduceNeg, Int.reduceAdd, Int.reduceSub, Int.reduceMul, Int.toNat_natCast, Nat.zero_add, Int.add_zero, Nat.add_zero, ite_true, ite_false, Option.some.injEq, Nat.le_refl, or_true, true_or, or_false, false_or, if_pos, reduceIte, Nat.reduceGT]
    refine ⟨fun h => ?_, fun h => ?_⟩
    · have hd : okD tx n p = false := by
        unfold okD
        by_cases h0 : f = 0
        · subst h0; rw [Nat.add_zero] at hno; rw [hno]; rfl
        · have h1 := hlo 1 (by omega)
          have h2 := hlo 2 (by omega)
          unfold nln
          rw [h1, if_pos rfl, h2]; simp
      exact hq _ (by rw [hd]; rfl) (fun z => by rw [hd] at z; cases z)
    · have h0 := hlo 0 (by omega)
      rw [Nat.add_zero] at h0
      have hf12 : f = 1 ∨ f = 2 := by omega
      rcases hf12 with rfl | rfl
      · have hl : nln tx n p = 1 := by unfold nln; rw [hno]; rfl
        have hd : okD tx n p = true := by unfold okD; rw [hl, h0, hno]; rfl
        refine hq _ ?_ (fun _ => hl.symm)
        rw [hd, if_pos rfl, hv]
        unfold nvl
        rw [hno]
        rfl
      · have h1 := hlo 1 (by omega)
        have hl : nln tx n p = 2 := by unfold nln; rw [h1]; rfl
        have hd : okD tx n p = true := by unfold okD; rw [hl, h0, hno]; rfl
        refine hq _ ?_ (fun _ => hl.symm)
        rw [hd, if_pos rfl, hv]
        unfold nvl
        rw [h1]
        rfl
  have head : ∀ (m f : Nat) (v : Int), p + f + m = n → (∀ j, j < f → fig tx n (p + j) = true) → v = (if f = 0 then 0 else if f = 1 then tx p - 48 else 10 * (tx p - 48) + tx (p + 1) - 48) → S 4 [some (vR 55), some (vI v), some (vI f)] [] (sh0, 0, 0) (mset M 55 2 ((p + f : Nat) : Int)) := by
    intro m
    induction m with
    | zero =>
      intro f v hm hlo hv
      have hno : fig tx n (p + f) = false := by unfold fig; exact decide_eq_false (by omega)
      have he := ext f v (by omega) hlo hno hv
      refine wpx_ok hS bk105 (sp := (fun t => sp105 t || t == 80)) 60 4 _ _ _ _ ?_
      simp only [LCM, B2, Bool.not_eq_false, Bool.not_eq_true, decide_eq_true_eq, decide_eq_false_iff_not, Int.not_lt, Int.not_le, CST, TN, WX, WA, WB, GS, LOC, BT105, SP105, CLS, FLD, ARR, CD, true_and, and_true, and_self, forall_const, true_implies, false_implies, implies_true, not_true_eq_false, not_false_eq_true, if_true, if_false, rgI, rgL, scr, swl, lkl, cats, cat, is2, List.drop_succ_cons, List.drop_zero, List.drop_nil, List.cons_append, List.nil_append, Option.toList_some, Option.toList_none, List.length_cons, List.length_nil, ne_eq, Classical.not_not, reduceCtorEq, Nat.reduceAdd, Nat.reduceSub, Nat.reduceMul, Nat.reduceLT, Nat.reduceLeDiff, Nat.reduceEqDiff, Nat.reduceBEq, Int.reduceToNat, Int.reduceLE, Int.reduceLT, Int.reduceEq, Int.reduceNeg, Int.reduceAdd, Int.reduceSub, Int.reduceMul, Int.toNat_natCast, Nat.zero_add, Int.add_zero, Nat.add_zero, ite_true, ite_false, Option.some.injEq, Nat.le_refl, or_true, true_or, or_false, false_or, if_pos, reduceIte, Nat.reduceGT, Bool.or_false, Bool.false_or, Bool.or_true, Bool.true_or, beq_self_eq_true, Nat.reduceBEq]
      rw [ms_eq, ms_nj (by decide), hn]
      exact ⟨by omega, fun _ => he, fun h => by omega⟩
    | succ m ih =>
      intro f v hm hlo hv
      have hbf := hb (p + f)
      refine wpx_ok hS bk105 (sp := (fun t => sp105 t || t == 80)) 60 4 _ _ _ _ ?_
      simp only [LCM, B2, Bool.not_eq_false, Bool.not_eq_true, decide_eq_true_eq, decide_eq_false_iff_not, Int.not_lt, Int.not_le, CST, TN, WX, WA, WB, GS, LOC, BT105, SP105, CLS, FLD, ARR, CD, true_and, and_true, and_self, forall_const, true_implies, false_implies, implies_true, not_true_eq_false, not_false_eq_true, if_true, if_false, rgI, rgL, scr, swl, lkl, cats, cat, is2, List.drop_succ_cons, List.drop_zero, List.drop_nil, List.cons_append, List.nil_append, Option.toList_some, Option.toList_none, List.length_cons, List.length_nil, ne_eq, Classical.not_not, reduceCtorEq, Nat.reduceAdd, Nat.reduceSub, Nat.reduceMul, Nat.reduceLT, Nat.reduceLeDiff, Nat.reduceEqDiff, Nat.reduceBEq, Int.reduceToNat, Int.reduceLE, Int.reduceLT, Int.reduceEq, Int.reduceNeg, Int.reduceAdd, Int.reduceSub, Int.reduceMul, Int.toNat_natCast, Nat.zero_add, Int.add_zero, Nat.add_zero, ite_true, ite_false, Option.some.injEq, Nat.le_refl, or_true, true_or, or_false, false_or, if_pos, reduceIte, Nat.reduceGT, Bool.or_false, Bool.false_or, Bool.or_true, Bool.true_or, beq_self_eq_true, Nat.reduceBEq]
      rw [ms_eq, ms_nj (by decide), hn]
      simp only [Int.toNat_natCast, ms_ne (show (56 : Nat) ≠ 55 by decide), hx]
      refine ⟨by omega, fun h => by omega, fun h => ⟨by omega, by omega, ?_⟩⟩
      refine kI (c_in (tx (p + f)) 48 57 _ (by unfold rgL; omega) (by unfold rgL; omega) (by unfold rgL; omega)) (Nat.le_of_ble_eq_true rfl) rfl rfl (Nat.le_of_ble_eq_true rfl) (Nat.le_of_ble_eq_true rfl) rfl ?_
      refine wpx_ok hS bk105 (sp := (fun t => sp105 t || t == 80)) 60 34 _ _ _ _ ?_
      simp only [LCM, B2, Bool.not_eq_false, Bool.not_eq_true, decide_eq_true_eq, decide_eq_false_iff_not, Int.not_lt, Int.not_le, CST, TN, WX, WA, WB, GS, LOC, BT105, SP105, CLS, FLD, ARR, CD, true_and, and_true, and_self, forall_const, true_implies, false_implies, implies_true, not_true_eq_false, not_false_eq_true, if_true, if_false, rgI, rgL, scr, swl, lkl, cats, cat, is2, List.drop_succ_cons, List.drop_zero, List.drop_nil, List.cons_append, List.nil_append, Option.toList_some, Option.toList_none, List.length_cons, List.length_nil, ne_eq, Classical.not_not, reduceCtorEq, Nat.reduceAdd, Nat.reduceSub, Nat.reduceMul, Nat.reduceLT, Nat.reduceLeDiff, Nat.reduceEqDiff, Nat.reduceBEq, Int.reduceToNat, Int.reduceLE, Int.reduceLT, Int.reduceEq, Int.reduceNeg, Int.reduceAdd, Int.reduceSub, Int.reduceMul, Int.toNat_natCast, Nat.zero_add, Int.add_zero, Nat.add_zero, ite_true, ite_false, Option.some.injEq, Nat.le_refl, or_true, true_or, or_false, false_or, if_pos, reduceIte, Nat.reduceGT, Bool.or_false, Bool.false_or, Bool.or_true, Bool.true_or, beq_self_eq_true, Nat.reduceBEq]
      refine ⟨fun h1 => ?_, fun h1 => ?_⟩
      · exact ext f v (by omega) hlo (by unfold fig; exact decide_eq_false (fun z => h1 z.2)) hv
      · have hfg : fig tx n (p + f) = true := fig_iff.mpr ⟨by omega, h1⟩
        have hlo' : ∀ j, j < f + 1 → fig tx n (p + j) = true := fun j hj => by
          by_cases hjf : j = f
          · rw [hjf]; exact hfg
          · exact hlo j (by omega)
        simp only [ms_eq, Int.toNat_natCast, ms_ne (show (56 : Nat) ≠ 55 by decide), hx]
        have e2 : mset (mset M 55 2 ((p + f : Nat) : Int)) 55 2 (((p + f : Nat) : Int) + 1) = mset M 55 2 ((p + (f + 1) : Nat) : Int) := by
          funext k j
          unfold mset
          split
          · omega
          · rfl
        rw [e2]
        refine ⟨by omega, fun h2 => ?_, fun h2 => ⟨by omega, ?_⟩⟩
        · refine ih (f + 1) v (by omega) hlo' ?_
          rw [hv, if_neg (by omega), if_neg (by omega), if_neg (by omega), if_neg (by omega)]
        · refine ih (f + 1) _ (by omega) hlo' ?_
          have hf01 : f = 0 ∨ f = 1 := by omega
          rcases hf01 with rfl | rfl
          · rw [hv]; simp
          · rw [hv]; simp
  have h0 := head (n - p) 0 0 (by omega) (fun j hj => by omega) rfl
  have e0 : mset M 55 2 ((p + 0 : Nat) : Int) = M := by
    funext k j
    unfold mset
    split
    · rename_i hkj; rw [hkj.1, hkj.2, hp]; rfl
    · rfl
  rw [e0] at h0
  refine wpx_ok hS bk105 (sp := sp105) 60 0 _ _ _ _ ?_
  simp only [LCM, B2, Bool.not_eq_false, Bool.not_eq_true, decide_eq_true_eq, decide_eq_false_iff_not, Int.not_lt, Int.not_le, CST, TN, WX, WA, WB, GS, LOC, BT105, SP105, CLS, FLD, ARR, CD, true_and, and_true, and_self, forall_const, true_implies, false_implies, implies_true, not_true_eq_false, not_false_eq_true, if_true, if_false, rgI, rgL, scr, swl, lkl, cats, cat, is2, List.drop_succ_cons, List.drop_zero, List.drop_nil, List.cons_append, List.nil_append, Option.toList_some, Option.toList_none, List.length_cons, List.length_nil, ne_eq, Classical.not_not, reduceCtorEq, Nat.reduceAdd, Nat.reduceSub, Nat.reduceMul, Nat.reduceLT, Nat.reduceLeDiff, Nat.reduceEqDiff, Nat.reduceBEq, Int.reduceToNat, Int.reduceLE, Int.reduceLT, Int.reduceEq, Int.reduceNeg, Int.reduceAdd, Int.reduceSub, Int.reduceMul, Int.toNat_natCast, Nat.zero_add, Int.add_zero, Nat.add_zero, ite_true, ite_false, Option.some.injEq, Nat.le_refl, or_true, true_or, or_false, false_or, if_pos, reduceIte, Nat.reduceGT]
  exact h0
theorem m_parts (l : Int) (M : MM) (hl : rgI l) : oI 1 106 [vI l] M (prt l) := by
  unfold rgI at hl
  refine go106 (fun S hS => ?_)
  refine wpx_ok hS bk106 (sp := sp106) 60 0 _ _ _ _ ?_
  simp only [LCM, B2, Bool.not_eq_false, Bool.not_eq_true, decide_eq_true_eq, decide_eq_false_iff_not, Int.not_lt, Int.not_le, CST, TN, WX, WA, WB, GS, LOC, BT106, SP106, CLS, FLD, ARR, CD, true_and, and_true, and_self, forall_const, true_implies, false_implies, implies_true, not_true_eq_false, not_false_eq_true, if_true, if_false, rgI, rgL, scr, swl, lkl, cats, cat, is2, List.drop_succ_cons, List.drop_zero, List.drop_nil, List.cons_append, List.nil_append, Option.toList_some, Option.toList_none, List.length_cons, List.length_nil, ne_eq, Classical.not_not, reduceCtorEq, Nat.reduceAdd, Nat.reduceSub, Nat.reduceMul, Nat.reduceLT, Nat.reduceLeDiff, Nat.reduceEqDiff, Nat.reduceBEq, Int.reduceToNat, Int.reduceLE, Int.reduceLT, Int.reduceEq, Int.reduceNeg, Int.reduceAdd, Int.reduceSub, Int.reduceMul, Int.toNat_natCast, Nat.zero_add, Int.add_zero, Nat.add_zero, ite_true, ite_false, Option.some.injEq, Nat.le_refl, or_true, true_or, or_false, false_or, if_pos, reduceIte, Nat.reduceGT]
  refine ⟨hl, fun h1 => ⟨hl, fun h2 => ⟨hl, fun h3 => ⟨hl, fun h4 => ?_, fun h4 => ⟨hl, fun h5 => ?_, fun h5 => ?_⟩⟩, fun h3 => ?_⟩, fun h2 => ?_⟩, fun h1 => ?_⟩
  · exact rt106 ⟨rfl, by unfold prt; rw [if_neg h1, if_neg h2, if_neg h3, if_pos (Or.inl h4)]; rfl, rfl⟩
  · exact rt106 ⟨rfl, by unfold prt; rw [if_neg h1, if_neg h2, if_neg h3, if_neg (by omega)]; rfl, rfl⟩
  · exact rt106 ⟨rfl, by unfold prt; rw [if_neg h1, if_neg h2, if_neg h3, if_pos (Or.inr h5)]; rfl, rfl⟩
  · exact rt106 ⟨rfl, by unfold prt; rw [if_neg h1, if_neg h2, if_pos h3]; rfl, rfl⟩
  · exact rt106 ⟨rfl, by unfold prt; rw [if_neg h1, if_pos h2]; rfl, rfl⟩
  · exact rt106 ⟨rfl, by unfold prt; rw [if_pos h1]; rfl, rfl⟩
/-- the model's draft is D -/
def DM (N D : MM) : Prop := (N 57 2 = D 57 0 ∧ N 57 3 = D 57 1 ∧ N 58 1 = D 58 0 ∧ N 59 1 = D 59 0 ∧ N 60 1 = D 60 0) ∧ (∀ i, i < hN D → N 61 (40 + 4 * i) = D 61 (4 * i) ∧ N 61 (40 + 4 * i + 1) = D 61 (4 * i + 1) ∧ N 61 (40 + 4 * i + 2) = D 61 (4 * i + 2) ∧ N 61 (40 + 4 * i + 3) = D 61 (4 * i + 3) ∧ N 62 i = D 62 i) ∧
  (∀ w, w < wN D → N 63 (18 + 3 * w) = D 63 (3 * w) ∧ N 63 (18 + 3 * w + 1) = D 63 (3 * w + 1) ∧ N 63 (18 + 3 * w + 2) = D 63 (3 * w + 2)) ∧ ∀ i, i < 10 → N 64 (10 + i) = D 64 i
def drf (k j : Nat) : Prop := (k = 57 ∧ 2 ≤ j) ∨ ((k = 58 ∨ k = 59 ∨ k = 60) ∧ 1 ≤ j) ∨ (k = 61 ∧ 40 ≤ j) ∨ k = 62 ∨ (k = 63 ∧ 18 ≤ j) ∨ (k = 64 ∧ 10 ≤ j)
theorem DM.keep {N N' D : MM} (h : DM N D) (e : ∀ k j, drf k j → N' k j = N k j) : DM N' D := by
  obtain ⟨⟨a1, a2, a3, a4, a5⟩, b, c, d⟩ := h
  refine ⟨⟨?_, ?_, ?_, ?_, ?_⟩, fun i hi => ?_, fun w hw => ?_, fun i hi => ?_⟩
  · rw [e _ _ (by unfold drf; omega)]; exact a1
  · rw [e _ _ (by unfold drf; omega)]; exact a2
  · rw [e _ _ (by unfold drf; omega)]; exact a3
  · rw [e _ _ (by unfold drf; omega)]; exact a4
  · rw [e _ _ (by unfold drf; omega)]; exact a5
  · rw [e _ _ (by unfold drf; omega), e _ _ (by unfold drf; omega), e _ _ (by unfold drf; omega), e _ _ (by unfold drf; omega), e _ _ (by unfold drf; omega)]; exact b i hi
  · rw [e _ _ (by unfold drf; omega), e _ _ (by unfold drf; omega), e _ _ (by unfold drf; omega)]; exact c w hw
  · rw [e _ _ (by unfold drf; omega)]; exact d i hi
theorem m_begins (M : MM) : oQ 1 109 [vR 55] M (fun r M' => r = none ∧ DM M' D0 ∧ ∀ k j, ¬ drf k j → M' k j = M k j) := by
  refine go109 (fun S hS => ?_)
  have head : ∀ (m i : Nat) (N : MM), i + m = 10 → (N 57 2 = 7 ∧ N 57 3 = 9 ∧ N 58 1 = 0 ∧ N 59 1 = 0 ∧ N 60 1 = 0) → (∀ x, x < i → N 64 (10 + x) = 0) → (∀ k j, ¬ drf k j → N k j = M k j) → S 39 [some (vR 55), some (vI i)] [] (sh0, 0, 0) N := by
    intro m
    induction m with
    | zero =>
      intro i N hi h0 hA hF
      have hi10 : i = 10 := by omega
      refine wpx_ok hS bk109 (sp := sp109) 60 39 _ _ _ _ ?_
      simp only [LCM, B2, Bool.not_eq_false, Bool.not_eq_true, decide_eq_true_eq, decide_eq_false_iff_not, Int.not_lt, Int.not_le, CST, TN, WX, WA, WB, GS, LOC, BT109, SP109, CLS, FLD, ARR, CD, true_and, and_true, and_self, forall_const, true_implies, false_implies, implies_true, not_true_eq_false, not_false_eq_true, if_true, if_false, rgI, rgL, scr, swl, lkl, cats, cat, is2, List.drop_succ_cons, List.drop_zero, List.drop_nil, List.cons_append, List.nil_append, Option.toList_some, Option.toList_none, List.length_cons, List.length_nil, ne_eq, Classical.not_not, reduceCtorEq, Nat.reduceAdd, Nat.reduceSub, Nat.reduceMul, Nat.reduceLT, Nat.reduceLeDiff, Nat.reduceEqDiff, Nat.reduceBEq, Int.reduceToNat, Int.reduceLE, Int.reduceLT, Int.reduceEq, Int.reduceNeg, Int.reduceAdd, Int.reduceSub, Int.reduceMul, Int.toNat_natCast, Nat.zero_add, Int.add_zero, Nat.add_zero, ite_true, ite_false, Option.some.injEq, Nat.le_refl, or_true, true_or, or_false, false_or, if_pos, reduceIte, Nat.reduceGT]
      refine ⟨by omega, fun _ => rt109 (Nat.le_refl _) (Nat.le_refl _) ⟨rfl, rfl, ⟨h0, fun x hx => ?_, fun x hx => ?_, fun x hx => hA x (by omega)⟩, hF⟩, fun h => by omega⟩
      · exact absurd hx (by unfold hN D0; simp)
      · exact absurd hx (by unfold wN D0; simp)
    | succ m ih =>
      intro i N hi h0 hA hF
      refine wpx_ok hS bk109 (sp := sp109) 60 39 _ _ _ _ ?_
      simp only [LCM, B2, Bool.not_eq_false, Bool.not_eq_true, decide_eq_true_eq, decide_eq_false_iff_not, Int.not_lt, Int.not_le, CST, TN, WX, WA, WB, GS, LOC, BT109, SP109, CLS, FLD, ARR, CD, true_and, and_true, and_self, forall_const, true_implies, false_implies, implies_true, not_true_eq_false, not_false_eq_true, if_true, if_false, rgI, rgL, scr, swl, lkl, cats, cat, is2, List.drop_succ_cons, List.drop_zero, List.drop_nil, List.cons_append, List.nil_append, Option.toList_some, Option.toList_none, List.length_cons, List.length_nil, ne_eq, Classical.not_not, reduceCtorEq, Nat.reduceAdd, Nat.reduceSub, Nat.reduceMul, Nat.reduceLT, Nat.reduceLeDiff, Nat.reduceEqDiff, Nat.reduceBEq, Int.reduceToNat, Int.reduceLE, Int.reduceLT, Int.reduceEq, Int.reduceNeg, Int.reduceAdd, Int.reduceSub, Int.reduceMul, Int.toNat_natCast, Nat.zero_add, Int.add_zero, Nat.add_zero, ite_true, ite_false, Option.some.injEq, Nat.le_refl, or_true, true_or, or_false, false_or, if_pos, reduceIte, Nat.reduceGT]
      refine ⟨by omega, fun h => by omega, fun h => ⟨by omega, ?_⟩⟩
      refine ih (i + 1) _ (by omega) ?_ (fun x hx => ?_) (fun k j hk => ?_)
      · rw [ms_ne (by decide), ms_ne (by decide), ms_ne (by decide), ms_ne (by decide), ms_ne (by decide)]; exact h0
      · by_cases hxi : x = i
        · subst hxi; rw [ms_eq]
        · rw [ms_nj (by omega)]; exact hA x (by omega)
      · rw [← hF k j hk]
        unfold drf at hk
        unfold mset
        rw [if_neg (by omega)]
  refine wpx_ok hS bk109 (sp := sp109) 60 0 _ _ _ _ ?_
  simp only [LCM, B2, Bool.not_eq_false, Bool.not_eq_true, decide_eq_true_eq, decide_eq_false_iff_not, Int.not_lt, Int.not_le, CST, TN, WX, WA, WB, GS, LOC, BT109, SP109, CLS, FLD, ARR, CD, true_and, and_true, and_self, forall_const, true_implies, false_implies, implies_true, not_true_eq_false, not_false_eq_true, if_true, if_false, rgI, rgL, scr, swl, lkl, cats, cat, is2, List.drop_succ_cons, List.drop_zero, List.drop_nil, List.cons_append, List.nil_append, Option.toList_some, Option.toList_none, List.length_cons, List.length_nil, ne_eq, Classical.not_not, reduceCtorEq, Nat.reduceAdd, Nat.reduceSub, Nat.reduceMul, Nat.reduceLT, Nat.reduceLeDiff, Nat.reduceEqDiff, Nat.reduceBEq, Int.reduceToNat, Int.reduceLE, Int.reduceLT, Int.reduceEq, Int.reduceNeg, Int.reduceAdd, Int.reduceSub, Int.reduceMul, Int.toNat_natCast, Nat.zero_add, Int.add_zero, Nat.add_zero, ite_true, ite_false, Option.some.injEq, Nat.le_refl, or_true, true_or, or_false, false_or, if_pos, reduceIte, Nat.reduceGT]
  refine head 10 0 _ (by omega) ⟨rfl, rfl, rfl, rfl, rfl⟩ (fun x hx => by omega) (fun k j hk => ?_)
  unfold drf at hk
  unfold mset
  rw [if_neg (by omega), if_neg (by omega), if_neg (by omega), if_neg (by omega), if_neg (by omega)]
/-- what takes has taken -/
def tkn (M N : MM) : Prop := (N 57 0 = M 57 2 ∧ N 57 1 = M 57 3 ∧ N 58 0 = M 58 1 ∧ N 59 0 = M 59 1 ∧ N 60 0 = M 60 1) ∧ (∀ j, j < 40 → N 61 j = M 61 (40 + j)) ∧ (∀ j, j < 18 → N 63 j = M 63 (18 + j)) ∧ (∀ j, j < 10 → N 64 j = M 64 (10 + j)) ∧ N 55 11 = 0 ∧ N 55 15 = 0 ∧ ∀ k j, ¬ cor k j → ¬ (k = 55 ∧ (j = 11 ∨ j = 15)) → N k j = M k j
theorem m_takes (M : MM) (h64 : ∀ j, j < 10 → M 64 (10 + j) = 0 ∨ M 64 (10 + j) = 1) : oQ 1 110 [vR 55] M (fun r M' => r = none ∧ tkn M M') := by
  refine go110 (fun S hS => ?_)
  have head : ∀ (m i : Nat) (N : MM), i + m = 40 → (N 57 0 = M 57 2 ∧ N 57 1 = M 57 3 ∧ N 58 0 = M 58 1 ∧ N 59 0 = M 59 1 ∧ N 60 0 = M 60 1) → (∀ j, j < i → N 61 j = M 61 (40 + j)) → (∀ j, j < i → j < 18 → N 63 j = M 63 (18 + j)) → (∀ j, j < i → j < 10 → N 64 j = M 64 (10 + j)) → (∀ k j, ¬ cor k j → N k j = M k j) → S 62 [some (vR 55), some (vI i)] [] (sh0, 0, 0) N := by
    intro m
    induction m with
    | zero =>
      intro i N hi h0 hA hB hC hF
      refine wpx_ok hS bk110 (sp := sp110) 60 62 _ _ _ _ ?_
      simp only [LCM, B2, Bool.not_eq_false, Bool.not_eq_true, decide_eq_true_eq, decide_eq_false_iff_not, Int.not_lt, Int.not_le, CST, TN, WX, WA, WB, GS, LOC, BT110, SP110, CLS, FLD, ARR, CD, true_and, and_true, and_self, forall_const, true_implies, false_implies, implies_true, not_true_eq_false, not_false_eq_true, if_true, if_false, rgI, rgL, scr, swl, lkl, cats, cat, is2, List.drop_succ_cons, List.drop_zero, List.drop_nil, List.cons_append, List.nil_append, Option.toList_some, Option.toList_none, List.length_cons, List.length_nil, ne_eq, Classical.not_not, reduceCtorEq, Nat.reduceAdd, Nat.reduceSub, Nat.reduceMul, Nat.reduceLT, Nat.reduceLeDiff, Nat.reduceEqDiff, Nat.reduceBEq, Int.reduceToNat, Int.reduceLE, Int.reduceLT, Int.reduceEq, Int.reduceNeg, Int.reduceAdd, Int.reduceSub, Int.reduceMul, Int.toNat_natCast, Nat.zero_add, Int.add_zero, Nat.add_zero, ite_true, ite_false, Option.some.injEq, Nat.le_refl, or_true, true_or, or_false, false_or, if_pos, reduceIte, Nat.reduceGT, ms_ne, ms_eq, ms_nj]
      refine ⟨by omega, fun _ => rt110 (Nat.le_refl _) (Nat.le_refl _) ⟨rfl, rfl, ?_, fun j hj => ?_, fun j hj => ?_, fun j hj => ?_, ?_, ?_, fun k j h1 h2 => ?_⟩, fun h => by omega⟩
      · simp only [ms_ne (show (57 : Nat) ≠ 55 by decide), ms_ne (show (58 : Nat) ≠ 55 by decide), ms_ne (show (59 : Nat) ≠ 55 by decide), ms_ne (show (60 : Nat) ≠ 55 by decide)]; exact h0
      · rw [ms_ne (by decide), ms_ne (by decide)]; exact hA j (by omega)
      · rw [ms_ne (by decide), ms_ne (by decide)]; exact hB j (by omega) hj
      · rw [ms_ne (by decide), ms_ne (by decide)]; exact hC j (by omega) hj
      · rw [ms_nj (by decide), ms_eq]
      · rw [ms_eq]
      · rw [← hF k j h1]
        unfold mset
        rw [if_neg (by omega), if_neg (by omega)]
    | succ m ih =>
      intro i N hi h0 hA hB hC hF
      have at125 : ∀ N1 : MM, (N1 57 0 = M 57 2 ∧ N1 57 1 = M 57 3 ∧ N1 58 0 = M 58 1 ∧ N1 59 0 = M 59 1 ∧ N1 60 0 = M 60 1) → (∀ j, j < i + 1 → N1 61 j = M 61 (40 + j)) → (∀ j, j < i + 1 → j < 18 → N1 63 j = M 63 (18 + j)) → (∀ j, j < i + 1 → j < 10 → N1 64 j = M 64 (10 + j)) → (∀ k j, ¬ cor k j → N1 k j = M k j) → S 125 [some (vR 55), some (vI i)] [] (sh0, 0, 0) N1 := by
        intro N1 a b c d e
        refine wpx_ok hS bk110 (sp := sp110) 60 125 _ _ _ _ ?_
        simp only [LCM, B2, Bool.not_eq_false, Bool.not_eq_true, decide_eq_true_eq, decide_eq_false_iff_not, Int.not_lt, Int.not_le, CST, TN, WX, WA, WB, GS, LOC, BT110, SP110, CLS, FLD, ARR, CD, true_and, and_true, and_self, forall_const, true_implies, false_implies, implies_true, not_true_eq_false, not_false_eq_true, if_true, if_false, rgI, rgL, scr, swl, lkl, cats, cat, is2, List.drop_succ_cons, List.drop_zero, List.drop_nil, List.cons_append, List.nil_append, Option.toList_some, Option.toList_none, List.length_cons, List.length_nil, ne_eq, Classical.not_not, reduceCtorEq, Nat.reduceAdd, Nat.reduceSub, Nat.reduceMul, Nat.reduceLT, Nat.reduceLeDiff, Nat.reduceEqDiff, Nat.reduceBEq, Int.reduceToNat, Int.reduceLE, Int.reduceLT, Int.reduceEq, Int.reduceNeg, Int.reduceAdd, Int.reduceSub, Int.reduceMul, Int.toNat_natCast, Nat.zero_add, Int.add_zero, Nat.add_zero, ite_true, ite_false, Option.some.injEq, Nat.le_refl, or_true, true_or, or_false, false_or, if_pos, reduceIte, Nat.reduceGT]
        exact ih (i + 1) N1 (by omega) a b c d e
      have at104 : ∀ N1 : MM, (N1 57 0 = M 57 2 ∧ N1 57 1 = M 57 3 ∧ N1 58 0 = M 58 1 ∧ N1 59 0 = M 59 1 ∧ N1 60 0 = M 60 1) → (∀ j, j < i + 1 → N1 61 j = M 61 (40 + j)) → (∀ j, j < i + 1 → j < 18 → N1 63 j = M 63 (18 + j)) → (∀ j, j < i → j < 10 → N1 64 j = M 64 (10 + j)) → (∀ k j, ¬ cor k j → N1 k j = M k j) → S 104 [some (vR 55), some (vI i)] [] (sh0, 0, 0) N1 := by
        intro N1 a b c d e
        refine wpx_ok hS bk110 (sp := (fun t => sp110 t || t == 125)) 60 104 _ _ _ _ ?_
        simp only [LCM, B2, Bool.not_eq_false, Bool.not_eq_true, decide_eq_true_eq, decide_eq_false_iff_not, Int.not_lt, Int.not_le, CST, TN, WX, WA, WB, GS, LOC, BT110, SP110, CLS, FLD, ARR, CD, true_and, and_true, and_self, forall_const, true_implies, false_implies, implies_true, not_true_eq_false, not_false_eq_true, if_true, if_false, rgI, rgL, scr, swl, lkl, cats, cat, is2, List.drop_succ_cons, List.drop_zero, List.drop_nil, List.cons_append, List.nil_append, Option.toList_some, Option.toList_none, List.length_cons, List.length_nil, ne_eq, Classical.not_not, reduceCtorEq, Nat.reduceAdd, Nat.reduceSub, Nat.reduceMul, Nat.reduceLT, Nat.reduceLeDiff, Nat.reduceEqDiff, Nat.reduceBEq, Int.reduceToNat, Int.reduceLE, Int.reduceLT, Int.reduceEq, Int.reduceNeg, Int.reduceAdd, Int.reduceSub, Int.reduceMul, Int.toNat_natCast, Nat.zero_add, Int.add_zero, Nat.add_zero, ite_true, ite_false, Option.some.injEq, Nat.le_refl, or_true, true_or, or_false, false_or, if_pos, reduceIte, Nat.reduceGT, Bool.or_false, Bool.false_or, Bool.or_true, Bool.true_or, beq_self_eq_true, Nat.reduceBEq]
        rw [e 64 (10 + i) (by unfold cor; omega)]
        refine ⟨by omega, fun h => at125 N1 a b c (fun j h1 h2 => d j (by omega) h2) e, fun h => ⟨by omega, by omega, h64 i (by omega), ?_⟩⟩
        refine at125 _ ?_ (fun j hj => ?_) (fun j hj h2 => ?_) (fun j hj h2 => ?_) (fun k j hk => ?_)
        · simp only [ms_ne (show (57 : Nat) ≠ 64 by decide), ms_ne (show (58 : Nat) ≠ 64 by decide), ms_ne (show (59 : Nat) ≠ 64 by decide), ms_ne (show (60 : Nat) ≠ 64 by decide)]; exact a
        · rw [ms_ne (by decide)]; exact b j hj
        · rw [ms_ne (by decide)]; exact c j hj h2
        · by_cases hji : j = i
          · subst hji; rw [ms_eq]
          · rw [ms_nj hji]; exact d j (by omega) h2
        · rw [← e k j hk]
          unfold cor at hk
          unfold mset
          rw [if_neg (by omega)]
      have b1 : ∀ j, j < i + 1 → mset N 61 i (M 61 (40 + i)) 61 j = M 61 (40 + j) := fun j hj => by
        by_cases hji : j = i
        · subst hji; rw [ms_eq]
        · rw [ms_nj hji]; exact hA j (by omega)
      refine wpx_ok hS bk110 (sp := (fun t => sp110 t || t == 104)) 60 62 _ _ _ _ ?_
      simp only [LCM, B2, Bool.not_eq_false, Bool.not_eq_true, decide_eq_true_eq, decide_eq_false_iff_not, Int.not_lt, Int.not_le, CST, TN, WX, WA, WB, GS, LOC, BT110, SP110, CLS, FLD, ARR, CD, true_and, and_true, and_self, forall_const, true_implies, false_implies, implies_true, not_true_eq_false, not_false_eq_true, if_true, if_false, rgI, rgL, scr, swl, lkl, cats, cat, is2, List.drop_succ_cons, List.drop_zero, List.drop_nil, List.cons_append, List.nil_append, Option.toList_some, Option.toList_none, List.length_cons, List.length_nil, ne_eq, Classical.not_not, reduceCtorEq, Nat.reduceAdd, Nat.reduceSub, Nat.reduceMul, Nat.reduceLT, Nat.reduceLeDiff, Nat.reduceEqDiff, Nat.reduceBEq, Int.reduceToNat, Int.reduceLE, Int.reduceLT, Int.reduceEq, Int.reduceNeg, Int.reduceAdd, Int.reduceSub, Int.reduceMul, Int.toNat_natCast, Nat.zero_add, Int.add_zero, Nat.add_zero, ite_true, ite_false, Option.some.injEq, Nat.le_refl, or_true, true_or, or_false, false_or, if_pos, reduceIte, Nat.reduceGT, Bool.or_false, Bool.false_or, Bool.or_true, Bool.true_or, beq_self_eq_true, Nat.reduceBEq]
      rw [hF 61 (40 + i) (by unfold cor; omega)]
      simp only [ms_ne (show (63 : Nat) ≠ 61 by decide)]
      rw [hF 63 (18 + i) (by unfold cor; omega)]
      refine ⟨by omega, fun h => by omega, fun h => ⟨by omega, by omega, by omega, fun h1 => ?_, fun h1 => ⟨by omega, by omega, ?_⟩⟩⟩
      · refine at104 _ ?_ b1 (fun j h2 h3 => ?_) (fun j h2 h3 => ?_) (fun k j hk => ?_)
        · simp only [ms_ne (show (57 : Nat) ≠ 61 by decide), ms_ne (show (58 : Nat) ≠ 61 by decide), ms_ne (show (59 : Nat) ≠ 61 by decide), ms_ne (show (60 : Nat) ≠ 61 by decide)]; exact h0
        · rw [ms_ne (by decide)]; exact hB j (by omega) h3
        · rw [ms_ne (by decide)]; exact hC j h2 h3
        · rw [← hF k j hk]
          unfold cor at hk
          unfold mset
          rw [if_neg (by omega)]
      · refine at104 _ ?_ (fun j hj => ?_) (fun j h2 h3 => ?_) (fun j h2 h3 => ?_) (fun k j hk => ?_)
        · simp only [ms_ne (show (57 : Nat) ≠ 61 by decide), ms_ne (show (58 : Nat) ≠ 61 by decide), ms_ne (show (59 : Nat) ≠ 61 by decide), ms_ne (show (60 : Nat) ≠ 61 by decide), ms_ne (show (57 : Nat) ≠ 63 by decide), ms_ne (show (58 : Nat) ≠ 63 by decide), ms_ne (show (59 : Nat) ≠ 63 by decide), ms_ne (show (60 : Nat) ≠ 63 by decide)]; exact h0
        · rw [ms_ne (show (61 : Nat) ≠ 63 by decide)]; exact b1 j hj
        · by_cases hji : j = i
          · subst hji; rw [ms_eq]
          · rw [ms_nj hji, ms_ne (by decide)]; exact hB j (by omega) h3
        · rw [ms_ne (by decide), ms_ne (by decide)]; exact hC j h2 h3
        · rw [← hF k j hk]
          unfold cor at hk
          unfold mset
          rw [if_neg (by omega), if_neg (by omega)]
  refine wpx_ok hS bk110 (sp := sp110) 60 0 _ _ _ _ ?_
  simp only [LCM, B2, Bool.not_eq_false, Bool.not_eq_true, decide_eq_true_eq, decide_eq_false_iff_not, Int.not_lt, Int.not_le, CST, TN, WX, WA, WB, GS, LOC, BT110, SP110, CLS, FLD, ARR, CD, true_and, and_true, and_self, forall_const, true_implies, false_implies, implies_true, not_true_eq_false, not_false_eq_true, if_true, if_false, rgI, rgL, scr, swl, lkl, cats, cat, is2, List.drop_succ_cons, List.drop_zero, List.drop_nil, List.cons_append, List.nil_append, Option.toList_some, Option.toList_none, List.length_cons, List.length_nil, ne_eq, Classical.not_not, reduceCtorEq, Nat.reduceAdd, Nat.reduceSub, Nat.reduceMul, Nat.reduceLT, Nat.reduceLeDiff, Nat.reduceEqDiff, Nat.reduceBEq, Int.reduceToNat, Int.reduceLE, Int.reduceLT, Int.reduceEq, Int.reduceNeg, Int.reduceAdd, Int.reduceSub, Int.reduceMul, Int.toNat_natCast, Nat.zero_add, Int.add_zero, Nat.add_zero, ite_true, ite_false, Option.some.injEq, Nat.le_refl, or_true, true_or, or_false, false_or, if_pos, reduceIte, Nat.reduceGT, ms_ne, ms_eq, ms_nj]
  refine head 40 0 _ (by omega) ⟨rfl, rfl, rfl, rfl, rfl⟩ (fun j hj => by omega) (fun j hj => by omega) (fun j hj => by omega) (fun k j hk => ?_)
  unfold cor at hk
  unfold mset
  rw [if_neg (by omega), if_neg (by omega), if_neg (by omega), if_neg (by omega), if_neg (by omega)]

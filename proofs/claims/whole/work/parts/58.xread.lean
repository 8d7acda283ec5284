/-! the component reads the text, and lays -/
def lxB (tx : Nat → Int) (n p : Nat) : Bool := decide (prt (tx p) ≠ 0) && lexB tx n (p + 1) (prt (tx p))
theorem x_readNumbers (tx : Nat → Int) (n p : Nat) (M : MM) (hn4 : n ≤ 400) (hb : ∀ k, -128 ≤ tx k ∧ tx k ≤ 127) (hx : ∀ k, k < n → M 1 k = tx k) (hp : p < n) :
    oQ 2 9 [vR 2, vR 1, vI n, vI p] M (fun r M' => r = some (Sum.inl (if lxB tx n p then (pls tx n (p + 1) (prt (tx p)) : Int) else -4)) ∧ (lxB tx n p = true → ∀ k, k < prt (tx p) → M' 3 k = nvl tx n (pls tx n (p + 1) k)) ∧ ∀ k j, k ≠ 3 → M' k j = M k j) := by
  have hbp := hb p
  have hw4 := prt_rg (tx p)
  unfold lxB
  generalize hwd : prt (tx p) = w at hw4
  refine go9 (fun S hS => ?_)
  have no : ∀ N : MM, (∀ k j, k ≠ 3 → N k j = M k j) → (decide (w ≠ 0) && lexB tx n (p + 1) w) = false → Rtn 9 0 0 (fun r sh M' => sh = sh0 ∧ r = some (Sum.inl (if (decide (w ≠ 0) && lexB tx n (p + 1) w) = true then (pls tx n (p + 1) w : Int) else -4)) ∧ ((decide (w ≠ 0) && lexB tx n (p + 1) w) = true → ∀ k, k < w → M' 3 k = nvl tx n (pls tx n (p + 1) k)) ∧ ∀ k j, k ≠ 3 → M' k j = M k j) (some (Sum.inl (-4))) (sh0, 0, 0) N := fun N hF h =>
    rt9 ⟨rfl, by rw [h]; rfl, fun z => (by rw [h] at z; cases z), hF⟩
  have lexno : ∀ k, k < w → okN tx n (p + 1) w k = false → (decide (w ≠ 0) && lexB tx n (p + 1) w) = false := fun k hk h => by rw [lexB_no hk h, Bool.and_false]
  have head : ∀ (m k : Nat) (N : MM) (o : Option AV), k + m = w → 0 < w → (∀ j, j < k → okN tx n (p + 1) w j = true) → (∀ j, j < k → N 3 j = nvl tx n (pls tx n (p + 1) j)) → (∀ k j, k ≠ 3 → N k j = M k j) → S 24 [some (vR 2), some (vR 1), some (vI n), some (vI p), some (vI w), some (vI (pls tx n (p + 1) k)), some (vI k), o] [] (sh0, 0, 0) N := by
    intro m
    induction m with
    | zero =>
      intro k N o hk hw0 hO hV hF
      have hkw : k = w := by omega
      refine wpx_ok hS bk9 (sp := sp9) 60 24 _ _ _ _ ?_
      simp only [LCM, B2, Bool.not_eq_false, Bool.not_eq_true, decide_eq_true_eq, decide_eq_false_iff_not, Int.not_lt, Int.not_le, CST, TN, WX, WA, WB, GS, LOC, BT9, SP9, CLS, FLD, ARR, CD, true_and, and_true, and_self, forall_const, true_implies, false_implies, implies_true, not_true_eq_false, not_false_eq_true, if_true, if_false, rgI, rgL, scr, swl, lkl, cats, cat, is2, List.drop_succ_cons, List.drop_zero, List.drop_nil, List.cons_append, List.nil_append, Option.toList_some, Option.toList_none, List.length_cons, List.length_nil, ne_eq, Classical.not_not, reduceCtorEq, Nat.reduceAdd, Nat.reduceSub, Nat.reduceMul, Nat.reduceLT, Nat.reduceLeDiff, Nat.reduceEqDiff, Nat.reduceBEq, Int.reduceToNat, Int.reduceLE, Int.reduceLT, Int.reduceEq, Int.reduceNeg, Int.reduceAdd, Int.reduceSub, Int.reduceMul, Int.toNat_natCast, Nat.zero_add, Int.add_zero, Nat.add_zero, ite_true, ite_false, Option.some.injEq, Nat.le_refl, or_true, true_or, or_false, false_or, if_pos, reduceIte, Nat.reduceGT]
      refine ⟨by omega, fun _ => ?_, fun h => by omega⟩
      have hl : (decide (w ≠ 0) && lexB tx n (p + 1) w) = true := by
        rw [decide_eq_true (show w ≠ 0 by omega), Bool.true_and]
        exact lexB_iff.mpr (fun j hj => hO j (by omega))
      exact rt9 ⟨rfl, by rw [hl, if_pos rfl, hkw], fun _ x hx2 => hV x (by omega), hF⟩
    | succ m ih =>
      intro k N o hk hw0 hO hV hF
      have hpl := pls_le (tx := tx) (n := n) (p := p + 1) (w := w) (by omega) hO
      have hnr := nln_rg tx n (pls tx n (p + 1) k)
      have hstep : pls tx n (p + 1) (k + 1) = pls tx n (p + 1) k + nln tx n (pls tx n (p + 1) k) + 1 := rfl
      have hokd : okN tx n (p + 1) w k = (fig tx n (pls tx n (p + 1) k) && decide (pls tx n (p + 1) k + nln tx n (pls tx n (p + 1) k) < n ∧ tx (pls tx n (p + 1) k + nln tx n (pls tx n (p + 1) k)) = mkk w k)) := rfl
      have hnl : nln tx n (pls tx n (p + 1) k) = if fig tx n (pls tx n (p + 1) k + 1) then 2 else 1 := rfl
      have hnv : nvl tx n (pls tx n (p + 1) k) = if fig tx n (pls tx n (p + 1) k + 1) then 10 * (tx (pls tx n (p + 1) k) - 48) + tx (pls tx n (p + 1) k + 1) - 48 else tx (pls tx n (p + 1) k) - 48 := rfl
      have nxt := fun N1 o1 => ih (k + 1) N1 o1 (by omega) hw0
      rw [hstep] at nxt
      generalize hq : pls tx n (p + 1) k = q at hpl hnr hokd hnl hnv nxt ⊢
      have at99 : ∀ N1 : MM, fig tx n q = true → N1 3 k = nvl tx n q → (∀ j, j < k → N1 3 j = nvl tx n (pls tx n (p + 1) j)) → (∀ k j, k ≠ 3 → N1 k j = M k j) → S 99 [some (vR 2), some (vR 1), some (vI n), some (vI p), some (vI w), some (vI ((q : Int) + (nln tx n q : Nat))), some (vI k), o] [] (sh0, 0, 0) N1 := by
        intro N1 hfg hNk hNl hF1
        have hbe := hb (q + nln tx n q)
        have hmr := mkk_rg w k
        have e1 : q + nln tx n q < n → N1 1 (q + nln tx n q) = tx (q + nln tx n q) := fun h => by rw [hF1 1 _ (by decide)]; exact hx _ h
        have hmk : mkk w k = if k + 1 < w then 44 else 59 := rfl
        generalize hE : q + nln tx n q = e at hokd hbe e1 nxt
        have hE2 : (q : Int) + (nln tx n q : Nat) = (e : Int) := by omega
        rw [hE2]
        have fin : ∀ mk : Int, mk = mkk w k → e < n → tx e = mk → S 24 [some (vR 2), some (vR 1), some (vI n), some (vI p), some (vI w), some (vI ((e + 1 : Nat) : Int)), some (vI ((k + 1 : Nat) : Int)), some (vI mk)] [] (sh0, 0, 0) N1 := by
          intro mk h1 h2 h3
          refine nxt N1 _ (fun j hj => ?_) (fun j hj => ?_) hF1
          · by_cases hjk : j = k
            · rw [hjk, hokd, hfg, decide_eq_true ⟨h2, by rw [h3, h1]⟩]; rfl
            · exact hO j (by omega)
          · by_cases hjk : j = k
            · rw [hjk, hq]; exact hNk
            · exact hNl j (by omega)
        have bad : ¬ (e < n ∧ tx e = mkk w k) → Rtn 9 0 0 (fun r sh M' => sh = sh0 ∧ r = some (Sum.inl (if (decide (w ≠ 0) && lexB tx n (p + 1) w) = true then (pls tx n (p + 1) w : Int) else -4)) ∧ ((decide (w ≠ 0) && lexB tx n (p + 1) w) = true → ∀ k, k < w → M' 3 k = nvl tx n (pls tx n (p + 1) k)) ∧ ∀ k j, k ≠ 3 → M' k j = M k j) (some (Sum.inl (-4))) (sh0, 0, 0) N1 := fun h =>
          no N1 hF1 (lexno k (by omega) (by rw [hokd, decide_eq_false h, Bool.and_false]))
        by_cases hen : e < n
        · have e1' := e1 hen
          by_cases hkw : k + 1 < w
          · rw [if_pos hkw] at hmk
            refine wpx_ok hS bk9 (sp := sp9) 60 99 _ _ _ _ ?_
            simp only [LCM, B2, Bool.not_eq_false, Bool.not_eq_true, decide_eq_true_eq, decide_eq_false_iff_not, Int.not_lt, Int.not_le, CST, TN, WX, WA, WB, GS, LOC, BT9, SP9, CLS, FLD, ARR, CD, true_and, and_true, and_self, forall_const, true_implies, false_implies, implies_true, not_true_eq_false, not_false_eq_true, if_true, if_false, rgI, rgL, scr, swl, lkl, cats, cat, is2, List.drop_succ_cons, List.drop_zero, List.drop_nil, List.cons_append, List.nil_append, Option.toList_some, Option.toList_none, List.length_cons, List.length_nil, ne_eq, Classical.not_not, reduceCtorEq, Nat.reduceAdd, Nat.reduceSub, Nat.reduceMul, Nat.reduceLT, Nat.reduceLeDiff, Nat.reduceEqDiff, Nat.reduceBEq, Int.reduceToNat, Int.reduceLE, Int.reduceLT, Int.reduceEq, Int.reduceNeg, Int.reduceAdd, Int.reduceSub, Int.reduceMul, Int.toNat_natCast, Nat.zero_add, Int.add_zero, Nat.add_zero, ite_true, ite_false, Option.some.injEq, Nat.le_refl, or_true, true_or, or_false, false_or, if_pos, reduceIte, Nat.reduceGT]
            rw [e1']
            refine ⟨by omega, fun h => by omega, fun _ => ⟨by omega, fun h => by omega, fun _ => ⟨by omega, by omega, fun h1 => fin 44 hmk.symm hen h1, fun h1 => bad (fun z => h1 (by rw [z.2, hmk]))⟩⟩⟩
          · rw [if_neg hkw] at hmk
            refine wpx_ok hS bk9 (sp := sp9) 60 99 _ _ _ _ ?_
            simp only [LCM, B2, Bool.not_eq_false, Bool.not_eq_true, decide_eq_true_eq, decide_eq_false_iff_not, Int.not_lt, Int.not_le, CST, TN, WX, WA, WB, GS, LOC, BT9, SP9, CLS, FLD, ARR, CD, true_and, and_true, and_self, forall_const, true_implies, false_implies, implies_true, not_true_eq_false, not_false_eq_true, if_true, if_false, rgI, rgL, scr, swl, lkl, cats, cat, is2, List.drop_succ_cons, List.drop_zero, List.drop_nil, List.cons_append, List.nil_append, Option.toList_some, Option.toList_none, List.length_cons, List.length_nil, ne_eq, Classical.not_not, reduceCtorEq, Nat.reduceAdd, Nat.reduceSub, Nat.reduceMul, Nat.reduceLT, Nat.reduceLeDiff, Nat.reduceEqDiff, Nat.reduceBEq, Int.reduceToNat, Int.reduceLE, Int.reduceLT, Int.reduceEq, Int.reduceNeg, Int.reduceAdd, Int.reduceSub, Int.reduceMul, Int.toNat_natCast, Nat.zero_add, Int.add_zero, Nat.add_zero, ite_true, ite_false, Option.some.injEq, Nat.le_refl, or_true, true_or, or_false, false_or, if_pos, reduceIte, Nat.reduceGT]
            rw [e1']
            refine ⟨by omega, fun _ => ⟨by omega, fun h => by omega, fun _ => ⟨by omega, by omega, fun h1 => fin 59 hmk.symm hen h1, fun h1 => bad (fun z => h1 (by rw [z.2, hmk]))⟩⟩, fun h => by omega⟩
        · refine wpx_ok hS bk9 (sp := sp9) 60 99 _ _ _ _ ?_
          simp only [LCM, B2, Bool.not_eq_false, Bool.not_eq_true, decide_eq_true_eq, decide_eq_false_iff_not, Int.not_lt, Int.not_le, CST, TN, WX, WA, WB, GS, LOC, BT9, SP9, CLS, FLD, ARR, CD, true_and, and_true, and_self, forall_const, true_implies, false_implies, implies_true, not_true_eq_false, not_false_eq_true, if_true, if_false, rgI, rgL, scr, swl, lkl, cats, cat, is2, List.drop_succ_cons, List.drop_zero, List.drop_nil, List.cons_append, List.nil_append, Option.toList_some, Option.toList_none, List.length_cons, List.length_nil, ne_eq, Classical.not_not, reduceCtorEq, Nat.reduceAdd, Nat.reduceSub, Nat.reduceMul, Nat.reduceLT, Nat.reduceLeDiff, Nat.reduceEqDiff, Nat.reduceBEq, Int.reduceToNat, Int.reduceLE, Int.reduceLT, Int.reduceEq, Int.reduceNeg, Int.reduceAdd, Int.reduceSub, Int.reduceMul, Int.toNat_natCast, Nat.zero_add, Int.add_zero, Nat.add_zero, ite_true, ite_false, Option.some.injEq, Nat.le_refl, or_true, true_or, or_false, false_or, if_pos, reduceIte, Nat.reduceGT]
          refine ⟨by omega, fun _ => ⟨by omega, fun _ => bad (fun z => hen z.1), fun h => by omega⟩, fun _ => ⟨by omega, fun _ => bad (fun z => hen z.1), fun h => by omega⟩⟩
      have e1 : ∀ (N1 : MM), (∀ k j, k ≠ 3 → N1 k j = M k j) → ∀ x, x < n → N1 1 x = tx x := fun N1 hF1 x hx2 => by rw [hF1 1 x (by decide)]; exact hx x hx2
      refine wpx_ok hS bk9 (sp := sp9) 60 24 _ _ _ _ ?_
      simp only [LCM, B2, Bool.not_eq_false, Bool.not_eq_true, decide_eq_true_eq, decide_eq_false_iff_not, Int.not_lt, Int.not_le, CST, TN, WX, WA, WB, GS, LOC, BT9, SP9, CLS, FLD, ARR, CD, true_and, and_true, and_self, forall_const, true_implies, false_implies, implies_true, not_true_eq_false, not_false_eq_true, if_true, if_false, rgI, rgL, scr, swl, lkl, cats, cat, is2, List.drop_succ_cons, List.drop_zero, List.drop_nil, List.cons_append, List.nil_append, Option.toList_some, Option.toList_none, List.length_cons, List.length_nil, ne_eq, Classical.not_not, reduceCtorEq, Nat.reduceAdd, Nat.reduceSub, Nat.reduceMul, Nat.reduceLT, Nat.reduceLeDiff, Nat.reduceEqDiff, Nat.reduceBEq, Int.reduceToNat, Int.reduceLE, Int.reduceLT, Int.reduceEq, Int.reduceNeg, Int.reduceAdd, Int.reduceSub, Int.reduceMul, Int.toNat_natCast, Nat.zero_add, Int.add_zero, Nat.add_zero, ite_true, ite_false, Option.some.injEq, Nat.le_refl, or_true, true_or, or_false, false_or, if_pos, reduceIte, Nat.reduceGT]
      refine ⟨by omega, fun h => by omega, fun _ => ?_⟩
      refine kI (x_isFigure tx n q N hn4 hb (e1 N hF) (by omega)) (Nat.le_of_ble_eq_true rfl) rfl rfl (Nat.le_of_ble_eq_true rfl) (Nat.le_of_ble_eq_true rfl) rfl ?_
      cases hfg : fig tx n q with
      | false =>
        refine wpx_ok hS bk9 (sp := sp9) 60 38 _ _ _ _ ?_
        simp only [LCM, B2, Bool.not_eq_false, Bool.not_eq_true, decide_eq_true_eq, decide_eq_false_iff_not, Int.not_lt, Int.not_le, CST, TN, WX, WA, WB, GS, LOC, BT9, SP9, CLS, FLD, ARR, CD, true_and, and_true, and_self, forall_const, true_implies, false_implies, implies_true, not_true_eq_false, not_false_eq_true, if_true, if_false, rgI, rgL, scr, swl, lkl, cats, cat, is2, List.drop_succ_cons, List.drop_zero, List.drop_nil, List.cons_append, List.nil_append, Option.toList_some, Option.toList_none, List.length_cons, List.length_nil, ne_eq, Classical.not_not, reduceCtorEq, Nat.reduceAdd, Nat.reduceSub, Nat.reduceMul, Nat.reduceLT, Nat.reduceLeDiff, Nat.reduceEqDiff, Nat.reduceBEq, Int.reduceToNat, Int.reduceLE, Int.reduceLT, Int.reduceEq, Int.reduceNeg, Int.reduceAdd, Int.reduceSub, Int.reduceMul, Int.toNat_natCast, Nat.zero_add, Int.add_zero, Nat.add_zero, ite_true, ite_false, Option.some.injEq, Nat.le_refl, or_true, true_or, or_false, false_or, if_pos, reduceIte, Nat.reduceGT]
        exact no N hF (lexno k (by omega) (by rw [hokd, hfg, Bool.false_and]))
      | true =>
        have hfi := fig_iff.mp hfg
        have hF1 : ∀ x, ∀ k' j, k' ≠ 3 → mset N 3 k x k' j = M k' j := fun x k' j hk' => by rw [ms_ne hk']; exact hF k' j hk'
        refine wpx_ok hS bk9 (sp := sp9) 60 38 _ _ _ _ ?_
        simp only [LCM, B2, Bool.not_eq_false, Bool.not_eq_true, decide_eq_true_eq, decide_eq_false_iff_not, Int.not_lt, Int.not_le, CST, TN, WX, WA, WB, GS, LOC, BT9, SP9, CLS, FLD, ARR, CD, true_and, and_true, and_self, forall_const, true_implies, false_implies, implies_true, not_true_eq_false, not_false_eq_true, if_true, if_false, rgI, rgL, scr, swl, lkl, cats, cat, is2, List.drop_succ_cons, List.drop_zero, List.drop_nil, List.cons_append, List.nil_append, Option.toList_some, Option.toList_none, List.length_cons, List.length_nil, ne_eq, Classical.not_not, reduceCtorEq, Nat.reduceAdd, Nat.reduceSub, Nat.reduceMul, Nat.reduceLT, Nat.reduceLeDiff, Nat.reduceEqDiff, Nat.reduceBEq, Int.reduceToNat, Int.reduceLE, Int.reduceLT, Int.reduceEq, Int.reduceNeg, Int.reduceAdd, Int.reduceSub, Int.reduceMul, Int.toNat_natCast, Nat.zero_add, Int.add_zero, Nat.add_zero, ite_true, ite_false, Option.some.injEq, Nat.le_refl, or_true, true_or, or_false, false_or, if_pos, reduceIte, Nat.reduceGT, ms_ne, ms_eq, ms_nj]
        rw [e1 N hF q hfi.1]
        refine ⟨by omega, by omega, ?_⟩
        refine kI (x_isFigure tx n (q + 1) (mset N 3 k (tx q - 48)) hn4 hb (e1 _ (hF1 _)) (by omega)) (Nat.le_of_ble_eq_true rfl) rfl rfl (Nat.le_of_ble_eq_true rfl) (Nat.le_of_ble_eq_true rfl) rfl ?_
        cases hf2 : fig tx n (q + 1) with
        | false =>
          rw [hf2] at hnl hnv
          have := at99 (mset N 3 k (tx q - 48)) hfg (by rw [ms_eq, hnv]; rfl) (fun j hj => by rw [ms_nj (by omega)]; exact hV j hj) (hF1 _)
          rw [hnl] at this
          refine wpx_ok hS bk9 (sp := (fun t => sp9 t || t == 99)) 60 68 _ _ _ _ ?_
          simp only [LCM, B2, Bool.not_eq_false, Bool.not_eq_true, decide_eq_true_eq, decide_eq_false_iff_not, Int.not_lt, Int.not_le, CST, TN, WX, WA, WB, GS, LOC, BT9, SP9, CLS, FLD, ARR, CD, true_and, and_true, and_self, forall_const, true_implies, false_implies, implies_true, not_true_eq_false, not_false_eq_true, if_true, if_false, rgI, rgL, scr, swl, lkl, cats, cat, is2, List.drop_succ_cons, List.drop_zero, List.drop_nil, List.cons_append, List.nil_append, Option.toList_some, Option.toList_none, List.length_cons, List.length_nil, ne_eq, Classical.not_not, reduceCtorEq, Nat.reduceAdd, Nat.reduceSub, Nat.reduceMul, Nat.reduceLT, Nat.reduceLeDiff, Nat.reduceEqDiff, Nat.reduceBEq, Int.reduceToNat, Int.reduceLE, Int.reduceLT, Int.reduceEq, Int.reduceNeg, Int.reduceAdd, Int.reduceSub, Int.reduceMul, Int.toNat_natCast, Nat.zero_add, Int.add_zero, Nat.add_zero, ite_true, ite_false, Option.some.injEq, Nat.le_refl, or_true, true_or, or_false, false_or, if_pos, reduceIte, Nat.reduceGT, Bool.or_false, Bool.false_or, Bool.or_true, Bool.true_or, beq_self_eq_true, Nat.reduceBEq]
          exact this
        | true =>
          rw [hf2] at hnl hnv
          have hf3 := fig_iff.mp hf2
          have hF2 : ∀ x y, ∀ k' j, k' ≠ 3 → mset (mset N 3 k x) 3 k y k' j = M k' j := fun x y k' j hk' => by rw [ms_ne hk']; exact hF1 x k' j hk'
          have := at99 (mset (mset N 3 k (tx q - 48)) 3 k (10 * (tx q - 48) + tx (q + 1) - 48)) hfg (by rw [ms_eq, hnv]; rfl) (fun j hj => by rw [ms_nj (by omega), ms_nj (by omega)]; exact hV j hj) (hF2 _ _)
          rw [hnl] at this
          have e2 := e1 _ (hF1 (tx q - 48)) (q + 1) hf3.1
          have tq : ((q : Int) + 1).toNat = q + 1 := by omega
          have aq : (q : Int) + 1 + 1 = (q : Int) + ((if true = true then 2 else 1 : Nat) : Int) := by rw [if_pos rfl]; omega
          refine wpx_ok hS bk9 (sp := (fun t => sp9 t || t == 99)) 60 68 _ _ _ _ ?_
          simp only [LCM, B2, Bool.not_eq_false, Bool.not_eq_true, decide_eq_true_eq, decide_eq_false_iff_not, Int.not_lt, Int.not_le, CST, TN, WX, WA, WB, GS, LOC, BT9, SP9, CLS, FLD, ARR, CD, true_and, and_true, and_self, forall_const, true_implies, false_implies, implies_true, not_true_eq_false, not_false_eq_true, if_true, if_false, rgI, rgL, scr, swl, lkl, cats, cat, is2, List.drop_succ_cons, List.drop_zero, List.drop_nil, List.cons_append, List.nil_append, Option.toList_some, Option.toList_none, List.length_cons, List.length_nil, ne_eq, Classical.not_not, reduceCtorEq, Nat.reduceAdd, Nat.reduceSub, Nat.reduceMul, Nat.reduceLT, Nat.reduceLeDiff, Nat.reduceEqDiff, Nat.reduceBEq, Int.reduceToNat, Int.reduceLE, Int.reduceLT, Int.reduceEq, Int.reduceNeg, Int.reduceAdd, Int.reduceSub, Int.reduceMul, Int.toNat_natCast, Nat.zero_add, Int.add_zero, Nat.add_zero, ite_true, ite_false, Option.some.injEq, Nat.le_refl, or_true, true_or, or_false, false_or, if_pos, reduceIte, Nat.reduceGT, Bool.or_false, Bool.false_or, Bool.or_true, Bool.true_or, beq_self_eq_true, Nat.reduceBEq]
          simp only [tq, ms_eq]
          rw [e2, aq]
          exact ⟨by omega, by omega, by omega, this⟩
  refine wpx_ok hS bk9 (sp := sp9) 60 0 _ _ _ _ ?_
  simp only [LCM, B2, Bool.not_eq_false, Bool.not_eq_true, decide_eq_true_eq, decide_eq_false_iff_not, Int.not_lt, Int.not_le, CST, TN, WX, WA, WB, GS, LOC, BT9, SP9, CLS, FLD, ARR, CD, true_and, and_true, and_self, forall_const, true_implies, false_implies, implies_true, not_true_eq_false, not_false_eq_true, if_true, if_false, rgI, rgL, scr, swl, lkl, cats, cat, is2, List.drop_succ_cons, List.drop_zero, List.drop_nil, List.cons_append, List.nil_append, Option.toList_some, Option.toList_none, List.length_cons, List.length_nil, ne_eq, Classical.not_not, reduceCtorEq, Nat.reduceAdd, Nat.reduceSub, Nat.reduceMul, Nat.reduceLT, Nat.reduceLeDiff, Nat.reduceEqDiff, Nat.reduceBEq, Int.reduceToNat, Int.reduceLE, Int.reduceLT, Int.reduceEq, Int.reduceNeg, Int.reduceAdd, Int.reduceSub, Int.reduceMul, Int.toNat_natCast, Nat.zero_add, Int.add_zero, Nat.add_zero, ite_true, ite_false, Option.some.injEq, Nat.le_refl, or_true, true_or, or_false, false_or, if_pos, reduceIte, Nat.reduceGT]
  rw [hx p hp]
  refine ⟨by omega, ?_⟩
  refine kI (x_numbersOf (tx p) M (by unfold rgI; omega)) (Nat.le_of_ble_eq_true rfl) rfl rfl (Nat.le_of_ble_eq_true rfl) (Nat.le_of_ble_eq_true rfl) rfl ?_
  rw [hwd]
  refine wpx_ok hS bk9 (sp := sp9) 60 6 _ _ _ _ ?_
  simp only [LCM, B2, Bool.not_eq_false, Bool.not_eq_true, decide_eq_true_eq, decide_eq_false_iff_not, Int.not_lt, Int.not_le, CST, TN, WX, WA, WB, GS, LOC, BT9, SP9, CLS, FLD, ARR, CD, true_and, and_true, and_self, forall_const, true_implies, false_implies, implies_true, not_true_eq_false, not_false_eq_true, if_true, if_false, rgI, rgL, scr, swl, lkl, cats, cat, is2, List.drop_succ_cons, List.drop_zero, List.drop_nil, List.cons_append, List.nil_append, Option.toList_some, Option.toList_none, List.length_cons, List.length_nil, ne_eq, Classical.not_not, reduceCtorEq, Nat.reduceAdd, Nat.reduceSub, Nat.reduceMul, Nat.reduceLT, Nat.reduceLeDiff, Nat.reduceEqDiff, Nat.reduceBEq, Int.reduceToNat, Int.reduceLE, Int.reduceLT, Int.reduceEq, Int.reduceNeg, Int.reduceAdd, Int.reduceSub, Int.reduceMul, Int.toNat_natCast, Nat.zero_add, Int.add_zero, Nat.add_zero, ite_true, ite_false, Option.some.injEq, Nat.le_refl, or_true, true_or, or_false, false_or, if_pos, reduceIte, Nat.reduceGT]
  refine ⟨by omega, fun h => ?_, fun h => ?_⟩
  · exact head w 0 M none (by omega) (by omega) (fun j hj => by omega) (fun j hj => by omega) (fun _ _ _ => rfl)
  · exact no M (fun _ _ _ => rfl) (by rw [decide_eq_false (show ¬ w ≠ 0 by omega), Bool.false_and])

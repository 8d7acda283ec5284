/-! the model's fault and lay -/
theorem m_fault (tx : Nat → Int) (n : Nat) (M : MM) (hn4 : n ≤ 400) (hb : ∀ k, -128 ≤ tx k ∧ tx k ≤ 127) (hn : M 55 0 = n) (hx : ∀ k, M 56 k = tx k) :
    oQ 4 111 [vR 55] M (fun r M' => r = some (Sum.inl (resF (prs tx n n D0 0))) ∧ ((prs tx n n D0 0).2 = none → DM M' (prs tx n n D0 0).1) ∧ ∀ k j, ¬ itf k j → M' k j = M k j) := by
  generalize hQ : prs tx n n D0 0 = Q
  refine go111 (fun S hS => ?_)
  have tail : ∀ (D : MM), Q = (D, none) → WFd D → ∀ (m i : Nat) (N : MM), i + m = hN D → DM N D → (∀ k j, ¬ itf k j → N k j = M k j) → (∀ x, x < i → wrg D x = false) → S 39 [some (vR 55), some (vI i)] [] (sh0, 0, 0) N := by
    intro D hQD hd m
    have hH := hd.H
    induction m with
    | zero =>
      intro i N hi hm hF hlo
      refine wpx_ok hS bk111 (sp := sp111) 60 39 _ _ _ _ ?_
      simp only [LCM, B2, Bool.not_eq_false, Bool.not_eq_true, decide_eq_true_eq, decide_eq_false_iff_not, Int.not_lt, Int.not_le, CST, TN, WX, WA, WB, GS, LOC, BT111, SP111, CLS, FLD, ARR, CD, true_and, and_true, and_self, forall_const, true_implies, false_implies, implies_true, not_true_eq_false, not_false_eq_true, if_true, if_false, rgI, rgL, scr, swl, lkl, cats, cat, is2, List.drop_succ_cons, List.drop_zero, List.drop_nil, List.cons_append, List.nil_append, Option.toList_some, Option.toList_none, List.length_cons, List.length_nil, ne_eq, Classical.not_not, reduceCtorEq, Nat.reduceAdd, Nat.reduceSub, Nat.reduceMul, Nat.reduceLT, Nat.reduceLeDiff, Nat.reduceEqDiff, Nat.reduceBEq, Int.reduceToNat, Int.reduceLE, Int.reduceLT, Int.reduceEq, Int.reduceNeg, Int.reduceAdd, Int.reduceSub, Int.reduceMul, Int.toNat_natCast, Nat.zero_add, Int.add_zero, Nat.add_zero, ite_true, ite_false, Option.some.injEq, Nat.le_refl, or_true, true_or, or_false, false_or, if_pos, reduceIte, Nat.reduceGT]
      rw [hm.1.2.2.1, ← hH.1]
      refine ⟨by omega, fun _ => rt111 ⟨rfl, ?_, fun _ => by rw [hQD]; exact hm, hF⟩, fun h => by omega⟩
      rw [hQD]
      unfold resF endF
      simp only
      rw [fstF_none.mpr (fun x _ hx2 => hlo x (by omega))]
    | succ m ih =>
      intro i N hi hm hF hlo
      have hh := hd.2.1 i (by omega)
      have hmi := hm.2.1 i (by omega)
      have hww := hd.1
      have wk : ∀ w : Int, w = 0 ∨ w = 1 → N 57 (2 + w).toNat = D 57 w.toNat ∧ 2 ≤ D 57 w.toNat ∧ D 57 w.toNat ≤ 12 := by
        intro w hw
        rcases hw with rfl | rfl
        · exact ⟨hm.1.1, hww.1⟩
        · exact ⟨hm.1.2.1, hww.2.1⟩
      have hw2 := wk _ hh.1
      refine wpx_ok hS bk111 (sp := sp111) 60 39 _ _ _ _ ?_
      simp only [LCM, B2, Bool.not_eq_false, Bool.not_eq_true, decide_eq_true_eq, decide_eq_false_iff_not, Int.not_lt, Int.not_le, CST, TN, WX, WA, WB, GS, LOC, BT111, SP111, CLS, FLD, ARR, CD, true_and, and_true, and_self, forall_const, true_implies, false_implies, implies_true, not_true_eq_false, not_false_eq_true, if_true, if_false, rgI, rgL, scr, swl, lkl, cats, cat, is2, List.drop_succ_cons, List.drop_zero, List.drop_nil, List.cons_append, List.nil_append, Option.toList_some, Option.toList_none, List.length_cons, List.length_nil, ne_eq, Classical.not_not, reduceCtorEq, Nat.reduceAdd, Nat.reduceSub, Nat.reduceMul, Nat.reduceLT, Nat.reduceLeDiff, Nat.reduceEqDiff, Nat.reduceBEq, Int.reduceToNat, Int.reduceLE, Int.reduceLT, Int.reduceEq, Int.reduceNeg, Int.reduceAdd, Int.reduceSub, Int.reduceMul, Int.toNat_natCast, Nat.zero_add, Int.add_zero, Nat.add_zero, ite_true, ite_false, Option.some.injEq, Nat.le_refl, or_true, true_or, or_false, false_or, if_pos, reduceIte, Nat.reduceGT]
      rw [hm.1.2.2.1, ← hH.1, hmi.1, hmi.2.1, hmi.2.2.2.2, hw2.1]
      refine ⟨by omega, fun h => by omega, fun h => ⟨by omega, by omega, by omega, by omega, fun h1 => ?_, fun h1 => ⟨by omega, ?_⟩⟩⟩
      · refine ih (i + 1) N (by omega) hm hF (fun x hx2 => ?_)
        by_cases hxi : x = i
        · rw [hxi]; unfold wrg; exact decide_eq_false (by omega)
        · exact hlo x (by omega)
      · refine rt111 ⟨rfl, ?_, fun _ => by rw [hQD]; exact hm, hF⟩
        rw [hQD]
        unfold resF endF
        simp only
        rw [fstF_some.mpr ⟨Nat.zero_le i, by omega, by unfold wrg; exact decide_eq_true h1, fun x _ hx2 => hlo x hx2⟩]
  have head : ∀ (f : Nat) (D : MM) (p : Nat) (N : MM) (o : Option AV), n ≤ p + f → p ≤ n → WFd D → DM N D → N 55 2 = (p : Int) → (∀ k j, ¬ itf k j → N k j = M k j) → prs tx n f D p = Q → S 9 [some (vR 55), o] [] (sh0, 0, 0) N := by
    intro f
    induction f with
    | zero =>
      intro D p N o hpf hpn hd hm h2 hF hpr
      have e0 : N 55 0 = n := by rw [hF 55 0 (by unfold itf drf; omega)]; exact hn
      have := tail D hpr.symm hd (hN D) 0 N (by omega) hm hF (fun x hx2 => by omega)
      refine wpx_ok hS bk111 (sp := sp111) 60 9 _ _ _ _ ?_
      simp only [LCM, B2, Bool.not_eq_false, Bool.not_eq_true, decide_eq_true_eq, decide_eq_false_iff_not, Int.not_lt, Int.not_le, CST, TN, WX, WA, WB, GS, LOC, BT111, SP111, CLS, FLD, ARR, CD, true_and, and_true, and_self, forall_const, true_implies, false_implies, implies_true, not_true_eq_false, not_false_eq_true, if_true, if_false, rgI, rgL, scr, swl, lkl, cats, cat, is2, List.drop_succ_cons, List.drop_zero, List.drop_nil, List.cons_append, List.nil_append, Option.toList_some, Option.toList_none, List.length_cons, List.length_nil, ne_eq, Classical.not_not, reduceCtorEq, Nat.reduceAdd, Nat.reduceSub, Nat.reduceMul, Nat.reduceLT, Nat.reduceLeDiff, Nat.reduceEqDiff, Nat.reduceBEq, Int.reduceToNat, Int.reduceLE, Int.reduceLT, Int.reduceEq, Int.reduceNeg, Int.reduceAdd, Int.reduceSub, Int.reduceMul, Int.toNat_natCast, Nat.zero_add, Int.add_zero, Nat.add_zero, ite_true, ite_false, Option.some.injEq, Nat.le_refl, or_true, true_or, or_false, false_or, if_pos, reduceIte, Nat.reduceGT]
      rw [h2, e0]
      exact ⟨by omega, fun _ => this, fun h => by omega⟩
    | succ f ih =>
      intro D p N o hpf hpn hd hm h2 hF hpr
      have e0 : N 55 0 = n := by rw [hF 55 0 (by unfold itf drf; omega)]; exact hn
      by_cases hp : p < n
      · rw [prs, if_pos hp] at hpr
        refine wpx_ok hS bk111 (sp := sp111) 60 9 _ _ _ _ ?_
        simp only [LCM, B2, Bool.not_eq_false, Bool.not_eq_true, decide_eq_true_eq, decide_eq_false_iff_not, Int.not_lt, Int.not_le, CST, TN, WX, WA, WB, GS, LOC, BT111, SP111, CLS, FLD, ARR, CD, true_and, and_true, and_self, forall_const, true_implies, false_implies, implies_true, not_true_eq_false, not_false_eq_true, if_true, if_false, rgI, rgL, scr, swl, lkl, cats, cat, is2, List.drop_succ_cons, List.drop_zero, List.drop_nil, List.cons_append, List.nil_append, Option.toList_some, Option.toList_none, List.length_cons, List.length_nil, ne_eq, Classical.not_not, reduceCtorEq, Nat.reduceAdd, Nat.reduceSub, Nat.reduceMul, Nat.reduceLT, Nat.reduceLeDiff, Nat.reduceEqDiff, Nat.reduceBEq, Int.reduceToNat, Int.reduceLE, Int.reduceLT, Int.reduceEq, Int.reduceNeg, Int.reduceAdd, Int.reduceSub, Int.reduceMul, Int.toNat_natCast, Nat.zero_add, Int.add_zero, Nat.add_zero, ite_true, ite_false, Option.some.injEq, Nat.le_refl, or_true, true_or, or_false, false_or, if_pos, reduceIte, Nat.reduceGT]
        rw [h2, e0]
        refine ⟨by omega, fun h => by omega, fun _ => ?_⟩
        refine ⟨rcv_ok rfl own107 rfl, kQ (m_isItem tx n p N D hn4 hb e0 (fun k => by rw [hF 56 k (by unfold itf drf; omega)]; exact hx k) h2 hp hd hm) (Nat.le_of_ble_eq_true rfl) rfl rfl (Nat.le_of_ble_eq_true rfl) (Nat.le_of_ble_eq_true rfl) rfl ?_⟩
        rintro r N1 ⟨rfl, hI, hF1⟩
        have hF2 : ∀ k j, ¬ itf k j → N1 k j = M k j := fun k j hk => (hF1 k j hk).trans (hF k j hk)
        show S 29 _ [Sum.inl _] _ N1
        cases hit : itm tx n D p with
        | none =>
          rw [hit] at hpr
          simp only [Option.isSome_none]
          refine wpx_ok hS bk111 (sp := sp111) 60 29 _ _ _ _ ?_
          simp only [LCM, B2, Bool.not_eq_false, Bool.not_eq_true, decide_eq_true_eq, decide_eq_false_iff_not, Int.not_lt, Int.not_le, CST, TN, WX, WA, WB, GS, LOC, BT111, SP111, CLS, FLD, ARR, CD, true_and, and_true, and_self, forall_const, true_implies, false_implies, implies_true, not_true_eq_false, not_false_eq_true, if_true, if_false, rgI, rgL, scr, swl, lkl, cats, cat, is2, List.drop_succ_cons, List.drop_zero, List.drop_nil, List.cons_append, List.nil_append, Option.toList_some, Option.toList_none, List.length_cons, List.length_nil, ne_eq, Classical.not_not, reduceCtorEq, Nat.reduceAdd, Nat.reduceSub, Nat.reduceMul, Nat.reduceLT, Nat.reduceLeDiff, Nat.reduceEqDiff, Nat.reduceBEq, Int.reduceToNat, Int.reduceLE, Int.reduceLT, Int.reduceEq, Int.reduceNeg, Int.reduceAdd, Int.reduceSub, Int.reduceMul, Int.toNat_natCast, Nat.zero_add, Int.add_zero, Nat.add_zero, ite_true, ite_false, Option.some.injEq, Nat.le_refl, or_true, true_or, or_false, false_or, if_pos, reduceIte, Nat.reduceGT]
          refine rt111 ⟨rfl, ?_, fun z => ?_, hF2⟩
          · rw [← hpr]; rfl
          · rw [← hpr] at z; cases z
        | some q =>
          obtain ⟨D', q⟩ := q
          rw [hit] at hpr hI
          have ho := itm_ok hd hn4 hp hit
          have hI2 := hI D' q rfl
          simp only [Option.isSome_some]
          have := ih D' q N1 (some (vI p)) (by omega) ho.2.2 ho.1 hI2.1 hI2.2 hF2 hpr
          refine wpx_ok hS bk111 (sp := sp111) 60 29 _ _ _ _ ?_
          simp only [LCM, B2, Bool.not_eq_false, Bool.not_eq_true, decide_eq_true_eq, decide_eq_false_iff_not, Int.not_lt, Int.not_le, CST, TN, WX, WA, WB, GS, LOC, BT111, SP111, CLS, FLD, ARR, CD, true_and, and_true, and_self, forall_const, true_implies, false_implies, implies_true, not_true_eq_false, not_false_eq_true, if_true, if_false, rgI, rgL, scr, swl, lkl, cats, cat, is2, List.drop_succ_cons, List.drop_zero, List.drop_nil, List.cons_append, List.nil_append, Option.toList_some, Option.toList_none, List.length_cons, List.length_nil, ne_eq, Classical.not_not, reduceCtorEq, Nat.reduceAdd, Nat.reduceSub, Nat.reduceMul, Nat.reduceLT, Nat.reduceLeDiff, Nat.reduceEqDiff, Nat.reduceBEq, Int.reduceToNat, Int.reduceLE, Int.reduceLT, Int.reduceEq, Int.reduceNeg, Int.reduceAdd, Int.reduceSub, Int.reduceMul, Int.toNat_natCast, Nat.zero_add, Int.add_zero, Nat.add_zero, ite_true, ite_false, Option.some.injEq, Nat.le_refl, or_true, true_or, or_false, false_or, if_pos, reduceIte, Nat.reduceGT]
          exact this
      · rw [prs, if_neg hp] at hpr
        have := tail D hpr.symm hd (hN D) 0 N (by omega) hm hF (fun x hx2 => by omega)
        refine wpx_ok hS bk111 (sp := sp111) 60 9 _ _ _ _ ?_
        simp only [LCM, B2, Bool.not_eq_false, Bool.not_eq_true, decide_eq_true_eq, decide_eq_false_iff_not, Int.not_lt, Int.not_le, CST, TN, WX, WA, WB, GS, LOC, BT111, SP111, CLS, FLD, ARR, CD, true_and, and_true, and_self, forall_const, true_implies, false_implies, implies_true, not_true_eq_false, not_false_eq_true, if_true, if_false, rgI, rgL, scr, swl, lkl, cats, cat, is2, List.drop_succ_cons, List.drop_zero, List.drop_nil, List.cons_append, List.nil_append, Option.toList_some, Option.toList_none, List.length_cons, List.length_nil, ne_eq, Classical.not_not, reduceCtorEq, Nat.reduceAdd, Nat.reduceSub, Nat.reduceMul, Nat.reduceLT, Nat.reduceLeDiff, Nat.reduceEqDiff, Nat.reduceBEq, Int.reduceToNat, Int.reduceLE, Int.reduceLT, Int.reduceEq, Int.reduceNeg, Int.reduceAdd, Int.reduceSub, Int.reduceMul, Int.toNat_natCast, Nat.zero_add, Int.add_zero, Nat.add_zero, ite_true, ite_false, Option.some.injEq, Nat.le_refl, or_true, true_or, or_false, false_or, if_pos, reduceIte, Nat.reduceGT]
        rw [h2, e0]
        exact ⟨by omega, fun _ => this, fun h => by omega⟩
  refine wpx_ok hS bk111 (sp := sp111) 60 0 _ _ _ _ ?_
  simp only [LCM, B2, Bool.not_eq_false, Bool.not_eq_true, decide_eq_true_eq, decide_eq_false_iff_not, Int.not_lt, Int.not_le, CST, TN, WX, WA, WB, GS, LOC, BT111, SP111, CLS, FLD, ARR, CD, true_and, and_true, and_self, forall_const, true_implies, false_implies, implies_true, not_true_eq_false, not_false_eq_true, if_true, if_false, rgI, rgL, scr, swl, lkl, cats, cat, is2, List.drop_succ_cons, List.drop_zero, List.drop_nil, List.cons_append, List.nil_append, Option.toList_some, Option.toList_none, List.length_cons, List.length_nil, ne_eq, Classical.not_not, reduceCtorEq, Nat.reduceAdd, Nat.reduceSub, Nat.reduceMul, Nat.reduceLT, Nat.reduceLeDiff, Nat.reduceEqDiff, Nat.reduceBEq, Int.reduceToNat, Int.reduceLE, Int.reduceLT, Int.reduceEq, Int.reduceNeg, Int.reduceAdd, Int.reduceSub, Int.reduceMul, Int.toNat_natCast, Nat.zero_add, Int.add_zero, Nat.add_zero, ite_true, ite_false, Option.some.injEq, Nat.le_refl, or_true, true_or, or_false, false_or, if_pos, reduceIte, Nat.reduceGT]
  refine ⟨rcv_ok rfl own109 rfl, kQ (m_begins (mset M 55 2 0)) (Nat.le_of_ble_eq_true rfl) rfl rfl (Nat.le_of_ble_eq_true rfl) (Nat.le_of_ble_eq_true rfl) rfl ?_⟩
  rintro r N ⟨rfl, hm, hF⟩
  refine head n D0 0 N none (by omega) (by omega) WFd_0 hm ?_ (fun k j hk => ?_) hQ
  · rw [hF 55 2 (by unfold drf; omega), ms_eq]; rfl
  · rw [hF k j (fun z => hk (Or.inl z))]
    unfold itf at hk
    unfold mset
    rw [if_neg (by omega)]
def layB (Q : MM × Option Nat) : Bool := decide (resF Q = -4 ∧ Q.1 58 0 ≠ 0)
def f_lay (Q : MM × Option Nat) : Int := if layB Q then Q.1 58 0 else -2
theorem resF_no {Q : MM × Option Nat} (h : resF Q = -4) : Q.2 = none ∧ endF Q.1 = -4 := by
  unfold resF at h
  cases hq : Q.2 with
  | none => rw [hq] at h; exact ⟨rfl, h⟩
  | some p => rw [hq] at h; simp only at h; omega
theorem prs_le {tx : Nat → Int} {n : Nat} (hn4 : n ≤ 400) : ∀ (f : Nat) (D : MM) (p q : Nat), WFd D → (prs tx n f D p).2 = some q → q ≤ n
  | 0, D, p, q, hd, h => by cases h
  | f + 1, D, p, q, hd, h => by
    rw [prs] at h
    split at h
    · rename_i hp
      cases hi : itm tx n D p with
      | none => rw [hi] at h; cases h; omega
      | some z =>
        obtain ⟨D', z⟩ := z
        rw [hi] at h
        exact prs_le hn4 f D' z q (itm_ok hd hn4 hp hi).1 h
    · cases h
theorem resF_rg {tx : Nat → Int} {n : Nat} (hn4 : n ≤ 400) : -4 ≤ resF (prs tx n n D0 0) ∧ resF (prs tx n n D0 0) ≤ 400 := by
  have h1 := endF_rg (prs_WF (tx := tx) hn4 n D0 0 WFd_0)
  unfold resF
  cases hq : (prs tx n n D0 0).2 with
  | none => exact h1
  | some q =>
    have := prs_le hn4 n D0 0 q WFd_0 hq
    simp only
    omega
theorem m_lay (tx : Nat → Int) (n : Nat) (M : MM) (hn4 : n ≤ 400) (hb : ∀ k, -128 ≤ tx k ∧ tx k ≤ 127) (hn : M 55 0 = n) (hx : ∀ k, M 56 k = tx k) :
    oQ 5 112 [vR 55] M (fun r M' => r = some (Sum.inl (f_lay (prs tx n n D0 0))) ∧ (layB (prs tx n n D0 0) = false → ∀ k j, ¬ itf k j → M' k j = M k j) ∧ (layB (prs tx n n D0 0) = true → ∃ M1, DM M1 (prs tx n n D0 0).1 ∧ (∀ k j, ¬ itf k j → M1 k j = M k j) ∧ tkn M1 M')) := by
  have hrg := resF_rg (tx := tx) hn4
  have hwd := prs_WF (tx := tx) hn4 n D0 0 WFd_0
  have hfl := m_fault tx n M hn4 hb hn hx
  generalize prs tx n n D0 0 = Q at hrg hwd hfl ⊢
  refine go112 (fun S hS => ?_)
  refine wpx_ok hS bk112 (sp := sp112) 60 0 _ _ _ _ ?_
  simp only [LCM, B2, Bool.not_eq_false, Bool.not_eq_true, decide_eq_true_eq, decide_eq_false_iff_not, Int.not_lt, Int.not_le, CST, TN, WX, WA, WB, GS, LOC, BT112, SP112, CLS, FLD, ARR, CD, true_and, and_true, and_self, forall_const, true_implies, false_implies, implies_true, not_true_eq_false, not_false_eq_true, if_true, if_false, rgI, rgL, scr, swl, lkl, cats, cat, is2, List.drop_succ_cons, List.drop_zero, List.drop_nil, List.cons_append, List.nil_append, Option.toList_some, Option.toList_none, List.length_cons, List.length_nil, ne_eq, Classical.not_not, reduceCtorEq, Nat.reduceAdd, Nat.reduceSub, Nat.reduceMul, Nat.reduceLT, Nat.reduceLeDiff, Nat.reduceEqDiff, Nat.reduceBEq, Int.reduceToNat, Int.reduceLE, Int.reduceLT, Int.reduceEq, Int.reduceNeg, Int.reduceAdd, Int.reduceSub, Int.reduceMul, Int.toNat_natCast, Nat.zero_add, Int.add_zero, Nat.add_zero, ite_true, ite_false, Option.some.injEq, Nat.le_refl, or_true, true_or, or_false, false_or, if_pos, reduceIte, Nat.reduceGT]
  refine ⟨rcv_ok rfl own111 rfl, kQ (hfl) (Nat.le_of_ble_eq_true rfl) rfl rfl (Nat.le_of_ble_eq_true rfl) (Nat.le_of_ble_eq_true rfl) rfl ?_⟩
  rintro r N ⟨rfl, hD, hF⟩
  have hw1 := hwd.1
  show S 4 _ [Sum.inl _] _ N
  by_cases h4 : resF Q = -4
  · have hm := hD (resF_no h4).1
    refine wpx_ok hS bk112 (sp := sp112) 60 4 _ _ _ _ ?_
    simp only [LCM, B2, Bool.not_eq_false, Bool.not_eq_true, decide_eq_true_eq, decide_eq_false_iff_not, Int.not_lt, Int.not_le, CST, TN, WX, WA, WB, GS, LOC, BT112, SP112, CLS, FLD, ARR, CD, true_and, and_true, and_self, forall_const, true_implies, false_implies, implies_true, not_true_eq_false, not_false_eq_true, if_true, if_false, rgI, rgL, scr, swl, lkl, cats, cat, is2, List.drop_succ_cons, List.drop_zero, List.drop_nil, List.cons_append, List.nil_append, Option.toList_some, Option.toList_none, List.length_cons, List.length_nil, ne_eq, Classical.not_not, reduceCtorEq, Nat.reduceAdd, Nat.reduceSub, Nat.reduceMul, Nat.reduceLT, Nat.reduceLeDiff, Nat.reduceEqDiff, Nat.reduceBEq, Int.reduceToNat, Int.reduceLE, Int.reduceLT, Int.reduceEq, Int.reduceNeg, Int.reduceAdd, Int.reduceSub, Int.reduceMul, Int.toNat_natCast, Nat.zero_add, Int.add_zero, Nat.add_zero, ite_true, ite_false, Option.some.injEq, Nat.le_refl, or_true, true_or, or_false, false_or, if_pos, reduceIte, Nat.reduceGT]
    rw [hm.1.2.2.1]
    refine ⟨by omega, fun h => absurd h4 h, fun _ => ⟨by omega, fun h1 => ?_, fun h1 => ?_⟩⟩
    · have hl : layB Q = true := by unfold layB; exact decide_eq_true ⟨h4, h1⟩
      refine ⟨rcv_ok rfl own110 rfl, kQ (m_takes N (fun j hj => by rw [hm.2.2.2 j hj]; exact (hwd.2.2.2.1 j hj).1)) (Nat.le_of_ble_eq_true rfl) rfl rfl (Nat.le_of_ble_eq_true rfl) (Nat.le_of_ble_eq_true rfl) rfl ?_⟩
      rintro r N1 ⟨rfl, ht⟩
      refine wpx_ok hS bk112 (sp := sp112) 60 25 _ _ _ _ ?_
      simp only [LCM, B2, Bool.not_eq_false, Bool.not_eq_true, decide_eq_true_eq, decide_eq_false_iff_not, Int.not_lt, Int.not_le, CST, TN, WX, WA, WB, GS, LOC, BT112, SP112, CLS, FLD, ARR, CD, true_and, and_true, and_self, forall_const, true_implies, false_implies, implies_true, not_true_eq_false, not_false_eq_true, if_true, if_false, rgI, rgL, scr, swl, lkl, cats, cat, is2, List.drop_succ_cons, List.drop_zero, List.drop_nil, List.cons_append, List.nil_append, Option.toList_some, Option.toList_none, List.length_cons, List.length_nil, ne_eq, Classical.not_not, reduceCtorEq, Nat.reduceAdd, Nat.reduceSub, Nat.reduceMul, Nat.reduceLT, Nat.reduceLeDiff, Nat.reduceEqDiff, Nat.reduceBEq, Int.reduceToNat, Int.reduceLE, Int.reduceLT, Int.reduceEq, Int.reduceNeg, Int.reduceAdd, Int.reduceSub, Int.reduceMul, Int.toNat_natCast, Nat.zero_add, Int.add_zero, Nat.add_zero, ite_true, ite_false, Option.some.injEq, Nat.le_refl, or_true, true_or, or_false, false_or, if_pos, reduceIte, Nat.reduceGT]
      refine rt112 ⟨rfl, ?_, fun z => (by rw [hl] at z; cases z), fun _ => ⟨N, hm, hF, ht⟩⟩
      unfold f_lay
      rw [hl, if_pos rfl, ht.1.2.2.1, hm.1.2.2.1]
    · have hl : layB Q = false := by unfold layB; exact decide_eq_false (fun z => z.2 h1)
      exact rt112 ⟨rfl, by unfold f_lay; rw [hl]; rfl, fun _ => hF, fun z => (by rw [hl] at z; cases z)⟩
  · have hl : layB Q = false := by unfold layB; exact decide_eq_false (fun z => h4 z.1)
    refine wpx_ok hS bk112 (sp := sp112) 60 4 _ _ _ _ ?_
    simp only [LCM, B2, Bool.not_eq_false, Bool.not_eq_true, decide_eq_true_eq, decide_eq_false_iff_not, Int.not_lt, Int.not_le, CST, TN, WX, WA, WB, GS, LOC, BT112, SP112, CLS, FLD, ARR, CD, true_and, and_true, and_self, forall_const, true_implies, false_implies, implies_true, not_true_eq_false, not_false_eq_true, if_true, if_false, rgI, rgL, scr, swl, lkl, cats, cat, is2, List.drop_succ_cons, List.drop_zero, List.drop_nil, List.cons_append, List.nil_append, Option.toList_some, Option.toList_none, List.length_cons, List.length_nil, ne_eq, Classical.not_not, reduceCtorEq, Nat.reduceAdd, Nat.reduceSub, Nat.reduceMul, Nat.reduceLT, Nat.reduceLeDiff, Nat.reduceEqDiff, Nat.reduceBEq, Int.reduceToNat, Int.reduceLE, Int.reduceLT, Int.reduceEq, Int.reduceNeg, Int.reduceAdd, Int.reduceSub, Int.reduceMul, Int.toNat_natCast, Nat.zero_add, Int.add_zero, Nat.add_zero, ite_true, ite_false, Option.some.injEq, Nat.le_refl, or_true, true_or, or_false, false_or, if_pos, reduceIte, Nat.reduceGT]
    refine ⟨by omega, fun _ => ?_, fun h => absurd h h4⟩
    exact rt112 ⟨rfl, by unfold f_lay; rw [hl]; rfl, fun _ => hF, fun z => (by rw [hl] at z; cases z)⟩

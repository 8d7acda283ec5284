theorem alS_pt (T : MM) : alS (pt T) = alS T := rfl
theorem fsB_pt (T : MM) (n : Nat) : fsB (pt T) n = fsB T n := rfl
theorem msV_pt (T : MM) : ∀ n : Nat, msV (pt T) n = msV T n
  | 0 => rfl
  | n + 1 => by
    rw [msV, msV, msV_pt T n]
    rfl
theorem PN_pt (T : MM) : PN (pt T) = PN T := rfl
theorem hN_pt (T : MM) : hN (pt T) = hN T := rfl
/-- what the model's cells hold behind c codes -/
def SI (M : MM) (b : Bool) (c : Nat) (N : MM) : Prop := (∀ k j, ¬ stm k j → k ≠ 61 → N k j = M k j) ∧ (∀ x, x < hN M → N 74 x = M 61 (4 * x + 1)) ∧ N 55 25 = cnt (okC M b) c ∧ (0 ≤ N 55 26 ∧ N 55 26 ≤ 100) ∧ (0 < cnt (okC M b) c → N 55 26 = wtC M b (bsC M b c) ∧ ∀ x, x < hN M → N 75 x = cd M (bsC M b c) 61 (4 * x + 1)) ∧ ∀ x, x < hN M → N 76 x = smC M b x c
theorem wp_step {T : MM} {n : Nat} (hn : n < hN T) : wp T n (hN T - n) = fac T n * wp T (n + 1) (hN T - (n + 1)) := by
  rw [show hN T - n = (hN T - (n + 1)) + 1 by omega, wp]
theorem m_settles (b : Bool) (M : MM) (hW : WFt M) (hs : WFs M) : oQ 7 140 [vR 55, vI (b2i b)] M (fun r M' => r = none ∧ (∀ k j, ¬ stm k j → M' k j = M k j) ∧ M' 55 25 = cnt (okC M b) (codes M) ∧
    (0 < cnt (okC M b) (codes M) → M' 55 26 = wtC M b (bsC M b (codes M)) ∧ ∀ x, x < hN M → M' 75 x = cd M (bsC M b (codes M)) 61 (4 * x + 1)) ∧ ∀ x, x < hN M → M' 76 x = smC M b x (codes M)) := by
  have hH := hW.H
  have hP := hW.P
  have hcs : 1 ≤ codes M ∧ codes M ≤ 1728 := pw_sm hW (n := hN M) (Nat.le_refl _)
  have hcnt := fun c => cnt_rg (okC M b) c
  refine go140 (fun S hS => ?_)
  have loopD : ∀ N0 : MM, SI M b (codes M) N0 → (∀ j, (∀ i, i < hN M → j ≠ 4 * i + 1) → N0 61 j = M 61 j) → ∀ (n i : Nat) (N : MM), i + n = hN M → (∀ k j, k ≠ 61 → N k j = N0 k j) → (∀ x, x < i → N 61 (4 * x + 1) = M 61 (4 * x + 1)) → (∀ j, (∀ i, i < hN M → j ≠ 4 * i + 1) → N 61 j = M 61 j) →
      ∀ o4 o5 : Option AV, S 181 [some (vR 55), some (vI (b2i b)), some (vI (codes M)), some (vI i), o4, o5] [] (sh0, 0, 0) N := by
    intro N0 hI h61 n
    induction n with
    | zero =>
      intro i N hi hF hlo hot o4 o5
      obtain ⟨i1, i2, i3, i4, i5, i6⟩ := hI
      have e58 : N 58 0 = M 58 0 := by rw [hF 58 0 (by decide)]; exact i1 58 0 (by unfold stm; omega) (by decide)
      refine wpx_ok hS bk140 (sp := sp140) 60 181 _ _ _ _ ?_
      simp only [LCM, B2, Bool.not_eq_false, Bool.not_eq_true, decide_eq_true_eq, decide_eq_false_iff_not, Int.not_lt, Int.not_le, CST, TN, WX, WA, WB, GS, LOC, BT140, SP140, CLS, FLD, ARR, CD, true_and, and_true, and_self, forall_const, true_implies, false_implies, implies_true, not_true_eq_false, not_false_eq_true, if_true, if_false, rgI, rgL, scr, swl, lkl, cats, cat, is2, List.drop_succ_cons, List.drop_zero, List.drop_nil, List.cons_append, List.nil_append, Option.toList_some, Option.toList_none, List.length_cons, List.length_nil, ne_eq, Classical.not_not, reduceCtorEq, Nat.reduceAdd, Nat.reduceSub, Nat.reduceMul, Nat.reduceLT, Nat.reduceLeDiff, Nat.reduceEqDiff, Nat.reduceBEq, Int.reduceToNat, Int.reduceLE, Int.reduceLT, Int.reduceEq, Int.reduceNeg, Int.reduceAdd, Int.reduceSub, Int.reduceMul, Int.toNat_natCast, Nat.zero_add, Int.add_zero, Nat.add_zero, ite_true, ite_false, Option.some.injEq, Nat.le_refl, or_true, true_or, or_false, false_or, if_pos, reduceIte, Nat.reduceGT]
      rw [e58]
      refine ⟨by omega, fun h => rt140 (Nat.le_refl _) (Nat.le_refl _) ⟨rfl, rfl, fun k j hk => ?_, ?_, fun h => ?_, fun x hx => ?_⟩, fun h => by omega⟩
      · by_cases hk6 : k = 61
        · subst hk6
          by_cases hj : ∃ x, x < hN M ∧ j = 4 * x + 1
          · obtain ⟨x, hx, rfl⟩ := hj
            exact hlo x (by omega)
          · exact hot j (fun x hx hxj => hj ⟨x, hx, hxj⟩)
        · rw [hF k j hk6]
          exact i1 k j hk hk6
      · rw [hF 55 25 (by decide)]; exact i3
      · rw [hF 55 26 (by decide)]
        exact ⟨(i5 h).1, fun x hx => by rw [hF 75 x (by decide)]; exact (i5 h).2 x hx⟩
      · rw [hF 76 x (by decide)]; exact i6 x hx
    | succ n ih =>
      intro i N hi hF hlo hot o4 o5
      have e58 : N 58 0 = M 58 0 := by rw [hF 58 0 (by decide)]; exact hI.1 58 0 (by unfold stm; omega) (by decide)
      have e74 : N 74 i = M 61 (4 * i + 1) := by rw [hF 74 i (by decide)]; exact hI.2.1 i (by omega)
      refine wpx_ok hS bk140 (sp := sp140) 60 181 _ _ _ _ ?_
      simp only [LCM, B2, Bool.not_eq_false, Bool.not_eq_true, decide_eq_true_eq, decide_eq_false_iff_not, Int.not_lt, Int.not_le, CST, TN, WX, WA, WB, GS, LOC, BT140, SP140, CLS, FLD, ARR, CD, true_and, and_true, and_self, forall_const, true_implies, false_implies, implies_true, not_true_eq_false, not_false_eq_true, if_true, if_false, rgI, rgL, scr, swl, lkl, cats, cat, is2, List.drop_succ_cons, List.drop_zero, List.drop_nil, List.cons_append, List.nil_append, Option.toList_some, Option.toList_none, List.length_cons, List.length_nil, ne_eq, Classical.not_not, reduceCtorEq, Nat.reduceAdd, Nat.reduceSub, Nat.reduceMul, Nat.reduceLT, Nat.reduceLeDiff, Nat.reduceEqDiff, Nat.reduceBEq, Int.reduceToNat, Int.reduceLE, Int.reduceLT, Int.reduceEq, Int.reduceNeg, Int.reduceAdd, Int.reduceSub, Int.reduceMul, Int.toNat_natCast, Nat.zero_add, Int.add_zero, Nat.add_zero, ite_true, ite_false, Option.some.injEq, Nat.le_refl, or_true, true_or, or_false, false_or, if_pos, reduceIte, Nat.reduceGT]
      rw [e58, e74]
      refine ⟨by omega, fun h => by omega, fun h => ⟨by omega, by omega, ?_⟩⟩
      refine ih (i + 1) _ (by omega) (fun k j hk => ?_) (fun x hx => ?_) (fun j hj => ?_) _ _
      · rw [ms_ne hk]; exact hF k j hk
      · by_cases hxi : x = i
        · subst hxi; rw [ms_eq]
        · rw [ms_nj (by omega)]; exact hlo x (by omega)
      · rw [ms_nj (hj i (by omega))]; exact hot j hj
  have loopB : ∀ (m c : Nat) (N : MM) (f : Nat → Int), c + m = codes M → SI M b c N → (∀ j, N 61 j = rT M f 61 j) → (∀ i, i < hN M → newB M i = true → 0 ≤ f i ∧ f i < len M i) → ∀ o4 o5 : Option AV, S 77 [some (vR 55), some (vI (b2i b)), some (vI (codes M)), some (vI c), o4, o5] [] (sh0, 0, 0) N := by
    intro m
    induction m with
    | zero =>
      intro c N f hc hI h61 hf o4 o5
      have hcc : c = codes M := by omega
      subst hcc
      refine wpx_ok hS bk140 (sp := sp140) 60 77 _ _ _ _ ?_
      simp only [LCM, B2, Bool.not_eq_false, Bool.not_eq_true, decide_eq_true_eq, decide_eq_false_iff_not, Int.not_lt, Int.not_le, CST, TN, WX, WA, WB, GS, LOC, BT140, SP140, CLS, FLD, ARR, CD, true_and, and_true, and_self, forall_const, true_implies, false_implies, implies_true, not_true_eq_false, not_false_eq_true, if_true, if_false, rgI, rgL, scr, swl, lkl, cats, cat, is2, List.drop_succ_cons, List.drop_zero, List.drop_nil, List.cons_append, List.nil_append, Option.toList_some, Option.toList_none, List.length_cons, List.length_nil, ne_eq, Classical.not_not, reduceCtorEq, Nat.reduceAdd, Nat.reduceSub, Nat.reduceMul, Nat.reduceLT, Nat.reduceLeDiff, Nat.reduceEqDiff, Nat.reduceBEq, Int.reduceToNat, Int.reduceLE, Int.reduceLT, Int.reduceEq, Int.reduceNeg, Int.reduceAdd, Int.reduceSub, Int.reduceMul, Int.toNat_natCast, Nat.zero_add, Int.add_zero, Nat.add_zero, ite_true, ite_false, Option.some.injEq, Nat.le_refl, or_true, true_or, or_false, false_or, if_pos, reduceIte, Nat.reduceGT]
      refine ⟨by omega, fun h => ?_, fun h => by omega⟩
      have h612 : ∀ j, (∀ i, i < hN M → j ≠ 4 * i + 1) → N 61 j = M 61 j := by
        intro j hj
        rw [h61]
        unfold rT
        rw [if_neg (fun z => hj (j / 4) z.2.2.1 (by omega))]
      exact loopD N hI h612 (hN M) 0 N (by omega) (fun _ _ _ => rfl) (fun x hx => by omega) h612 _ _
    | succ m ihm =>
      intro c N f hc hI h61 hf o4 o5
      have loopC : ∀ (n : Nat) (N1 : MM) (g : Nat → Int), n ≤ hN M → (∀ k j, k ≠ 61 → N1 k j = N k j) → (∀ j, N1 61 j = rT M g 61 j) → (∀ i, i < hN M → newB M i = true → 0 ≤ g i ∧ g i < len M i) → (∀ i, n ≤ i → i < hN M → newB M i = true → g i = dig M c i) →
          S 95 [some (vR 55), some (vI (b2i b)), some (vI (codes M)), some (vI c), some (vI ((c / wp M n (hN M - n) : Nat) : Int)), some (vI ((n : Int) - 1))] [] (sh0, 0, 0) N1 := by
        intro n
        induction n with
        | zero =>
          intro N1 g hn hF1 h611 hg hd
          have eN1 : ∀ k j, ¬ stm k j → k ≠ 61 → N1 k j = M k j := fun k j h1 h2 => by rw [hF1 k j h2]; exact hI.1 k j h1 h2
          have hcd : ∀ j, N1 61 j = cd M c 61 j := fun j => by
            rw [h611]
            unfold cd
            rw [rT_eq (g := fun i => (dig M c i : Int)) (fun i h1 h2 => hd i (by omega) h1 h2)]
          have hpt : pt N1 = pt (cd M c) := pt_eq (fun k j h1 h2 => by
            by_cases hk : k = 61
            · subst hk; exact hcd j
            · rw [(cd_SW M c).1 k j hk]; exact eN1 k j (by unfold stm; omega) hk)
          have hWN : WFt N1 := WF_pt hpt (cd_WF hW c)
          have hHN : hN N1 = hN M := by unfold hN; rw [eN1 58 0 (by unfold stm; omega) (by decide)]
          have e11 : N1 55 11 = M 55 11 := eN1 55 11 (by unfold stm; omega) (by decide)
          have hsN : WFs N1 := by
            unfold WFs
            rw [e11, eN1 59 0 (by unfold stm; omega) (by decide)]
            refine ⟨hs.1, fun k hk => ?_⟩
            rw [eN1 65 k (by unfold stm; omega) (by decide), eN1 66 k (by unfold stm; omega) (by decide), eN1 67 k (by unfold stm; omega) (by decide)]
            exact hs.2 k hk
          have e25 : N1 55 25 = cnt (okC M b) c := by rw [hF1 55 25 (by decide)]; exact hI.2.2.1
          have e26 : N1 55 26 = N 55 26 := hF1 55 26 (by decide)
          have hne : okC M b c = false → S 173 [some (vR 55), some (vI (b2i b)), some (vI (codes M)), some (vI c), some (vI ((c / wp M 0 (hN M - 0) : Nat) : Int)), some (vI (-1))] [] (sh0, 0, 0) N1 := by
            intro hno
            have ec : cnt (okC M b) (c + 1) = cnt (okC M b) c := by rw [cnt, hno]; simp
            have eb : bsC M b (c + 1) = bsC M b c := by rw [bsC, hno]; rfl
            refine wpx_ok hS bk140 (sp := sp140) 60 173 _ _ _ _ ?_
            simp only [LCM, B2, Bool.not_eq_false, Bool.not_eq_true, decide_eq_true_eq, decide_eq_false_iff_not, Int.not_lt, Int.not_le, CST, TN, WX, WA, WB, GS, LOC, BT140, SP140, CLS, FLD, ARR, CD, true_and, and_true, and_self, forall_const, true_implies, false_implies, implies_true, not_true_eq_false, not_false_eq_true, if_true, if_false, rgI, rgL, scr, swl, lkl, cats, cat, is2, List.drop_succ_cons, List.drop_zero, List.drop_nil, List.cons_append, List.nil_append, Option.toList_some, Option.toList_none, List.length_cons, List.length_nil, ne_eq, Classical.not_not, reduceCtorEq, Nat.reduceAdd, Nat.reduceSub, Nat.reduceMul, Nat.reduceLT, Nat.reduceLeDiff, Nat.reduceEqDiff, Nat.reduceBEq, Int.reduceToNat, Int.reduceLE, Int.reduceLT, Int.reduceEq, Int.reduceNeg, Int.reduceAdd, Int.reduceSub, Int.reduceMul, Int.toNat_natCast, Nat.zero_add, Int.add_zero, Nat.add_zero, ite_true, ite_false, Option.some.injEq, Nat.le_refl, or_true, true_or, or_false, false_or, if_pos, reduceIte, Nat.reduceGT]
            refine ihm (c + 1) N1 g (by omega) ⟨eN1, fun x hx => ?_, ?_, ?_, fun h => ?_, fun x hx => ?_⟩ h611 hg _ _
            · rw [hF1 74 x (by decide)]; exact hI.2.1 x hx
            · rw [e25, ec]
            · rw [e26]; exact hI.2.2.2.1
            · rw [ec] at h
              rw [eb, e26]
              have := hI.2.2.2.2.1 h
              exact ⟨this.1, fun x hx => by rw [hF1 75 x (by decide)]; exact this.2 x hx⟩
            · rw [hF1 76 x (by decide), smC, hno]; exact hI.2.2.2.2.2 x hx
          have hmost : mostC N1 b = wtC M b c := by
            unfold mostC wtC
            cases b with
            | true => rfl
            | false =>
              show msV N1 (PN N1) = msV (cd M c) (PN M)
              rw [← msV_pt N1, hpt, msV_pt, ← PN_pt N1, hpt, PN_pt, (cd_SW M c).eP]
          have hif : isF N1 b = (decide (cnt (okC M b) c = 0) || decide (wtC M b c < wtC M b (bsC M b c))) := by
            unfold isF
            rw [hmost, e25, e26]
            by_cases h0 : cnt (okC M b) c = 0
            · rw [decide_eq_true h0]; rfl
            · rw [(hI.2.2.2.2.1 (by have := hcnt c; omega)).1]
          have hye : okC M b c = true → ∀ r N2, (r = none ∧ N2 55 25 = N1 55 25 + 1 ∧ N2 55 26 = (if isF N1 b then mostC N1 b else N1 55 26) ∧ (∀ i, i < hN N1 → N2 75 i = (if isF N1 b then N1 61 (4 * i + 1) else N1 75 i) ∧ N2 76 i = bOr (N1 76 i) (bShl 1 (N1 61 (4 * i + 1)))) ∧ ∀ k j, ¬ stc k j → N2 k j = N1 k j) →
              S 173 [some (vR 55), some (vI (b2i b)), some (vI (codes M)), some (vI c), some (vI ((c / wp M 0 (hN M - 0) : Nat) : Int)), some (vI (-1))] (r.toList ++ []) (sh0, 0, 0) N2 := by
            rintro hyes r N2 ⟨rfl, a1, a2, a3, a4⟩
            have ec : cnt (okC M b) (c + 1) = cnt (okC M b) c + 1 := by rw [cnt, hyes]; simp
            have hc0 := hcnt c
            have hwr := wtC_rg hW b c
            rw [hHN] at a3
            rw [hif] at a2 a3
            rw [hmost] at a2
            show S 173 _ [] _ N2
            refine wpx_ok hS bk140 (sp := sp140) 60 173 _ _ _ _ ?_
            simp only [LCM, B2, Bool.not_eq_false, Bool.not_eq_true, decide_eq_true_eq, decide_eq_false_iff_not, Int.not_lt, Int.not_le, CST, TN, WX, WA, WB, GS, LOC, BT140, SP140, CLS, FLD, ARR, CD, true_and, and_true, and_self, forall_const, true_implies, false_implies, implies_true, not_true_eq_false, not_false_eq_true, if_true, if_false, rgI, rgL, scr, swl, lkl, cats, cat, is2, List.drop_succ_cons, List.drop_zero, List.drop_nil, List.cons_append, List.nil_append, Option.toList_some, Option.toList_none, List.length_cons, List.length_nil, ne_eq, Classical.not_not, reduceCtorEq, Nat.reduceAdd, Nat.reduceSub, Nat.reduceMul, Nat.reduceLT, Nat.reduceLeDiff, Nat.reduceEqDiff, Nat.reduceBEq, Int.reduceToNat, Int.reduceLE, Int.reduceLT, Int.reduceEq, Int.reduceNeg, Int.reduceAdd, Int.reduceSub, Int.reduceMul, Int.toNat_natCast, Nat.zero_add, Int.add_zero, Nat.add_zero, ite_true, ite_false, Option.some.injEq, Nat.le_refl, or_true, true_or, or_false, false_or, if_pos, reduceIte, Nat.reduceGT]
            refine ihm (c + 1) N2 g (by omega) ⟨fun k j h1 h2 => ?_, fun x hx => ?_, ?_, ?_, fun h => ?_, fun x hx => ?_⟩ (fun j => ?_) hg _ _
            · rw [a4 k j (fun z => h1 (by unfold stc at z; unfold stm; omega))]; exact eN1 k j h1 h2
            · rw [a4 74 x (by unfold stc; omega), hF1 74 x (by decide)]; exact hI.2.1 x hx
            · rw [a1, e25, ec]
            · rw [a2]; split
              · omega
              · rw [e26]; exact hI.2.2.2.1
            · rw [bsC, hyes, Bool.true_and]
              cases hv : (decide (cnt (okC M b) c = 0) || decide (wtC M b c < wtC M b (bsC M b c))) with
              | true =>
                rw [hv] at a2 a3
                rw [if_pos rfl]
                refine ⟨a2, fun x hx => ?_⟩
                rw [(a3 x hx).1, if_pos rfl]
                exact hcd _
              | false =>
                rw [hv] at a2 a3
                rw [if_neg (by decide)]
                have h0 : 0 < cnt (okC M b) c := by
                  simp only [Bool.or_eq_false_iff, decide_eq_false_iff_not] at hv
                  omega
                have := hI.2.2.2.2.1 h0
                refine ⟨?_, fun x hx => ?_⟩
                · rw [a2, if_neg (by decide), e26]; exact this.1
                · rw [(a3 x hx).1, if_neg (by decide), hF1 75 x (by decide)]; exact this.2 x hx
            · rw [(a3 x hx).2, smC, hyes, if_pos rfl, hF1 76 x (by decide), hI.2.2.2.2.2 x hx, hcd]
            · rw [a4 61 j (by unfold stc; omega)]; exact h611 j
          have hcr := hcnt c
          rw [show ((0 : Nat) : Int) - 1 = -1 from rfl]
          refine wpx_ok hS bk140 (sp := sp140) 60 95 _ _ _ _ ?_
          simp only [LCM, B2, Bool.not_eq_false, Bool.not_eq_true, decide_eq_true_eq, decide_eq_false_iff_not, Int.not_lt, Int.not_le, CST, TN, WX, WA, WB, GS, LOC, BT140, SP140, CLS, FLD, ARR, CD, true_and, and_true, and_self, forall_const, true_implies, false_implies, implies_true, not_true_eq_false, not_false_eq_true, if_true, if_false, rgI, rgL, scr, swl, lkl, cats, cat, is2, List.drop_succ_cons, List.drop_zero, List.drop_nil, List.cons_append, List.nil_append, Option.toList_some, Option.toList_none, List.length_cons, List.length_nil, ne_eq, Classical.not_not, reduceCtorEq, Nat.reduceAdd, Nat.reduceSub, Nat.reduceMul, Nat.reduceLT, Nat.reduceLeDiff, Nat.reduceEqDiff, Nat.reduceBEq, Int.reduceToNat, Int.reduceLE, Int.reduceLT, Int.reduceEq, Int.reduceNeg, Int.reduceAdd, Int.reduceSub, Int.reduceMul, Int.toNat_natCast, Nat.zero_add, Int.add_zero, Nat.add_zero, ite_true, ite_false, Option.some.injEq, Nat.le_refl, or_true, true_or, or_false, false_or, if_pos, reduceIte, Nat.reduceGT]
          refine ⟨fun hb => ?_, fun hb => ?_⟩
          · have hoc : alS N1 = okC M b c := by
              unfold okC
              rw [hb]
              rw [← alS_pt N1, hpt, alS_pt]
              rfl
            refine ⟨rcv_ok rfl own138 rfl, kI (m_isAll N1 hWN) (Nat.le_of_ble_eq_true rfl) rfl rfl (Nat.le_of_ble_eq_true rfl) (Nat.le_of_ble_eq_true rfl) rfl ?_⟩
            rw [hoc]
            refine wpx_ok hS bk140 (sp := sp140) 60 165 _ _ _ _ ?_
            simp only [LCM, B2, Bool.not_eq_false, Bool.not_eq_true, decide_eq_true_eq, decide_eq_false_iff_not, Int.not_lt, Int.not_le, CST, TN, WX, WA, WB, GS, LOC, BT140, SP140, CLS, FLD, ARR, CD, true_and, and_true, and_self, forall_const, true_implies, false_implies, implies_true, not_true_eq_false, not_false_eq_true, if_true, if_false, rgI, rgL, scr, swl, lkl, cats, cat, is2, List.drop_succ_cons, List.drop_zero, List.drop_nil, List.cons_append, List.nil_append, Option.toList_some, Option.toList_none, List.length_cons, List.length_nil, ne_eq, Classical.not_not, reduceCtorEq, Nat.reduceAdd, Nat.reduceSub, Nat.reduceMul, Nat.reduceLT, Nat.reduceLeDiff, Nat.reduceEqDiff, Nat.reduceBEq, Int.reduceToNat, Int.reduceLE, Int.reduceLT, Int.reduceEq, Int.reduceNeg, Int.reduceAdd, Int.reduceSub, Int.reduceMul, Int.toNat_natCast, Nat.zero_add, Int.add_zero, Nat.add_zero, ite_true, ite_false, Option.some.injEq, Nat.le_refl, or_true, true_or, or_false, false_or, if_pos, reduceIte, Nat.reduceGT]
            refine ⟨hne, fun h => ?_⟩
            refine ⟨rcv_ok rfl own141 rfl, kQ (m_counts b N1 hWN (by omega) (by rw [e26]; exact hI.2.2.2.1)) (Nat.le_of_ble_eq_true rfl) rfl rfl (Nat.le_of_ble_eq_true rfl) (Nat.le_of_ble_eq_true rfl) rfl ?_⟩
            exact hye h
          · have hoc : fsB N1 (N1 55 11).toNat = okC M b c := by
              unfold okC
              rw [hb, e11]
              rw [← fsB_pt N1, hpt, fsB_pt]
              rfl
            refine ⟨rcv_ok rfl own139 rfl, kI (m_fitsSeen N1 hWN hsN) (Nat.le_of_ble_eq_true rfl) rfl rfl (Nat.le_of_ble_eq_true rfl) (Nat.le_of_ble_eq_true rfl) rfl ?_⟩
            rw [hoc]
            refine wpx_ok hS bk140 (sp := sp140) 60 155 _ _ _ _ ?_
            simp only [LCM, B2, Bool.not_eq_false, Bool.not_eq_true, decide_eq_true_eq, decide_eq_false_iff_not, Int.not_lt, Int.not_le, CST, TN, WX, WA, WB, GS, LOC, BT140, SP140, CLS, FLD, ARR, CD, true_and, and_true, and_self, forall_const, true_implies, false_implies, implies_true, not_true_eq_false, not_false_eq_true, if_true, if_false, rgI, rgL, scr, swl, lkl, cats, cat, is2, List.drop_succ_cons, List.drop_zero, List.drop_nil, List.cons_append, List.nil_append, Option.toList_some, Option.toList_none, List.length_cons, List.length_nil, ne_eq, Classical.not_not, reduceCtorEq, Nat.reduceAdd, Nat.reduceSub, Nat.reduceMul, Nat.reduceLT, Nat.reduceLeDiff, Nat.reduceEqDiff, Nat.reduceBEq, Int.reduceToNat, Int.reduceLE, Int.reduceLT, Int.reduceEq, Int.reduceNeg, Int.reduceAdd, Int.reduceSub, Int.reduceMul, Int.toNat_natCast, Nat.zero_add, Int.add_zero, Nat.add_zero, ite_true, ite_false, Option.some.injEq, Nat.le_refl, or_true, true_or, or_false, false_or, if_pos, reduceIte, Nat.reduceGT]
            refine ⟨hne, fun h => ?_⟩
            refine ⟨rcv_ok rfl own141 rfl, kQ (m_counts b N1 hWN (by omega) (by rw [e26]; exact hI.2.2.2.1)) (Nat.le_of_ble_eq_true rfl) rfl rfl (Nat.le_of_ble_eq_true rfl) (Nat.le_of_ble_eq_true rfl) rfl ?_⟩
            exact hye h
        | succ n ihn =>
          intro N1 g hn hF1 h611 hg hd
          have eN1 : ∀ k j, ¬ stm k j → k ≠ 61 → N1 k j = M k j := fun k j h1 h2 => by rw [hF1 k j h2]; exact hI.1 k j h1 h2
          have e64 : N1 64 n = M 64 n := eN1 64 n (by unfold stm; omega) (by decide)
          have h01 := (hW.2.2.2.2.2.2.2.1 n (by omega)).1
          have hpt : pt N1 = pt (rT M g) := pt_eq (fun k j h1 h2 => by
            by_cases hk : k = 61
            · subst hk; exact h611 j
            · rw [(rT_SW M g).1 k j hk]; exact eN1 k j (by unfold stm; omega) hk)
          have hWN : WFt N1 := WF_pt hpt (rT_WF hW hg)
          have hHN : hN N1 = hN M := by unfold hN; rw [eN1 58 0 (by unfold stm; omega) (by decide)]
          have hln : len N1 n = len M n := by
            rw [← rT_len M g (i := n) (by omega)]
            show len (pt N1) n = len (pt (rT M g)) n
            rw [hpt]
          have hLN := LN_rg hW (i := n) (by omega)
          have hstep := wp_step (T := M) (n := n) (by omega)
          rw [show ((n + 1 : Nat) : Int) - 1 = (n : Int) by omega]
          refine wpx_ok hS bk140 (sp := (fun t => sp140 t || t == 147)) 60 95 _ _ _ _ ?_
          simp only [LCM, B2, Bool.not_eq_false, Bool.not_eq_true, decide_eq_true_eq, decide_eq_false_iff_not, Int.not_lt, Int.not_le, CST, TN, WX, WA, WB, GS, LOC, BT140, SP140, CLS, FLD, ARR, CD, true_and, and_true, and_self, forall_const, true_implies, false_implies, implies_true, not_true_eq_false, not_false_eq_true, if_true, if_false, rgI, rgL, scr, swl, lkl, cats, cat, is2, List.drop_succ_cons, List.drop_zero, List.drop_nil, List.cons_append, List.nil_append, Option.toList_some, Option.toList_none, List.length_cons, List.length_nil, ne_eq, Classical.not_not, reduceCtorEq, Nat.reduceAdd, Nat.reduceSub, Nat.reduceMul, Nat.reduceLT, Nat.reduceLeDiff, Nat.reduceEqDiff, Nat.reduceBEq, Int.reduceToNat, Int.reduceLE, Int.reduceLT, Int.reduceEq, Int.reduceNeg, Int.reduceAdd, Int.reduceSub, Int.reduceMul, Int.toNat_natCast, Nat.zero_add, Int.add_zero, Nat.add_zero, ite_true, ite_false, Option.some.injEq, Nat.le_refl, or_true, true_or, or_false, false_or, if_pos, reduceIte, Nat.reduceGT, Bool.or_false, Bool.false_or, Bool.or_true, Bool.true_or, beq_self_eq_true, Nat.reduceBEq]
          rw [e64]
          refine ⟨by omega, fun h => by omega, fun h => ⟨by omega, by omega, fun h1 => ?_, fun h1 => ?_⟩⟩
          · have hnb : newB M n = false := by unfold newB; exact decide_eq_false (by omega)
            have hfac : fac M n = 1 := by unfold fac; rw [hnb]; rfl
            rw [hfac, Nat.one_mul] at hstep
            have := ihn N1 g (by omega) hF1 h611 hg (fun i h2 h3 h4 => by
              by_cases hin : i = n
              · rw [hin, hnb] at h4; cases h4
              · exact hd i (by omega) h3 h4)
            rw [hstep] at this
            rw [show (n : Int) + -1 = (n : Int) - 1 by omega]
            exact this
          · have hnb : newB M n = true := by unfold newB; exact decide_eq_true (by omega)
            have hfac : fac M n = LN M n := by unfold fac; rw [hnb]; rfl
            have hdg : c / wp M (n + 1) (hN M - (n + 1)) % LN M n = dig M c n := rfl
            have hle : c / wp M (n + 1) (hN M - (n + 1)) ≤ c := Nat.div_le_self _ _
            have hnx : c / wp M (n + 1) (hN M - (n + 1)) / LN M n = c / wp M n (hN M - n) := by rw [Nat.div_div_eq_div_mul, show wp M (n + 1) (hN M - (n + 1)) * LN M n = wp M n (hN M - n) by rw [hstep, hfac, Nat.mul_comm]]
            generalize c / wp M (n + 1) (hN M - (n + 1)) = lf at hdg hle hnx ⊢
            have hdl := dig_lt hW (i := n) (by omega) c
            refine ⟨rcv_ok rfl own117 rfl, kI (m_weekOf n N1 hWN (by omega)) (Nat.le_of_ble_eq_true rfl) rfl rfl (Nat.le_of_ble_eq_true rfl) (Nat.le_of_ble_eq_true rfl) rfl ?_⟩
            rw [hln, ← hLN.1]
            refine wpx_ok hS bk140 (sp := sp140) 60 128 _ _ _ _ ?_
            simp only [LCM, B2, Bool.not_eq_false, Bool.not_eq_true, decide_eq_true_eq, decide_eq_false_iff_not, Int.not_lt, Int.not_le, CST, TN, WX, WA, WB, GS, LOC, BT140, SP140, CLS, FLD, ARR, CD, true_and, and_true, and_self, forall_const, true_implies, false_implies, implies_true, not_true_eq_false, not_false_eq_true, if_true, if_false, rgI, rgL, scr, swl, lkl, cats, cat, is2, List.drop_succ_cons, List.drop_zero, List.drop_nil, List.cons_append, List.nil_append, Option.toList_some, Option.toList_none, List.length_cons, List.length_nil, ne_eq, Classical.not_not, reduceCtorEq, Nat.reduceAdd, Nat.reduceSub, Nat.reduceMul, Nat.reduceLT, Nat.reduceLeDiff, Nat.reduceEqDiff, Nat.reduceBEq, Int.reduceToNat, Int.reduceLE, Int.reduceLT, Int.reduceEq, Int.reduceNeg, Int.reduceAdd, Int.reduceSub, Int.reduceMul, Int.toNat_natCast, Nat.zero_add, Int.add_zero, Nat.add_zero, ite_true, ite_false, Option.some.injEq, Nat.le_refl, or_true, true_or, or_false, false_or, if_pos, reduceIte, Nat.reduceGT]
            rw [← Int.natCast_emod, hdg]
            refine ⟨by omega, by omega, ?_⟩
            have e61' : ∀ j, mset N1 61 (4 * n + 1) (dig M c n : Int) 61 j = rT M (fun x => if x = n then (dig M c n : Int) else g x) 61 j := fun j => by
              rw [← rT_set (f := g) (by omega) hnb]
              unfold mset
              rw [h611]
            have hg' : ∀ i, i < hN M → newB M i = true → 0 ≤ (fun x => if x = n then (dig M c n : Int) else g x) i ∧ (fun x => if x = n then (dig M c n : Int) else g x) i < len M i := fun i h2 h3 => by
              dsimp only
              split
              · rename_i hin; rw [hin]; omega
              · exact hg i h2 h3
            have hd' : ∀ i, n ≤ i → i < hN M → newB M i = true → (fun x => if x = n then (dig M c n : Int) else g x) i = dig M c i := fun i h2 h3 h4 => by
              dsimp only
              split
              · rename_i hin; rw [hin]
              · exact hd i (by omega) h3 h4
            generalize hN2 : mset N1 61 (4 * n + 1) (dig M c n : Int) = N2 at e61' ⊢
            generalize (fun x => if x = n then (dig M c n : Int) else g x) = g' at e61' hg' hd'
            have hF2 : ∀ k j, k ≠ 61 → N2 k j = N k j := fun k j hk => by rw [← hN2, ms_ne hk]; exact hF1 k j hk
            have hpt2 : pt N2 = pt (rT M g') := pt_eq (fun k j h1 h2 => by
              by_cases hk : k = 61
              · subst hk; exact e61' j
              · rw [(rT_SW M g').1 k j hk, hF2 k j hk]; exact hI.1 k j (by unfold stm; omega) hk)
            have hWN2 : WFt N2 := WF_pt hpt2 (rT_WF hW hg')
            have hHN2 : hN N2 = hN M := by unfold hN; rw [hF2 58 0 (by decide), hI.1 58 0 (by unfold stm; omega) (by decide)]
            have hln2 : len N2 n = len M n := by
              rw [← rT_len M g' (i := n) (by omega)]
              show len (pt N2) n = len (pt (rT M g')) n
              rw [hpt2]
            refine ⟨rcv_ok rfl own117 rfl, kI (m_weekOf n N2 hWN2 (by omega)) (Nat.le_of_ble_eq_true rfl) rfl rfl (Nat.le_of_ble_eq_true rfl) (Nat.le_of_ble_eq_true rfl) rfl ?_⟩
            rw [hln2, ← hLN.1]
            refine wpx_ok hS bk140 (sp := sp140) 60 138 _ _ _ _ ?_
            simp only [LCM, B2, Bool.not_eq_false, Bool.not_eq_true, decide_eq_true_eq, decide_eq_false_iff_not, Int.not_lt, Int.not_le, CST, TN, WX, WA, WB, GS, LOC, BT140, SP140, CLS, FLD, ARR, CD, true_and, and_true, and_self, forall_const, true_implies, false_implies, implies_true, not_true_eq_false, not_false_eq_true, if_true, if_false, rgI, rgL, scr, swl, lkl, cats, cat, is2, List.drop_succ_cons, List.drop_zero, List.drop_nil, List.cons_append, List.nil_append, Option.toList_some, Option.toList_none, List.length_cons, List.length_nil, ne_eq, Classical.not_not, reduceCtorEq, Nat.reduceAdd, Nat.reduceSub, Nat.reduceMul, Nat.reduceLT, Nat.reduceLeDiff, Nat.reduceEqDiff, Nat.reduceBEq, Int.reduceToNat, Int.reduceLE, Int.reduceLT, Int.reduceEq, Int.reduceNeg, Int.reduceAdd, Int.reduceSub, Int.reduceMul, Int.toNat_natCast, Nat.zero_add, Int.add_zero, Nat.add_zero, ite_true, ite_false, Option.some.injEq, Nat.le_refl, or_true, true_or, or_false, false_or, if_pos, reduceIte, Nat.reduceGT]
            rw [← Int.natCast_ediv, hnx, show (n : Int) + -1 = (n : Int) - 1 by omega]
            exact ⟨by omega, ihn N2 g' (by omega) hF2 e61' hg' hd'⟩
      refine wpx_ok hS bk140 (sp := sp140) 60 77 _ _ _ _ ?_
      simp only [LCM, B2, Bool.not_eq_false, Bool.not_eq_true, decide_eq_true_eq, decide_eq_false_iff_not, Int.not_lt, Int.not_le, CST, TN, WX, WA, WB, GS, LOC, BT140, SP140, CLS, FLD, ARR, CD, true_and, and_true, and_self, forall_const, true_implies, false_implies, implies_true, not_true_eq_false, not_false_eq_true, if_true, if_false, rgI, rgL, scr, swl, lkl, cats, cat, is2, List.drop_succ_cons, List.drop_zero, List.drop_nil, List.cons_append, List.nil_append, Option.toList_some, Option.toList_none, List.length_cons, List.length_nil, ne_eq, Classical.not_not, reduceCtorEq, Nat.reduceAdd, Nat.reduceSub, Nat.reduceMul, Nat.reduceLT, Nat.reduceLeDiff, Nat.reduceEqDiff, Nat.reduceBEq, Int.reduceToNat, Int.reduceLE, Int.reduceLT, Int.reduceEq, Int.reduceNeg, Int.reduceAdd, Int.reduceSub, Int.reduceMul, Int.toNat_natCast, Nat.zero_add, Int.add_zero, Nat.add_zero, ite_true, ite_false, Option.some.injEq, Nat.le_refl, or_true, true_or, or_false, false_or, if_pos, reduceIte, Nat.reduceGT]
      rw [hI.1 58 0 (by unfold stm; omega) (by decide)]
      refine ⟨by omega, fun h => by omega, fun h => ?_⟩
      have := loopC (hN M) N f (Nat.le_refl _) (fun _ _ _ => rfl) h61 hf (fun i h1 h2 => by omega)
      rw [Nat.sub_self, wp, Nat.div_one, hH.1] at this
      exact this
  have loopA : ∀ (n i : Nat) (N : MM), i + n = hN M → (∀ k j, ¬ stm k j → N k j = M k j) → N 55 25 = 0 → N 55 26 = 100 → (∀ x, x < i → N 74 x = M 61 (4 * x + 1) ∧ N 76 x = 0) → S 15 [some (vR 55), some (vI (b2i b)), some (vI (pw M i)), some (vI i), none, none] [] (sh0, 0, 0) N := by
    intro n
    induction n with
    | zero =>
      intro i N hi hF h25 h26 hlo
      have hii : i = hN M := by omega
      subst hii
      refine wpx_ok hS bk140 (sp := sp140) 60 15 _ _ _ _ ?_
      simp only [LCM, B2, Bool.not_eq_false, Bool.not_eq_true, decide_eq_true_eq, decide_eq_false_iff_not, Int.not_lt, Int.not_le, CST, TN, WX, WA, WB, GS, LOC, BT140, SP140, CLS, FLD, ARR, CD, true_and, and_true, and_self, forall_const, true_implies, false_implies, implies_true, not_true_eq_false, not_false_eq_true, if_true, if_false, rgI, rgL, scr, swl, lkl, cats, cat, is2, List.drop_succ_cons, List.drop_zero, List.drop_nil, List.cons_append, List.nil_append, Option.toList_some, Option.toList_none, List.length_cons, List.length_nil, ne_eq, Classical.not_not, reduceCtorEq, Nat.reduceAdd, Nat.reduceSub, Nat.reduceMul, Nat.reduceLT, Nat.reduceLeDiff, Nat.reduceEqDiff, Nat.reduceBEq, Int.reduceToNat, Int.reduceLE, Int.reduceLT, Int.reduceEq, Int.reduceNeg, Int.reduceAdd, Int.reduceSub, Int.reduceMul, Int.toNat_natCast, Nat.zero_add, Int.add_zero, Nat.add_zero, ite_true, ite_false, Option.some.injEq, Nat.le_refl, or_true, true_or, or_false, false_or, if_pos, reduceIte, Nat.reduceGT]
      rw [hF 58 0 (by unfold stm; omega)]
      refine ⟨by omega, fun h => ?_, fun h => by omega⟩
      have h61 : ∀ j, N 61 j = rT M (fun i => M 61 (4 * i + 1)) 61 j := fun j => by rw [rT_self]; exact hF 61 j (by unfold stm; omega)
      refine loopB (codes M) 0 N _ (by omega) ⟨fun k j h1 _ => hF k j h1, fun x hx => (hlo x hx).1, h25, by omega, fun h => absurd h (Int.lt_irrefl 0), fun x hx => (hlo x hx).2⟩ h61 (fun i hi _ => (hW.hs hi).2.1) _ _
    | succ n ih =>
      intro i N hi hF h25 h26 hlo
      have e64 : N 64 i = M 64 i := hF 64 i (by unfold stm; omega)
      have e61 : ∀ j, N 61 j = M 61 j := fun j => hF 61 j (by unfold stm; omega)
      have h01 := (hW.2.2.2.2.2.2.2.1 i (by omega)).1
      have hpw := pw_sm hW (n := i) (by omega)
      have hLN := LN_rg hW (i := i) (by omega)
      have nxt : ∀ v : Int, v = (pw M (i + 1) : Nat) → S 15 [some (vR 55), some (vI (b2i b)), some (vI v), some (vI ((i + 1 : Nat) : Int)), none, none] [] (sh0, 0, 0) (mset (mset N 74 i (N 61 (4 * i + 1))) 76 i 0) := by
        intro v hv
        rw [hv]
        refine ih (i + 1) _ (by omega) (fun k j hk => ?_) h25 h26 (fun x hx => ?_)
        · unfold stm at hk
          rw [ms_ne (by omega), ms_ne (by omega)]
          exact hF k j hk
        · by_cases hxi : x = i
          · subst hxi
            rw [ms_ne (by decide), ms_eq, ms_eq, e61]
            exact ⟨rfl, rfl⟩
          · rw [ms_ne (by decide), ms_nj hxi, ms_nj hxi, ms_ne (by decide)]
            exact hlo x (by omega)
      have hpt : pt (mset (mset N 74 i (N 61 (4 * i + 1))) 76 i 0) = pt M := pt_eq (fun k j h1 h2 => by
        rw [ms_ne (by omega), ms_ne (by omega)]
        exact hF k j (by unfold stm; omega))
      have hWN := WF_pt hpt hW
      refine wpx_ok hS bk140 (sp := sp140) 60 15 _ _ _ _ ?_
      simp only [LCM, B2, Bool.not_eq_false, Bool.not_eq_true, decide_eq_true_eq, decide_eq_false_iff_not, Int.not_lt, Int.not_le, CST, TN, WX, WA, WB, GS, LOC, BT140, SP140, CLS, FLD, ARR, CD, true_and, and_true, and_self, forall_const, true_implies, false_implies, implies_true, not_true_eq_false, not_false_eq_true, if_true, if_false, rgI, rgL, scr, swl, lkl, cats, cat, is2, List.drop_succ_cons, List.drop_zero, List.drop_nil, List.cons_append, List.nil_append, Option.toList_some, Option.toList_none, List.length_cons, List.length_nil, ne_eq, Classical.not_not, reduceCtorEq, Nat.reduceAdd, Nat.reduceSub, Nat.reduceMul, Nat.reduceLT, Nat.reduceLeDiff, Nat.reduceEqDiff, Nat.reduceBEq, Int.reduceToNat, Int.reduceLE, Int.reduceLT, Int.reduceEq, Int.reduceNeg, Int.reduceAdd, Int.reduceSub, Int.reduceMul, Int.toNat_natCast, Nat.zero_add, Int.add_zero, Nat.add_zero, ite_true, ite_false, Option.some.injEq, Nat.le_refl, or_true, true_or, or_false, false_or, if_pos, reduceIte, Nat.reduceGT, ms_ne, ms_eq, ms_nj]
      rw [hF 58 0 (by unfold stm; omega), e64]
      refine ⟨by omega, fun h => by omega, fun h => ⟨by omega, by omega, by omega, by omega, by omega, fun h1 => ?_, fun h1 => ?_⟩⟩
      · have hnb : newB M i = false := by unfold newB; exact decide_eq_false (by omega)
        exact nxt _ (by rw [pw]; unfold fac; rw [hnb]; simp)
      · have hnb : newB M i = true := by unfold newB; exact decide_eq_true (by omega)
        refine ⟨rcv_ok rfl own117 rfl, kI (m_weekOf i (mset (mset N 74 i (N 61 (4 * i + 1))) 76 i 0) hWN (by rw [← hN_pt, hpt, hN_pt]; omega)) (Nat.le_of_ble_eq_true rfl) rfl rfl (Nat.le_of_ble_eq_true rfl) (Nat.le_of_ble_eq_true rfl) rfl ?_⟩
        have hln : len (mset (mset N 74 i (N 61 (4 * i + 1))) 76 i 0) i = len M i := by
          show len (pt (mset (mset N 74 i (N 61 (4 * i + 1))) 76 i 0)) i = len (pt M) i
          rw [hpt]
        rw [hln]
        refine wpx_ok hS bk140 (sp := sp140) 60 63 _ _ _ _ ?_
        simp only [LCM, B2, Bool.not_eq_false, Bool.not_eq_true, decide_eq_true_eq, decide_eq_false_iff_not, Int.not_lt, Int.not_le, CST, TN, WX, WA, WB, GS, LOC, BT140, SP140, CLS, FLD, ARR, CD, true_and, and_true, and_self, forall_const, true_implies, false_implies, implies_true, not_true_eq_false, not_false_eq_true, if_true, if_false, rgI, rgL, scr, swl, lkl, cats, cat, is2, List.drop_succ_cons, List.drop_zero, List.drop_nil, List.cons_append, List.nil_append, Option.toList_some, Option.toList_none, List.length_cons, List.length_nil, ne_eq, Classical.not_not, reduceCtorEq, Nat.reduceAdd, Nat.reduceSub, Nat.reduceMul, Nat.reduceLT, Nat.reduceLeDiff, Nat.reduceEqDiff, Nat.reduceBEq, Int.reduceToNat, Int.reduceLE, Int.reduceLT, Int.reduceEq, Int.reduceNeg, Int.reduceAdd, Int.reduceSub, Int.reduceMul, Int.toNat_natCast, Nat.zero_add, Int.add_zero, Nat.add_zero, ite_true, ite_false, Option.some.injEq, Nat.le_refl, or_true, true_or, or_false, false_or, if_pos, reduceIte, Nat.reduceGT]
        refine nxt _ ?_
        rw [pw]
        unfold fac
        rw [hnb, if_pos rfl, Int.natCast_mul, hLN.1]
  refine wpx_ok hS bk140 (sp := sp140) 60 0 _ _ _ _ ?_
  simp only [LCM, B2, Bool.not_eq_false, Bool.not_eq_true, decide_eq_true_eq, decide_eq_false_iff_not, Int.not_lt, Int.not_le, CST, TN, WX, WA, WB, GS, LOC, BT140, SP140, CLS, FLD, ARR, CD, true_and, and_true, and_self, forall_const, true_implies, false_implies, implies_true, not_true_eq_false, not_false_eq_true, if_true, if_false, rgI, rgL, scr, swl, lkl, cats, cat, is2, List.drop_succ_cons, List.drop_zero, List.drop_nil, List.cons_append, List.nil_append, Option.toList_some, Option.toList_none, List.length_cons, List.length_nil, ne_eq, Classical.not_not, reduceCtorEq, Nat.reduceAdd, Nat.reduceSub, Nat.reduceMul, Nat.reduceLT, Nat.reduceLeDiff, Nat.reduceEqDiff, Nat.reduceBEq, Int.reduceToNat, Int.reduceLE, Int.reduceLT, Int.reduceEq, Int.reduceNeg, Int.reduceAdd, Int.reduceSub, Int.reduceMul, Int.toNat_natCast, Nat.zero_add, Int.add_zero, Nat.add_zero, ite_true, ite_false, Option.some.injEq, Nat.le_refl, or_true, true_or, or_false, false_or, if_pos, reduceIte, Nat.reduceGT]
  have := loopA (hN M) 0 (mset (mset M 55 25 0) 55 26 100) (by omega) (fun k j hk => ?_) rfl rfl (fun x hx => by omega)
  · exact this
  · unfold stm at hk
    unfold mset
    rw [if_neg (by omega), if_neg (by omega)]

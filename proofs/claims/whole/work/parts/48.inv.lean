/-! what the rows of the invariant hang on -/
def cor (k j : Nat) : Prop := (k = 57 ∧ j < 2) ∨ ((k = 58 ∨ k = 59 ∨ k = 60) ∧ j = 0) ∨ (k = 61 ∧ j < 40) ∨ (k = 63 ∧ j < 18) ∨ (k = 64 ∧ j < 10)
def sor (k j : Nat) : Prop := (k = 59 ∧ j = 0) ∨ (k = 55 ∧ j = 11) ∨ ((k = 65 ∨ k = 66 ∨ k = 67) ∧ j < 20)
def mor (k j : Nat) : Prop := (18 ≤ k ∧ k ≤ 25) ∨ (k = 26 ∧ (j = 2 ∨ j = 3 ∨ j = 6)) ∨ ((k = 27 ∨ k = 28) ∧ j < 10) ∨ ((k = 29 ∨ k = 30) ∧ j < 20)
theorem WFt.cg {T T' : MM} (h : WFt T) (e : ∀ k j, cor k j → T' k j = T k j) : WFt T' := by
  have hn : ∀ i, i < 10 → newB T' i = newB T i := fun i hi => by unfold newB; rw [e 64 i (by unfold cor; omega)]
  obtain ⟨a, b, c, d, f, g, w, n, m⟩ := h
  have e0 := e 57 0 (by unfold cor; omega)
  have e1 := e 57 1 (by unfold cor; omega)
  have e2 := e 58 0 (by unfold cor; omega)
  have e3 := e 59 0 (by unfold cor; omega)
  have e4 := e 60 0 (by unfold cor; omega)
  refine ⟨by rw [e0]; exact a, by rw [e1]; exact b, by rw [e2]; exact c, by rw [e3]; exact d, by rw [e4, e2]; exact f, fun i hi => ?_, fun x hx => ?_, fun i hi => ?_, by rw [cnt_eq hn]; exact m⟩
  · rw [e2] at hi
    have h1 := g i hi
    have hl : len T' i = len T i := by
      unfold len
      rw [e 61 (4 * i) (by unfold cor; omega)]
      rcases h1.1 with h2 | h2 <;> rw [h2]
      · exact e0
      · exact e1
    rw [hl, e 61 (4 * i) (by unfold cor; omega), e 61 (4 * i + 1) (by unfold cor; omega), e 61 (4 * i + 2) (by unfold cor; omega), e 61 (4 * i + 3) (by unfold cor; omega)]
    exact h1
  · rw [e3] at hx
    rw [e 63 (3 * x) (by unfold cor; omega), e 63 (3 * x + 1) (by unfold cor; omega), e 63 (3 * x + 2) (by unfold cor; omega)]
    exact w x hx
  · rw [e2, e 64 i (by unfold cor; omega)]
    exact n i hi
theorem WFs.cg {T T' : MM} (h : WFs T) (e : ∀ k j, sor k j → T' k j = T k j) : WFs T' := by
  obtain ⟨a, b⟩ := h
  have e0 := e 55 11 (by unfold sor; omega)
  have e1 := e 59 0 (by unfold sor; omega)
  refine ⟨by rw [e0]; exact a, fun k hk => ?_⟩
  rw [e0] at hk
  rw [e1, e 65 k (by unfold sor; omega), e 66 k (by unfold sor; omega), e 67 k (by unfold sor; omega)]
  exact b k hk
theorem RC.cg {M M' T T' : MM} (hW : WFt T) (h : RC M T) (em : ∀ k j, mor k j → M' k j = M k j) (e : ∀ k j, cor k j → T' k j = T k j) : RC M' T' := by
  have hH := hW.H
  have hWn := hW.W
  have eh : hN T' = hN T := by unfold hN; rw [e 58 0 (by unfold cor; omega)]
  have ew : wN T' = wN T := by unfold wN; rw [e 59 0 (by unfold cor; omega)]
  obtain ⟨⟨a1, a2, a3, a4, a5⟩, b, c, d, f, g⟩ := h
  refine ⟨⟨?_, ?_, ?_, ?_, ?_⟩, fun i hi => ?_, fun s hs => ?_, fun w hw => ?_, fun i hi => ?_, ?_⟩
  · rw [em _ _ (by unfold mor; omega), e _ _ (by unfold cor; omega)]; exact a1
  · rw [em _ _ (by unfold mor; omega), e _ _ (by unfold cor; omega)]; exact a2
  · rw [em _ _ (by unfold mor; omega), e _ _ (by unfold cor; omega)]; exact a3
  · rw [em _ _ (by unfold mor; omega), e _ _ (by unfold cor; omega)]; exact a4
  · rw [em _ _ (by unfold mor; omega), e _ _ (by unfold cor; omega)]; exact a5
  · rw [eh] at hi
    rw [em _ _ (by unfold mor; omega), em _ _ (by unfold mor; omega), e _ _ (by unfold cor; omega), e _ _ (by unfold cor; omega)]
    exact b i hi
  · rw [em _ _ (by unfold mor; omega), c s hs]
    refine mk_eq (fun i hi => ?_)
    unfold skP skB
    rw [eh, e _ _ (by unfold cor; omega)]
  · rw [ew] at hw
    rw [em _ _ (by unfold mor; omega), em _ _ (by unfold mor; omega), em _ _ (by unfold mor; omega), e _ _ (by unfold cor; omega), e _ _ (by unfold cor; omega), e _ _ (by unfold cor; omega)]
    exact d w hw
  · rw [eh] at hi
    rw [em _ _ (by unfold mor; omega), em _ _ (by unfold mor; omega), e _ _ (by unfold cor; omega), e _ _ (by unfold cor; omega)]
    exact f i hi
  · rw [em _ _ (by unfold mor; omega), g]
    refine mk_eq (fun i hi => ?_)
    unfold newP newB
    rw [e 64 i (by unfold cor; omega)]
theorem RS.cg {M M' T T' : MM} (hs : WFs T) (h : RS M T) (em : ∀ k j, mor k j → M' k j = M k j) (e : ∀ k j, sor k j → T' k j = T k j) : RS M' T' := by
  have hs1 := hs.1
  obtain ⟨a, b, q, c, d⟩ := h
  have e0 := e 55 11 (by unfold sor; omega)
  refine ⟨by rw [em _ _ (by unfold mor; omega), e0]; exact a, fun k hk => ?_, q, by rw [em _ _ (by unfold mor; omega)]; exact c, fun k hk => ?_⟩
  · rw [e0] at hk
    rw [em _ _ (by unfold mor; omega), em _ _ (by unfold mor; omega), e _ _ (by unfold sor; omega), e _ _ (by unfold sor; omega)]
    exact b k hk
  · rw [e0] at hk
    rw [e _ _ (by unfold sor; omega)]
    exact d k hk
/-- the town and the book in both -/
def BI (M T : MM) : Prop := WFt T ∧ WFs T ∧ RC M T ∧ RS M T
theorem BI.cg {M M' T T' : MM} (h : BI M T) (em : ∀ k j, mor k j → M' k j = M k j) (e1 : ∀ k j, cor k j → T' k j = T k j) (e2 : ∀ k j, sor k j → T' k j = T k j) : BI M' T' :=
  ⟨h.1.cg e1, h.2.1.cg e2, h.2.2.1.cg h.1 em e1, h.2.2.2.cg h.2.1 em e2⟩
/-- with the kept book number c for the book -/
def bkC (M : MM) (c : Nat) : MM := fun k j => if 26 ≤ k ∧ k ≤ 30 then M (k + 19 + 5 * c) j else M k j
def bkP (T : MM) (c a f s : Nat) : MM := fun k j =>
  if k = 61 ∧ j < 4 * a ∧ j % 4 = 0 then T 68 (20 * c + 2 * (j / 4))
  else if k = 61 ∧ j < 4 * a ∧ j % 4 = 1 then T 68 (20 * c + 2 * (j / 4) + 1)
  else if k = 64 ∧ j < a then T 69 (10 * c + j)
  else if k = 55 ∧ j = 11 ∧ f = 1 then T 70 c
  else if k = 65 ∧ j < s then T 71 (20 * c + j)
  else if k = 66 ∧ j < s then T 72 (20 * c + j)
  else if k = 67 ∧ j < s then T 73 (20 * c + j)
  else T k j
def bkT (T : MM) (c : Nat) : MM := bkP T c 10 1 20
/-- what the kept ones hang on -/
def kor (k j : Nat) : Prop := (18 ≤ k ∧ k ≤ 25) ∨ (45 ≤ k ∧ k ≤ 54) ∨ (k = 0 ∧ j = 8) ∨ (k = 55 ∧ j = 15) ∨ (k = 57 ∧ j < 2) ∨ ((k = 58 ∨ k = 59 ∨ k = 60) ∧ j = 0) ∨ (k = 61 ∧ j < 40 ∧ 2 ≤ j % 4) ∨ (k = 63 ∧ j < 18) ∨ (68 ≤ k ∧ k ≤ 73)
def KI (M : MM) : Prop := (0 ≤ M 55 15 ∧ M 55 15 ≤ 2 ∧ M 0 8 = M 55 15) ∧ ∀ c : Nat, (c : Int) < M 55 15 → BI (bkC M c) (bkT M c)
theorem bkC_cg {M M' : MM} {c : Nat} (hc : c < 2) (e : ∀ k j, kor k j → M' k j = M k j) : ∀ k j, mor k j → bkC M' c k j = bkC M c k j := by
  intro k j h
  unfold mor at h
  unfold bkC
  by_cases h1 : 26 ≤ k ∧ k ≤ 30
  · rw [if_pos h1, if_pos h1]; exact e _ _ (by unfold kor; omega)
  · rw [if_neg h1, if_neg h1]; exact e _ _ (by unfold kor; omega)
theorem bkP_61 (T : MM) (c : Nat) {j : Nat} (h : j < 40) : bkT T c 61 j = if j % 4 = 0 then T 68 (20 * c + 2 * (j / 4)) else if j % 4 = 1 then T 68 (20 * c + 2 * (j / 4) + 1) else T 61 j := by
  unfold bkT bkP
  by_cases h0 : j % 4 = 0
  · rw [if_pos ⟨rfl, by omega, h0⟩, if_pos h0]
  · rw [if_neg (by omega), if_neg h0]
    by_cases h1 : j % 4 = 1
    · rw [if_pos ⟨rfl, by omega, h1⟩, if_pos h1]
    · rw [if_neg (by omega), if_neg h1, if_neg (by omega), if_neg (by omega), if_neg (by omega), if_neg (by omega), if_neg (by omega)]
theorem bkP_64 (T : MM) (c : Nat) {j : Nat} (h : j < 10) : bkT T c 64 j = T 69 (10 * c + j) := by
  unfold bkT bkP
  rw [if_neg (by omega), if_neg (by omega), if_pos ⟨rfl, h⟩]
theorem bkP_11 (T : MM) (c : Nat) : bkT T c 55 11 = T 70 c := by
  unfold bkT bkP
  rw [if_neg (by omega), if_neg (by omega), if_neg (by omega), if_pos ⟨rfl, rfl, rfl⟩]
theorem bkP_sn (T : MM) (c : Nat) {j : Nat} (h : j < 20) : bkT T c 65 j = T 71 (20 * c + j) ∧ bkT T c 66 j = T 72 (20 * c + j) ∧ bkT T c 67 j = T 73 (20 * c + j) := by
  unfold bkT bkP
  refine ⟨?_, ?_, ?_⟩
  · rw [if_neg (by omega), if_neg (by omega), if_neg (by omega), if_neg (by omega), if_pos ⟨rfl, h⟩]
  · rw [if_neg (by omega), if_neg (by omega), if_neg (by omega), if_neg (by omega), if_neg (by omega), if_pos ⟨rfl, h⟩]
  · rw [if_neg (by omega), if_neg (by omega), if_neg (by omega), if_neg (by omega), if_neg (by omega), if_neg (by omega), if_pos ⟨rfl, h⟩]
theorem bkP_no (T : MM) (c : Nat) {k j : Nat} (h1 : k ≠ 61) (h2 : k ≠ 64) (h3 : ¬ (k = 55 ∧ j = 11)) (h4 : ¬ (65 ≤ k ∧ k ≤ 67)) : bkT T c k j = T k j := by
  unfold bkT bkP
  rw [if_neg (by omega), if_neg (by omega), if_neg (by omega), if_neg (by omega), if_neg (by omega), if_neg (by omega), if_neg (by omega)]
theorem bkT_cg {M M' : MM} {c : Nat} (e : ∀ k j, kor k j → M' k j = M k j) : (∀ k j, cor k j → bkT M' c k j = bkT M c k j) ∧ ∀ k j, sor k j → bkT M' c k j = bkT M c k j := by
  constructor
  · intro k j h
    unfold cor at h
    by_cases h1 : k = 61
    · subst h1
      rw [bkP_61 _ _ (by omega), bkP_61 _ _ (by omega)]
      by_cases h2 : j % 4 = 0
      · rw [if_pos h2, if_pos h2]; exact e _ _ (by unfold kor; omega)
      · rw [if_neg h2, if_neg h2]
        by_cases h3 : j % 4 = 1
        · rw [if_pos h3, if_pos h3]; exact e _ _ (by unfold kor; omega)
        · rw [if_neg h3, if_neg h3]; exact e _ _ (by unfold kor; omega)
    · by_cases h2 : k = 64
      · subst h2
        rw [bkP_64 _ _ (by omega), bkP_64 _ _ (by omega)]; exact e _ _ (by unfold kor; omega)
      · rw [bkP_no _ _ h1 h2 (by omega) (by omega), bkP_no _ _ h1 h2 (by omega) (by omega)]; exact e _ _ (by unfold kor; omega)
  · intro k j h
    unfold sor at h
    by_cases h1 : k = 59
    · rw [bkP_no _ _ (by omega) (by omega) (by omega) (by omega), bkP_no _ _ (by omega) (by omega) (by omega) (by omega)]; exact e _ _ (by unfold kor; omega)
    · by_cases h2 : k = 55
      · have h3 : j = 11 := by omega
        subst h2; subst h3
        rw [bkP_11, bkP_11]; exact e _ _ (by unfold kor; omega)
      · have h4 := bkP_sn M c (j := j) (by omega)
        have h5 := bkP_sn M' c (j := j) (by omega)
        have h6 : k = 65 ∨ k = 66 ∨ k = 67 := by omega
        rcases h6 with rfl | rfl | rfl
        · rw [h4.1, h5.1]; exact e _ _ (by unfold kor; omega)
        · rw [h4.2.1, h5.2.1]; exact e _ _ (by unfold kor; omega)
        · rw [h4.2.2, h5.2.2]; exact e _ _ (by unfold kor; omega)
theorem KI.cg {M M' : MM} (h : KI M) (e : ∀ k j, kor k j → M' k j = M k j) : KI M' := by
  obtain ⟨a, b⟩ := h
  have e0 := e 55 15 (by unfold kor; omega)
  refine ⟨by rw [e0, e 0 8 (by unfold kor; omega)]; exact a, fun c hc => ?_⟩
  rw [e0] at hc
  exact (b c hc).cg (bkC_cg (by omega) e) (bkT_cg e).1 (bkT_cg e).2
theorem x_seen (d w b : Int) (M T : MM) (hW : WFt T) (hs : WFs T) (hC : RC M T) (hRS : RS M T) (hd : rgL d) (hw : rgI w) (hb : b = 0 ∨ b = 1) : oQ 2 62 [vR 0, vL d, vI w, vI b] M (fun r M' => r = some (Sum.inl (f_seen T d w)) ∧ RS M' (g_seen T d w b) ∧ ∀ k j, ¬ (k = 29 ∨ k = 30 ∨ (k = 26 ∧ (j = 3 ∨ j = 6))) → M' k j = M k j) := by
  have hs1 := hs.1
  have bad : okSeen T d w = false → Rtn 62 0 0 (fun r sh M' => sh = sh0 ∧ r = some (Sum.inl (f_seen T d w)) ∧ RS M' (g_seen T d w b) ∧ ∀ k j, ¬ (k = 29 ∨ k = 30 ∨ (k = 26 ∧ (j = 3 ∨ j = 6))) → M' k j = M k j) (some (Sum.inl (-1))) (sh0, 0, 0) M := fun h =>
    rt62 ⟨rfl, by unfold f_seen; rw [h]; rfl, by unfold g_seen; rw [h]; exact hRS, fun _ _ _ => rfl⟩
  refine go62 (fun S hS => ?_)
  refine wpx_ok hS bk62 (sp := sp62) 60 0 _ _ _ _ ?_
  simp only [LCM, B2, Bool.not_eq_false, Bool.not_eq_true, decide_eq_true_eq, decide_eq_false_iff_not, Int.not_lt, Int.not_le, CST, TN, WX, WA, WB, GS, LOC, BT62, SP62, CLS, FLD, ARR, CD, true_and, and_true, and_self, forall_const, true_implies, false_implies, implies_true, not_true_eq_false, not_false_eq_true, if_true, if_false, rgI, rgL, scr, swl, lkl, cats, cat, is2, List.drop_succ_cons, List.drop_zero, List.drop_nil, List.cons_append, List.nil_append, Option.toList_some, Option.toList_none, List.length_cons, List.length_nil, ne_eq, Classical.not_not, reduceCtorEq, Nat.reduceAdd, Nat.reduceSub, Nat.reduceMul, Nat.reduceLT, Nat.reduceLeDiff, Nat.reduceEqDiff, Nat.reduceBEq, Int.reduceToNat, Int.reduceLE, Int.reduceLT, Int.reduceEq, Int.reduceNeg, Int.reduceAdd, Int.reduceSub, Int.reduceMul, Int.toNat_natCast, Nat.zero_add, Int.add_zero, Nat.add_zero, ite_true, ite_false, Option.some.injEq, Nat.le_refl, or_true, true_or, or_false, false_or, if_pos, reduceIte, Nat.reduceGT]
  refine kI (x_isDay d M hd) (Nat.le_of_ble_eq_true rfl) rfl rfl (Nat.le_of_ble_eq_true rfl) (Nat.le_of_ble_eq_true rfl) rfl ?_
  refine wpx_ok hS bk62 (sp := sp62) 60 4 _ _ _ _ ?_
  simp only [LCM, B2, Bool.not_eq_false, Bool.not_eq_true, decide_eq_true_eq, decide_eq_false_iff_not, Int.not_lt, Int.not_le, CST, TN, WX, WA, WB, GS, LOC, BT62, SP62, CLS, FLD, ARR, CD, true_and, and_true, and_self, forall_const, true_implies, false_implies, implies_true, not_true_eq_false, not_false_eq_true, if_true, if_false, rgI, rgL, scr, swl, lkl, cats, cat, is2, List.drop_succ_cons, List.drop_zero, List.drop_nil, List.cons_append, List.nil_append, Option.toList_some, Option.toList_none, List.length_cons, List.length_nil, ne_eq, Classical.not_not, reduceCtorEq, Nat.reduceAdd, Nat.reduceSub, Nat.reduceMul, Nat.reduceLT, Nat.reduceLeDiff, Nat.reduceEqDiff, Nat.reduceBEq, Int.reduceToNat, Int.reduceLE, Int.reduceLT, Int.reduceEq, Int.reduceNeg, Int.reduceAdd, Int.reduceSub, Int.reduceMul, Int.toNat_natCast, Nat.zero_add, Int.add_zero, Nat.add_zero, ite_true, ite_false, Option.some.injEq, Nat.le_refl, or_true, true_or, or_false, false_or, if_pos, reduceIte, Nat.reduceGT]
  refine ⟨fun h => bad (by unfold okSeen; rw [h]; rfl), fun h => ?_⟩
  refine ⟨rcv_ok rfl own74 rfl, kI (x_isWork w M T hC hW hw) (Nat.le_of_ble_eq_true rfl) rfl rfl (Nat.le_of_ble_eq_true rfl) (Nat.le_of_ble_eq_true rfl) rfl ?_⟩
  refine wpx_ok hS bk62 (sp := sp62) 60 12 _ _ _ _ ?_
  simp only [LCM, B2, Bool.not_eq_false, Bool.not_eq_true, decide_eq_true_eq, decide_eq_false_iff_not, Int.not_lt, Int.not_le, CST, TN, WX, WA, WB, GS, LOC, BT62, SP62, CLS, FLD, ARR, CD, true_and, and_true, and_self, forall_const, true_implies, false_implies, implies_true, not_true_eq_false, not_false_eq_true, if_true, if_false, rgI, rgL, scr, swl, lkl, cats, cat, is2, List.drop_succ_cons, List.drop_zero, List.drop_nil, List.cons_append, List.nil_append, Option.toList_some, Option.toList_none, List.length_cons, List.length_nil, ne_eq, Classical.not_not, reduceCtorEq, Nat.reduceAdd, Nat.reduceSub, Nat.reduceMul, Nat.reduceLT, Nat.reduceLeDiff, Nat.reduceEqDiff, Nat.reduceBEq, Int.reduceToNat, Int.reduceLE, Int.reduceLT, Int.reduceEq, Int.reduceNeg, Int.reduceAdd, Int.reduceSub, Int.reduceMul, Int.toNat_natCast, Nat.zero_add, Int.add_zero, Nat.add_zero, ite_true, ite_false, Option.some.injEq, Nat.le_refl, or_true, true_or, or_false, false_or, if_pos, reduceIte, Nat.reduceGT]
  rw [hRS.1]
  refine ⟨fun h1 => ?_, fun h1 => bad (by unfold okSeen; rw [decide_eq_false h1]; simp)⟩
  have hk : okSeen T d w = true := by unfold okSeen; rw [h, decide_eq_true h1]; rfl
  refine ⟨by omega, fun h2 => ?_, fun h2 => ?_⟩
  · refine ⟨rcv_ok rfl own5 rfl, kQ (x_addSeen d w b M T hs hRS (by omega) hb) (Nat.le_of_ble_eq_true rfl) rfl rfl (Nat.le_of_ble_eq_true rfl) (Nat.le_of_ble_eq_true rfl) rfl ?_⟩
    rintro r M' ⟨rfl, hR, hF⟩
    refine wpx_ok hS bk62 (sp := sp62) 60 43 _ _ _ _ ?_
    simp only [LCM, B2, Bool.not_eq_false, Bool.not_eq_true, decide_eq_true_eq, decide_eq_false_iff_not, Int.not_lt, Int.not_le, CST, TN, WX, WA, WB, GS, LOC, BT62, SP62, CLS, FLD, ARR, CD, true_and, and_true, and_self, forall_const, true_implies, false_implies, implies_true, not_true_eq_false, not_false_eq_true, if_true, if_false, rgI, rgL, scr, swl, lkl, cats, cat, is2, List.drop_succ_cons, List.drop_zero, List.drop_nil, List.cons_append, List.nil_append, Option.toList_some, Option.toList_none, List.length_cons, List.length_nil, ne_eq, Classical.not_not, reduceCtorEq, Nat.reduceAdd, Nat.reduceSub, Nat.reduceMul, Nat.reduceLT, Nat.reduceLeDiff, Nat.reduceEqDiff, Nat.reduceBEq, Int.reduceToNat, Int.reduceLE, Int.reduceLT, Int.reduceEq, Int.reduceNeg, Int.reduceAdd, Int.reduceSub, Int.reduceMul, Int.toNat_natCast, Nat.zero_add, Int.add_zero, Nat.add_zero, ite_true, ite_false, Option.some.injEq, Nat.le_refl, or_true, true_or, or_false, false_or, if_pos, reduceIte, Nat.reduceGT]
    refine rt62 ⟨rfl, ?_, ?_, hF⟩
    · rw [hR.1, ms_eq]
      unfold f_seen
      rw [hk, if_pos rfl, if_neg (by omega)]
    · unfold g_seen
      rw [if_pos ⟨hk, by omega⟩]
      exact hR
  · refine rt62 ⟨rfl, ?_, ?_, fun _ _ _ => rfl⟩
    · unfold f_seen; rw [hk, if_pos rfl, if_pos (by omega)]
    · unfold g_seen; rw [if_neg (fun z => z.2 (by omega))]; exact hRS
theorem x_forget (M T : MM) (hRS : RS M T) : oQ 1 63 [vR 0] M (fun r M' => r = some (Sum.inl (T 55 11)) ∧ M' = mset M 26 3 0) := by
  refine go63 (fun S hS => ?_)
  refine wpx_ok hS bk63 (sp := sp63) 60 0 _ _ _ _ ?_
  simp only [LCM, B2, Bool.not_eq_false, Bool.not_eq_true, decide_eq_true_eq, decide_eq_false_iff_not, Int.not_lt, Int.not_le, CST, TN, WX, WA, WB, GS, LOC, BT63, SP63, CLS, FLD, ARR, CD, true_and, and_true, and_self, forall_const, true_implies, false_implies, implies_true, not_true_eq_false, not_false_eq_true, if_true, if_false, rgI, rgL, scr, swl, lkl, cats, cat, is2, List.drop_succ_cons, List.drop_zero, List.drop_nil, List.cons_append, List.nil_append, Option.toList_some, Option.toList_none, List.length_cons, List.length_nil, ne_eq, Classical.not_not, reduceCtorEq, Nat.reduceAdd, Nat.reduceSub, Nat.reduceMul, Nat.reduceLT, Nat.reduceLeDiff, Nat.reduceEqDiff, Nat.reduceBEq, Int.reduceToNat, Int.reduceLE, Int.reduceLT, Int.reduceEq, Int.reduceNeg, Int.reduceAdd, Int.reduceSub, Int.reduceMul, Int.toNat_natCast, Nat.zero_add, Int.add_zero, Nat.add_zero, ite_true, ite_false, Option.some.injEq, Nat.le_refl, or_true, true_or, or_false, false_or, if_pos, reduceIte, Nat.reduceGT]
  rw [hRS.1]
  exact rt63 ⟨rfl, rfl, rfl⟩
theorem x_count (what : Int) (M T : MM) (hW : WFt T) (hC : RC M T) (hRS : RS M T) (hX : M 0 1 = T 55 0) (hK : M 0 8 = T 55 15) (hw : rgI what) : oI 2 71 [vR 0, vI what] M (f_count T what) := by
  refine go71 (fun S hS => ?_)
  refine wpx_ok hS bk71 (sp := sp71) 60 0 _ _ _ _ ?_
  simp only [LCM, B2, Bool.not_eq_false, Bool.not_eq_true, decide_eq_true_eq, decide_eq_false_iff_not, Int.not_lt, Int.not_le, CST, TN, WX, WA, WB, GS, LOC, BT71, SP71, CLS, FLD, ARR, CD, true_and, and_true, and_self, forall_const, true_implies, false_implies, implies_true, not_true_eq_false, not_false_eq_true, if_true, if_false, rgI, rgL, scr, swl, lkl, cats, cat, is2, List.drop_succ_cons, List.drop_zero, List.drop_nil, List.cons_append, List.nil_append, Option.toList_some, Option.toList_none, List.length_cons, List.length_nil, ne_eq, Classical.not_not, reduceCtorEq, Nat.reduceAdd, Nat.reduceSub, Nat.reduceMul, Nat.reduceLT, Nat.reduceLeDiff, Nat.reduceEqDiff, Nat.reduceBEq, Int.reduceToNat, Int.reduceLE, Int.reduceLT, Int.reduceEq, Int.reduceNeg, Int.reduceAdd, Int.reduceSub, Int.reduceMul, Int.toNat_natCast, Nat.zero_add, Int.add_zero, Nat.add_zero, ite_true, ite_false, Option.some.injEq, Nat.le_refl, or_true, true_or, or_false, false_or, if_pos, reduceIte, Nat.reduceGT]
  rw [hRS.1, hX, hK, hC.1.2.2.1, hC.1.2.2.2.1, hC.2.2.2.2.2]
  refine ⟨hw, fun h => ?_, fun h => ?_, fun h => ?_, fun h => ?_, fun h => ?_, fun h => ?_, fun h => ?_, fun h => ?_⟩
  · refine rt71 ⟨rfl, ?_, rfl⟩
    unfold f_count
    rw [if_neg (by omega), if_neg (by omega), if_neg (by omega), if_neg (by omega), if_neg (by omega), if_neg (by omega), if_neg (by omega)]
  · subst h; exact rt71 ⟨rfl, rfl, rfl⟩
  · subst h; exact rt71 ⟨rfl, rfl, rfl⟩
  · subst h; exact rt71 ⟨rfl, rfl, rfl⟩
  · refine kI (c_bitCount (newP T) M) (Nat.le_of_ble_eq_true rfl) rfl rfl (Nat.le_of_ble_eq_true rfl) (Nat.le_of_ble_eq_true rfl) rfl ?_
    refine wpx_ok hS bk71 (sp := sp71) 60 75 _ _ _ _ ?_
    simp only [LCM, B2, Bool.not_eq_false, Bool.not_eq_true, decide_eq_true_eq, decide_eq_false_iff_not, Int.not_lt, Int.not_le, CST, TN, WX, WA, WB, GS, LOC, BT71, SP71, CLS, FLD, ARR, CD, true_and, and_true, and_self, forall_const, true_implies, false_implies, implies_true, not_true_eq_false, not_false_eq_true, if_true, if_false, rgI, rgL, scr, swl, lkl, cats, cat, is2, List.drop_succ_cons, List.drop_zero, List.drop_nil, List.cons_append, List.nil_append, Option.toList_some, Option.toList_none, List.length_cons, List.length_nil, ne_eq, Classical.not_not, reduceCtorEq, Nat.reduceAdd, Nat.reduceSub, Nat.reduceMul, Nat.reduceLT, Nat.reduceLeDiff, Nat.reduceEqDiff, Nat.reduceBEq, Int.reduceToNat, Int.reduceLE, Int.reduceLT, Int.reduceEq, Int.reduceNeg, Int.reduceAdd, Int.reduceSub, Int.reduceMul, Int.toNat_natCast, Nat.zero_add, Int.add_zero, Nat.add_zero, ite_true, ite_false, Option.some.injEq, Nat.le_refl, or_true, true_or, or_false, false_or, if_pos, reduceIte, Nat.reduceGT]
    subst h
    refine rt71 ⟨rfl, ?_, rfl⟩
    rw [show f_count T 3 = cnt (newB T) (hN T) from rfl, ← (new3 hW).2]
    rfl
  · subst h; exact rt71 ⟨rfl, rfl, rfl⟩
  · subst h; exact rt71 ⟨rfl, rfl, rfl⟩
  · refine ⟨rcv_ok rfl own31 rfl, kI (x_period M T hC hW) (Nat.le_of_ble_eq_true rfl) rfl rfl (Nat.le_of_ble_eq_true rfl) (Nat.le_of_ble_eq_true rfl) rfl ?_⟩
    refine wpx_ok hS bk71 (sp := sp71) 60 96 _ _ _ _ ?_
    simp only [LCM, B2, Bool.not_eq_false, Bool.not_eq_true, decide_eq_true_eq, decide_eq_false_iff_not, Int.not_lt, Int.not_le, CST, TN, WX, WA, WB, GS, LOC, BT71, SP71, CLS, FLD, ARR, CD, true_and, and_true, and_self, forall_const, true_implies, false_implies, implies_true, not_true_eq_false, not_false_eq_true, if_true, if_false, rgI, rgL, scr, swl, lkl, cats, cat, is2, List.drop_succ_cons, List.drop_zero, List.drop_nil, List.cons_append, List.nil_append, Option.toList_some, Option.toList_none, List.length_cons, List.length_nil, ne_eq, Classical.not_not, reduceCtorEq, Nat.reduceAdd, Nat.reduceSub, Nat.reduceMul, Nat.reduceLT, Nat.reduceLeDiff, Nat.reduceEqDiff, Nat.reduceBEq, Int.reduceToNat, Int.reduceLE, Int.reduceLT, Int.reduceEq, Int.reduceNeg, Int.reduceAdd, Int.reduceSub, Int.reduceMul, Int.toNat_natCast, Nat.zero_add, Int.add_zero, Nat.add_zero, ite_true, ite_false, Option.some.injEq, Nat.le_refl, or_true, true_or, or_false, false_or, if_pos, reduceIte, Nat.reduceGT]
    subst h; exact rt71 ⟨rfl, rfl, rfl⟩

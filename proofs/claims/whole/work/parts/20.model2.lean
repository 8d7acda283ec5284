/-! weeks, days -/
def perN (a b : Nat) : Nat := Nat.lcm a b
def perQ (a b : Nat) : Nat := perN a b / a
def pfOK (a b : Nat) : Bool := decide (a < 2) || (decide (b < 2) || ((List.range (perQ a b)).all (fun k => decide (k = 0) || !decide ((a * k) % b = 0)) && (decide ((a * perQ a b) % b = 0) && (decide (a * perQ a b = perN a b) && (decide (1 ≤ perQ a b) && (decide (perQ a b ≤ 12) && (decide (perN a b ≤ 132) && (decide (2 ≤ perN a b) && (decide (perN a b % a = 0) && decide (perN a b % b = 0))))))))))
theorem pf_all : (List.range 13).all (fun a => (List.range 13).all (fun b => pfOK a b)) = true := by decide +kernel
theorem per_facts (a : Nat) (ha : a < 13) (ha2 : 2 ≤ a) (b : Nat) (hb : b < 13) (hb2 : 2 ≤ b) : (∀ k : Nat, k < perQ a b → 1 ≤ k → (a * k) % b ≠ 0) ∧ (a * perQ a b) % b = 0 ∧ a * perQ a b = perN a b ∧ 1 ≤ perQ a b ∧ perQ a b ≤ 12 ∧ perN a b ≤ 132 ∧ 2 ≤ perN a b ∧ perN a b % a = 0 ∧ perN a b % b = 0 := by
  have h := List.all_eq_true.mp (List.all_eq_true.mp pf_all a (List.mem_range.mpr ha)) b (List.mem_range.mpr hb)
  unfold pfOK at h
  rw [decide_eq_false (show ¬ a < 2 by omega), decide_eq_false (show ¬ b < 2 by omega), Bool.false_or, Bool.false_or] at h
  simp only [Bool.and_eq_true, decide_eq_true_eq] at h
  obtain ⟨h1, h2⟩ := h
  refine ⟨fun k hk hk1 => ?_, h2⟩
  have h3 := List.all_eq_true.mp h1 k (List.mem_range.mpr hk)
  rw [decide_eq_false (show ¬ k = 0 by omega), Bool.false_or] at h3
  simpa using h3
def PN (T : MM) : Nat := perN (T 57 0).toNat (T 57 1).toNat
theorem WFt.P {T : MM} (h : WFt T) : 2 ≤ PN T ∧ PN T ≤ 132 := by
  have h1 := h.1
  have h2 := h.2.1
  have := per_facts (T 57 0).toNat (by omega) (by omega) (T 57 1).toNat (by omega) (by omega)
  unfold PN
  omega
theorem WFt.Pl {T : MM} (h : WFt T) {i : Nat} (hi : i < hN T) : (PN T : Int) % len T i = 0 := by
  have h1 := h.1
  have h2 := h.2.1
  have hp := per_facts (T 57 0).toNat (by omega) (by omega) (T 57 1).toNat (by omega) (by omega)
  unfold len PN
  rcases (h.hs hi).1 with h3 | h3 <;> rw [h3]
  · have : T 57 0 = ((T 57 0).toNat : Int) := by omega
    show ((perN (T 57 0).toNat (T 57 1).toNat : Nat) : Int) % T 57 0 = 0
    rw [this, ← Int.natCast_emod]
    simp only [Int.toNat_natCast]
    rw [hp.2.2.2.2.2.2.2.1]
    rfl
  · have : T 57 1 = ((T 57 1).toNat : Int) := by omega
    show ((perN (T 57 0).toNat (T 57 1).toNat : Nat) : Int) % T 57 1 = 0
    rw [this, ← Int.natCast_emod]
    simp only [Int.toNat_natCast]
    rw [hp.2.2.2.2.2.2.2.2]
    rfl
theorem rsB_per {T : MM} (h : WFt T) {i : Nat} (hi : i < hN T) (d : Int) (k : Int) : rsB T (d + PN T * k) i = rsB T d i := by
  unfold rsB
  have h1 := h.Pl hi
  have h2 : (d + PN T * k) % len T i = d % len T i := by
    have h3 := h.ln hi
    obtain ⟨q, hq⟩ := Int.dvd_of_emod_eq_zero h1
    rw [hq, Int.mul_assoc, Int.add_mul_emod_self_left]
  rw [h2]
theorem hands_per {T : MM} (h : WFt T) (s : Nat) (d k : Int) : hands T s (d + PN T * k) = hands T s d := by
  unfold hands
  exact cnt_eq (fun i hi => by rw [rsB_per h hi])
theorem shrt_per {T : MM} (h : WFt T) (w : Nat) (d k : Int) : shrt T w (d + PN T * k) = shrt T w d := by
  unfold shrt
  rw [hands_per h]
theorem upM_per {T : MM} (h : WFt T) (d k : Int) : upM T (d + PN T * k) = upM T d := by
  unfold upM
  refine mk_eq (fun i _ => ?_)
  unfold upP
  by_cases hi : i < hN T
  · rw [rsB_per h hi]
  · simp [hi]
theorem m_period (M : MM) (hW : WFt M) : oI 1 119 [vR 55] M (PN M) := by
  have h1 := hW.1
  have h2 := hW.2.1
  obtain ⟨a, ha⟩ : ∃ a : Nat, M 57 0 = (a : Int) := ⟨(M 57 0).toNat, by omega⟩
  obtain ⟨b, hb⟩ : ∃ b : Nat, M 57 1 = (b : Int) := ⟨(M 57 1).toNat, by omega⟩
  obtain ⟨f1, f2, f3, f4, f5, f6, f7, f8, f9⟩ := per_facts a (by omega) (by omega) b (by omega) (by omega)
  have hPN : PN M = perN a b := by unfold PN; rw [ha, hb]; rfl
  refine go119 (fun S hS => ?_)
  have hmul : ∀ k, k ≤ perQ a b → a * k ≤ 132 := fun k hk => Nat.le_trans (Nat.mul_le_mul_left a hk) (by omega)
  have head : ∀ (n k : Nat), k + n = perQ a b → 1 ≤ k → S 7 [some (vR 55), some (vI ((a * k : Nat) : Int))] [] (sh0, 0, 0) M := by
    intro n
    induction n with
    | zero =>
      intro k hk hk1
      have := hmul k (by omega)
      refine wpx_ok hS bk119 (sp := sp119) 60 7 _ _ _ _ ?_
      simp only [LCM, B2, Bool.not_eq_false, Bool.not_eq_true, decide_eq_true_eq, decide_eq_false_iff_not, Int.not_lt, Int.not_le, CST, TN, WX, WA, WB, GS, LOC, BT119, SP119, CLS, FLD, ARR, CD, true_and, and_true, and_self, forall_const, true_implies, false_implies, implies_true, not_true_eq_false, not_false_eq_true, if_true, if_false, rgI, rgL, scr, swl, lkl, cats, cat, is2, List.drop_succ_cons, List.drop_zero, List.drop_nil, List.cons_append, List.nil_append, Option.toList_some, Option.toList_none, List.length_cons, List.length_nil, ne_eq, reduceCtorEq, Nat.reduceAdd, Nat.reduceSub, Nat.reduceMul, Nat.reduceLT, Nat.reduceLeDiff, Nat.reduceEqDiff, Nat.reduceBEq, Int.reduceToNat, Int.reduceLE, Int.reduceLT, Int.reduceEq, Int.reduceNeg, Int.reduceAdd, Int.reduceSub, Int.reduceMul, Int.toNat_natCast, Nat.zero_add, Int.add_zero, Nat.add_zero, ite_true, ite_false, Option.some.injEq, Nat.le_refl, or_true, true_or, or_false, false_or, if_pos, reduceIte, Nat.reduceGT]
      rw [hb]
      refine ⟨by omega, ?_, fun h => ?_, fun h => ?_⟩
      · have h3 : ((a * k : Nat) : Int) % (b : Int) = ((a * k % b : Nat) : Int) := by rw [Int.natCast_emod]
        have h4 : a * k % b < b := Nat.mod_lt _ (by omega)
        omega
      · refine rt119 ⟨rfl, ?_, rfl⟩
        rw [hPN, ← f3, show k = perQ a b by omega]
      · exfalso
        apply h
        rw [← Int.natCast_emod, show k = perQ a b by omega, f2]
        rfl
    | succ n ih =>
      intro k hk hk1
      have := hmul k (by omega)
      refine wpx_ok hS bk119 (sp := sp119) 60 7 _ _ _ _ ?_
      simp only [LCM, B2, Bool.not_eq_false, Bool.not_eq_true, decide_eq_true_eq, decide_eq_false_iff_not, Int.not_lt, Int.not_le, CST, TN, WX, WA, WB, GS, LOC, BT119, SP119, CLS, FLD, ARR, CD, true_and, and_true, and_self, forall_const, true_implies, false_implies, implies_true, not_true_eq_false, not_false_eq_true, if_true, if_false, rgI, rgL, scr, swl, lkl, cats, cat, is2, List.drop_succ_cons, List.drop_zero, List.drop_nil, List.cons_append, List.nil_append, Option.toList_some, Option.toList_none, List.length_cons, List.length_nil, ne_eq, reduceCtorEq, Nat.reduceAdd, Nat.reduceSub, Nat.reduceMul, Nat.reduceLT, Nat.reduceLeDiff, Nat.reduceEqDiff, Nat.reduceBEq, Int.reduceToNat, Int.reduceLE, Int.reduceLT, Int.reduceEq, Int.reduceNeg, Int.reduceAdd, Int.reduceSub, Int.reduceMul, Int.toNat_natCast, Nat.zero_add, Int.add_zero, Nat.add_zero, ite_true, ite_false, Option.some.injEq, Nat.le_refl, or_true, true_or, or_false, false_or, if_pos, reduceIte, Nat.reduceGT]
      rw [hb]
      have h3 : ((a * k : Nat) : Int) % (b : Int) = ((a * k % b : Nat) : Int) := by rw [Int.natCast_emod]
      have h4 : a * k % b < b := Nat.mod_lt _ (by omega)
      refine ⟨by omega, by omega, fun h => ?_, fun h => ?_⟩
      · exfalso
        exact f1 k (by omega) hk1 (by omega)
      · have h5 := ih (k + 1) (by omega) (by omega)
        rw [show ((a * (k + 1) : Nat) : Int) = ((a * k : Nat) : Int) + M 57 0 by rw [ha, Nat.mul_add]; omega] at h5
        exact h5
  refine wpx_ok hS bk119 (sp := sp119) 60 0 _ _ _ _ ?_
  simp only [LCM, B2, Bool.not_eq_false, Bool.not_eq_true, decide_eq_true_eq, decide_eq_false_iff_not, Int.not_lt, Int.not_le, CST, TN, WX, WA, WB, GS, LOC, BT119, SP119, CLS, FLD, ARR, CD, true_and, and_true, and_self, forall_const, true_implies, false_implies, implies_true, not_true_eq_false, not_false_eq_true, if_true, if_false, rgI, rgL, scr, swl, lkl, cats, cat, is2, List.drop_succ_cons, List.drop_zero, List.drop_nil, List.cons_append, List.nil_append, Option.toList_some, Option.toList_none, List.length_cons, List.length_nil, ne_eq, reduceCtorEq, Nat.reduceAdd, Nat.reduceSub, Nat.reduceMul, Nat.reduceLT, Nat.reduceLeDiff, Nat.reduceEqDiff, Nat.reduceBEq, Int.reduceToNat, Int.reduceLE, Int.reduceLT, Int.reduceEq, Int.reduceNeg, Int.reduceAdd, Int.reduceSub, Int.reduceMul, Int.toNat_natCast, Nat.zero_add, Int.add_zero, Nat.add_zero, ite_true, ite_false, Option.some.injEq, Nat.le_refl, or_true, true_or, or_false, false_or, if_pos, reduceIte, Nat.reduceGT]
  have h5 := head (perQ a b - 1) 1 (by omega) (Nat.le_refl _)
  rw [Nat.mul_one] at h5
  rw [ha]
  exact h5
theorem m_bits (p : Nat → Bool) (M : MM) : oI 1 121 [vI (mk p)] M (cnt p 10) := by
  refine go121 (fun S hS => ?_)
  have hm := mk_rg p
  have head : ∀ (n i : Nat), i + n = 10 → S 4 [some (vI (mk p)), some (vI (cnt p i)), some (vI i)] [] (sh0, 0, 0) M := by
    intro n
    induction n with
    | zero =>
      intro i hi
      refine wpx_ok hS bk121 (sp := sp121) 60 4 _ _ _ _ ?_
      simp only [LCM, B2, Bool.not_eq_false, Bool.not_eq_true, decide_eq_true_eq, decide_eq_false_iff_not, Int.not_lt, Int.not_le, CST, TN, WX, WA, WB, GS, LOC, BT121, SP121, CLS, FLD, ARR, CD, true_and, and_true, and_self, forall_const, true_implies, false_implies, implies_true, not_true_eq_false, not_false_eq_true, if_true, if_false, rgI, rgL, scr, swl, lkl, cats, cat, is2, List.drop_succ_cons, List.drop_zero, List.drop_nil, List.cons_append, List.nil_append, Option.toList_some, Option.toList_none, List.length_cons, List.length_nil, ne_eq, reduceCtorEq, Nat.reduceAdd, Nat.reduceSub, Nat.reduceMul, Nat.reduceLT, Nat.reduceLeDiff, Nat.reduceEqDiff, Nat.reduceBEq, Int.reduceToNat, Int.reduceLE, Int.reduceLT, Int.reduceEq, Int.reduceNeg, Int.reduceAdd, Int.reduceSub, Int.reduceMul, Int.toNat_natCast, Nat.zero_add, Int.add_zero, Nat.add_zero, ite_true, ite_false, Option.some.injEq, Nat.le_refl, or_true, true_or, or_false, false_or, if_pos, reduceIte, Nat.reduceGT]
      refine ⟨by omega, fun h => ?_, fun h => by omega⟩
      exact rt121 ⟨rfl, by rw [show i = 10 by omega], rfl⟩
    | succ n ih =>
      intro i hi
      refine wpx_ok hS bk121 (sp := sp121) 60 4 _ _ _ _ ?_
      simp only [LCM, B2, Bool.not_eq_false, Bool.not_eq_true, decide_eq_true_eq, decide_eq_false_iff_not, Int.not_lt, Int.not_le, CST, TN, WX, WA, WB, GS, LOC, BT121, SP121, CLS, FLD, ARR, CD, true_and, and_true, and_self, forall_const, true_implies, false_implies, implies_true, not_true_eq_false, not_false_eq_true, if_true, if_false, rgI, rgL, scr, swl, lkl, cats, cat, is2, List.drop_succ_cons, List.drop_zero, List.drop_nil, List.cons_append, List.nil_append, Option.toList_some, Option.toList_none, List.length_cons, List.length_nil, ne_eq, reduceCtorEq, Nat.reduceAdd, Nat.reduceSub, Nat.reduceMul, Nat.reduceLT, Nat.reduceLeDiff, Nat.reduceEqDiff, Nat.reduceBEq, Int.reduceToNat, Int.reduceLE, Int.reduceLT, Int.reduceEq, Int.reduceNeg, Int.reduceAdd, Int.reduceSub, Int.reduceMul, Int.toNat_natCast, Nat.zero_add, Int.add_zero, Nat.add_zero, ite_true, ite_false, Option.some.injEq, Nat.le_refl, or_true, true_or, or_false, false_or, if_pos, reduceIte, Nat.reduceGT]
      refine ⟨by omega, fun h => by omega, fun h => ?_⟩
      rw [mk_bit (by omega)]
      exact ih (i + 1) (by omega)
  refine wpx_ok hS bk121 (sp := sp121) 60 0 _ _ _ _ ?_
  simp only [LCM, B2, Bool.not_eq_false, Bool.not_eq_true, decide_eq_true_eq, decide_eq_false_iff_not, Int.not_lt, Int.not_le, CST, TN, WX, WA, WB, GS, LOC, BT121, SP121, CLS, FLD, ARR, CD, true_and, and_true, and_self, forall_const, true_implies, false_implies, implies_true, not_true_eq_false, not_false_eq_true, if_true, if_false, rgI, rgL, scr, swl, lkl, cats, cat, is2, List.drop_succ_cons, List.drop_zero, List.drop_nil, List.cons_append, List.nil_append, Option.toList_some, Option.toList_none, List.length_cons, List.length_nil, ne_eq, reduceCtorEq, Nat.reduceAdd, Nat.reduceSub, Nat.reduceMul, Nat.reduceLT, Nat.reduceLeDiff, Nat.reduceEqDiff, Nat.reduceBEq, Int.reduceToNat, Int.reduceLE, Int.reduceLT, Int.reduceEq, Int.reduceNeg, Int.reduceAdd, Int.reduceSub, Int.reduceMul, Int.toNat_natCast, Nat.zero_add, Int.add_zero, Nat.add_zero, ite_true, ite_false, Option.some.injEq, Nat.le_refl, or_true, true_or, or_false, false_or, if_pos, reduceIte, Nat.reduceGT]
  exact head 10 0 (by omega)
theorem m_handsOn (s : Nat) (d : Int) (M : MM) (hW : WFt M) (hs : s < 5) (hd : 0 ≤ d ∧ d ≤ 100000000000000000) : oI 3 122 [vR 55, vI s, vL d] M (hands M s d) := by
  have hH := hW.H
  refine go122 (fun S hS => ?_)
  have head : ∀ (n i : Nat), i + n = hN M → S 6 [some (vR 55), some (vI s), some (vL d), none, some (vI (cnt (fun i => skB M s i && !rsB M d i) i)), some (vI i)] [] (sh0, 0, 0) M := by
    intro n
    induction n with
    | zero =>
      intro i hi
      refine wpx_ok hS bk122 (sp := sp122) 60 6 _ _ _ _ ?_
      simp only [LCM, B2, Bool.not_eq_false, Bool.not_eq_true, decide_eq_true_eq, decide_eq_false_iff_not, Int.not_lt, Int.not_le, CST, TN, WX, WA, WB, GS, LOC, BT122, SP122, CLS, FLD, ARR, CD, true_and, and_true, and_self, forall_const, true_implies, false_implies, implies_true, not_true_eq_false, not_false_eq_true, if_true, if_false, rgI, rgL, scr, swl, lkl, cats, cat, is2, List.drop_succ_cons, List.drop_zero, List.drop_nil, List.cons_append, List.nil_append, Option.toList_some, Option.toList_none, List.length_cons, List.length_nil, ne_eq, reduceCtorEq, Nat.reduceAdd, Nat.reduceSub, Nat.reduceMul, Nat.reduceLT, Nat.reduceLeDiff, Nat.reduceEqDiff, Nat.reduceBEq, Int.reduceToNat, Int.reduceLE, Int.reduceLT, Int.reduceEq, Int.reduceNeg, Int.reduceAdd, Int.reduceSub, Int.reduceMul, Int.toNat_natCast, Nat.zero_add, Int.add_zero, Nat.add_zero, ite_true, ite_false, Option.some.injEq, Nat.le_refl, or_true, true_or, or_false, false_or, if_pos, reduceIte, Nat.reduceGT]
      refine ⟨by omega, fun h => ?_, fun h => by omega⟩
      exact rt122 ⟨rfl, by unfold hands; rw [show i = hN M by omega], rfl⟩
    | succ n ih =>
      intro i hi
      have ih2 := ih (i + 1) (by omega)
      have hst : cnt (fun i => skB M s i && !rsB M d i) (i + 1) = cnt (fun i => skB M s i && !rsB M d i) i + b2i (skB M s i && !rsB M d i) := rfl
      rw [hst] at ih2
      refine wpx_ok hS bk122 (sp := sp122) 60 6 _ _ _ _ ?_
      simp only [LCM, B2, Bool.not_eq_false, Bool.not_eq_true, decide_eq_true_eq, decide_eq_false_iff_not, Int.not_lt, Int.not_le, CST, TN, WX, WA, WB, GS, LOC, BT122, SP122, CLS, FLD, ARR, CD, true_and, and_true, and_self, forall_const, true_implies, false_implies, implies_true, not_true_eq_false, not_false_eq_true, if_true, if_false, rgI, rgL, scr, swl, lkl, cats, cat, is2, List.drop_succ_cons, List.drop_zero, List.drop_nil, List.cons_append, List.nil_append, Option.toList_some, Option.toList_none, List.length_cons, List.length_nil, ne_eq, reduceCtorEq, Nat.reduceAdd, Nat.reduceSub, Nat.reduceMul, Nat.reduceLT, Nat.reduceLeDiff, Nat.reduceEqDiff, Nat.reduceBEq, Int.reduceToNat, Int.reduceLE, Int.reduceLT, Int.reduceEq, Int.reduceNeg, Int.reduceAdd, Int.reduceSub, Int.reduceMul, Int.toNat_natCast, Nat.zero_add, Int.add_zero, Nat.add_zero, ite_true, ite_false, Option.some.injEq, Nat.le_refl, or_true, true_or, or_false, false_or, if_pos, reduceIte, Nat.reduceGT]
      have hb : -1 ≤ bAnd (bShr (M 61 (4 * i + 2)) (s : Int)) 1 ∧ bAnd (bShr (M 61 (4 * i + 2)) (s : Int)) 1 ≤ 2 := by
        have h1 := (hW.hs (i := i) (by omega)).2.2.1
        obtain ⟨x, hx⟩ : ∃ x : Nat, M 61 (4 * i + 2) = (x : Int) := ⟨(M 61 (4 * i + 2)).toNat, by omega⟩
        rw [hx, bShr_nat (by omega) (by omega)]
        split <;> omega
      refine ⟨by omega, fun h => by omega, fun h => ⟨by omega, by omega, fun h1 => ?_, fun h1 => ?_⟩⟩
      · have h2 : skB M s i = false := by unfold skB; exact decide_eq_false h1
        rw [h2, Bool.false_and, show b2i false = 0 from rfl, Int.add_zero] at ih2
        exact ih2
      · have h2 : skB M s i = true := by unfold skB; exact decide_eq_true h1
        rw [h2, Bool.true_and] at ih2
        refine ⟨rcv_ok rfl own118 rfl, kI (m_isUp i d M hW (by omega) hd) (Nat.le_of_ble_eq_true rfl) rfl rfl (Nat.le_of_ble_eq_true rfl) (Nat.le_of_ble_eq_true rfl) rfl ?_⟩
        refine wpx_ok hS bk122 (sp := sp122) 60 45 _ _ _ _ ?_
        simp only [LCM, B2, Bool.not_eq_false, Bool.not_eq_true, decide_eq_true_eq, decide_eq_false_iff_not, Int.not_lt, Int.not_le, CST, TN, WX, WA, WB, GS, LOC, BT122, SP122, CLS, FLD, ARR, CD, true_and, and_true, and_self, forall_const, true_implies, false_implies, implies_true, not_true_eq_false, not_false_eq_true, if_true, if_false, rgI, rgL, scr, swl, lkl, cats, cat, is2, List.drop_succ_cons, List.drop_zero, List.drop_nil, List.cons_append, List.nil_append, Option.toList_some, Option.toList_none, List.length_cons, List.length_nil, ne_eq, reduceCtorEq, Nat.reduceAdd, Nat.reduceSub, Nat.reduceMul, Nat.reduceLT, Nat.reduceLeDiff, Nat.reduceEqDiff, Nat.reduceBEq, Int.reduceToNat, Int.reduceLE, Int.reduceLT, Int.reduceEq, Int.reduceNeg, Int.reduceAdd, Int.reduceSub, Int.reduceMul, Int.toNat_natCast, Nat.zero_add, Int.add_zero, Nat.add_zero, ite_true, ite_false, Option.some.injEq, Nat.le_refl, or_true, true_or, or_false, false_or, if_pos, reduceIte, Nat.reduceGT]
        refine ⟨fun h3 => ?_, fun h3 => ?_⟩
        · rw [h3, show b2i false = 0 from rfl, Int.add_zero] at ih2
          exact ih2
        · rw [h3] at ih2
          exact ih2
  refine wpx_ok hS bk122 (sp := sp122) 60 0 _ _ _ _ ?_
  simp only [LCM, B2, Bool.not_eq_false, Bool.not_eq_true, decide_eq_true_eq, decide_eq_false_iff_not, Int.not_lt, Int.not_le, CST, TN, WX, WA, WB, GS, LOC, BT122, SP122, CLS, FLD, ARR, CD, true_and, and_true, and_self, forall_const, true_implies, false_implies, implies_true, not_true_eq_false, not_false_eq_true, if_true, if_false, rgI, rgL, scr, swl, lkl, cats, cat, is2, List.drop_succ_cons, List.drop_zero, List.drop_nil, List.cons_append, List.nil_append, Option.toList_some, Option.toList_none, List.length_cons, List.length_nil, ne_eq, reduceCtorEq, Nat.reduceAdd, Nat.reduceSub, Nat.reduceMul, Nat.reduceLT, Nat.reduceLeDiff, Nat.reduceEqDiff, Nat.reduceBEq, Int.reduceToNat, Int.reduceLE, Int.reduceLT, Int.reduceEq, Int.reduceNeg, Int.reduceAdd, Int.reduceSub, Int.reduceMul, Int.toNat_natCast, Nat.zero_add, Int.add_zero, Nat.add_zero, ite_true, ite_false, Option.some.injEq, Nat.le_refl, or_true, true_or, or_false, false_or, if_pos, reduceIte, Nat.reduceGT]
  exact head (hN M) 0 (by omega)
theorem hands_rg {T : MM} (h : WFt T) (s : Nat) (d : Int) : 0 ≤ hands T s d ∧ hands T s d ≤ 10 := by
  have h1 := cnt_rg (fun i => skB T s i && !rsB T d i) (hN T)
  have h2 := h.H
  unfold hands
  omega
theorem m_isShort (w : Nat) (d : Int) (M : MM) (hW : WFt M) (hw : w < wN M) (hd : 0 ≤ d ∧ d ≤ 100000000000000000) : oI 4 125 [vR 55, vI w, vL d] M (b2i (shrt M w d)) := by
  have hw1 := hW.wk hw
  have hw2 := hW.W
  refine go125 (fun S hS => ?_)
  refine wpx_ok hS bk125 (sp := sp125) 60 0 _ _ _ _ ?_
  simp only [LCM, B2, Bool.not_eq_false, Bool.not_eq_true, decide_eq_true_eq, decide_eq_false_iff_not, Int.not_lt, Int.not_le, CST, TN, WX, WA, WB, GS, LOC, BT125, SP125, CLS, FLD, ARR, CD, true_and, and_true, and_self, forall_const, true_implies, false_implies, implies_true, not_true_eq_false, not_false_eq_true, if_true, if_false, rgI, rgL, scr, swl, lkl, cats, cat, is2, List.drop_succ_cons, List.drop_zero, List.drop_nil, List.cons_append, List.nil_append, Option.toList_some, Option.toList_none, List.length_cons, List.length_nil, ne_eq, reduceCtorEq, Nat.reduceAdd, Nat.reduceSub, Nat.reduceMul, Nat.reduceLT, Nat.reduceLeDiff, Nat.reduceEqDiff, Nat.reduceBEq, Int.reduceToNat, Int.reduceLE, Int.reduceLT, Int.reduceEq, Int.reduceNeg, Int.reduceAdd, Int.reduceSub, Int.reduceMul, Int.toNat_natCast, Nat.zero_add, Int.add_zero, Nat.add_zero, ite_true, ite_false, Option.some.injEq, Nat.le_refl, or_true, true_or, or_false, false_or, if_pos, reduceIte, Nat.reduceGT]
  refine ⟨by omega, ?_⟩
  have e1 : M 63 (3 * w) = ((M 63 (3 * w)).toNat : Int) := by omega
  rw [e1]
  refine ⟨rcv_ok rfl own122 rfl, kI (m_handsOn (M 63 (3 * w)).toNat d M hW (by omega) hd) (Nat.le_of_ble_eq_true rfl) rfl rfl (Nat.le_of_ble_eq_true rfl) (Nat.le_of_ble_eq_true rfl) rfl ?_⟩
  refine wpx_ok hS bk125 (sp := sp125) 60 13 _ _ _ _ ?_
  simp only [LCM, B2, Bool.not_eq_false, Bool.not_eq_true, decide_eq_true_eq, decide_eq_false_iff_not, Int.not_lt, Int.not_le, CST, TN, WX, WA, WB, GS, LOC, BT125, SP125, CLS, FLD, ARR, CD, true_and, and_true, and_self, forall_const, true_implies, false_implies, implies_true, not_true_eq_false, not_false_eq_true, if_true, if_false, rgI, rgL, scr, swl, lkl, cats, cat, is2, List.drop_succ_cons, List.drop_zero, List.drop_nil, List.cons_append, List.nil_append, Option.toList_some, Option.toList_none, List.length_cons, List.length_nil, ne_eq, reduceCtorEq, Nat.reduceAdd, Nat.reduceSub, Nat.reduceMul, Nat.reduceLT, Nat.reduceLeDiff, Nat.reduceEqDiff, Nat.reduceBEq, Int.reduceToNat, Int.reduceLE, Int.reduceLT, Int.reduceEq, Int.reduceNeg, Int.reduceAdd, Int.reduceSub, Int.reduceMul, Int.toNat_natCast, Nat.zero_add, Int.add_zero, Nat.add_zero, ite_true, ite_false, Option.some.injEq, Nat.le_refl, or_true, true_or, or_false, false_or, if_pos, reduceIte, Nat.reduceGT]
  have hr := hands_rg hW (M 63 (3 * w)).toNat d
  refine ⟨by omega, by omega, fun h => ?_, fun h => ?_⟩
  · exact rt125 (by decide) ⟨rfl, by unfold shrt; rw [decide_eq_false (by omega)]; rfl, rfl⟩
  · exact rt125 (by decide) ⟨rfl, by unfold shrt; rw [decide_eq_true (by omega)]; rfl, rfl⟩
def shO (T : MM) (d : Int) : Option Nat := fstF (fun w => shrt T w d) 0 (wN T)
def oZ (x : Option Nat) (e : Int) : Int := match x with
  | some w => (w : Int)
  | none => e
theorem m_shortOn (d : Int) (M : MM) (hW : WFt M) (hd : 0 ≤ d ∧ d ≤ 100000000000000000) : oI 5 126 [vR 55, vL d] M (oZ (shO M d) (-1)) := by
  have hw2 := hW.W
  refine go126 (fun S hS => ?_)
  have head : ∀ (n i : Nat), i + n = wN M → fstF (fun w => shrt M w d) i n = shO M d → S 2 [some (vR 55), some (vL d), none, some (vI i)] [] (sh0, 0, 0) M := by
    intro n
    induction n with
    | zero =>
      intro i hi hf
      refine wpx_ok hS bk126 (sp := sp126) 60 2 _ _ _ _ ?_
      simp only [LCM, B2, Bool.not_eq_false, Bool.not_eq_true, decide_eq_true_eq, decide_eq_false_iff_not, Int.not_lt, Int.not_le, CST, TN, WX, WA, WB, GS, LOC, BT126, SP126, CLS, FLD, ARR, CD, true_and, and_true, and_self, forall_const, true_implies, false_implies, implies_true, not_true_eq_false, not_false_eq_true, if_true, if_false, rgI, rgL, scr, swl, lkl, cats, cat, is2, List.drop_succ_cons, List.drop_zero, List.drop_nil, List.cons_append, List.nil_append, Option.toList_some, Option.toList_none, List.length_cons, List.length_nil, ne_eq, reduceCtorEq, Nat.reduceAdd, Nat.reduceSub, Nat.reduceMul, Nat.reduceLT, Nat.reduceLeDiff, Nat.reduceEqDiff, Nat.reduceBEq, Int.reduceToNat, Int.reduceLE, Int.reduceLT, Int.reduceEq, Int.reduceNeg, Int.reduceAdd, Int.reduceSub, Int.reduceMul, Int.toNat_natCast, Nat.zero_add, Int.add_zero, Nat.add_zero, ite_true, ite_false, Option.some.injEq, Nat.le_refl, or_true, true_or, or_false, false_or, if_pos, reduceIte, Nat.reduceGT]
      refine ⟨by omega, fun h => ?_, fun h => by omega⟩
      exact rt126 ⟨rfl, by rw [← hf]; rfl, rfl⟩
    | succ n ih =>
      intro i hi hf
      rw [fstF] at hf
      refine wpx_ok hS bk126 (sp := sp126) 60 2 _ _ _ _ ?_
      simp only [LCM, B2, Bool.not_eq_false, Bool.not_eq_true, decide_eq_true_eq, decide_eq_false_iff_not, Int.not_lt, Int.not_le, CST, TN, WX, WA, WB, GS, LOC, BT126, SP126, CLS, FLD, ARR, CD, true_and, and_true, and_self, forall_const, true_implies, false_implies, implies_true, not_true_eq_false, not_false_eq_true, if_true, if_false, rgI, rgL, scr, swl, lkl, cats, cat, is2, List.drop_succ_cons, List.drop_zero, List.drop_nil, List.cons_append, List.nil_append, Option.toList_some, Option.toList_none, List.length_cons, List.length_nil, ne_eq, reduceCtorEq, Nat.reduceAdd, Nat.reduceSub, Nat.reduceMul, Nat.reduceLT, Nat.reduceLeDiff, Nat.reduceEqDiff, Nat.reduceBEq, Int.reduceToNat, Int.reduceLE, Int.reduceLT, Int.reduceEq, Int.reduceNeg, Int.reduceAdd, Int.reduceSub, Int.reduceMul, Int.toNat_natCast, Nat.zero_add, Int.add_zero, Nat.add_zero, ite_true, ite_false, Option.some.injEq, Nat.le_refl, or_true, true_or, or_false, false_or, if_pos, reduceIte, Nat.reduceGT]
      refine ⟨by omega, fun h => by omega, fun h => ?_⟩
      refine ⟨rcv_ok rfl own125 rfl, kI (m_isShort i d M hW (by omega) hd) (Nat.le_of_ble_eq_true rfl) rfl rfl (Nat.le_of_ble_eq_true rfl) (Nat.le_of_ble_eq_true rfl) rfl ?_⟩
      refine wpx_ok hS bk126 (sp := sp126) 60 18 _ _ _ _ ?_
      simp only [LCM, B2, Bool.not_eq_false, Bool.not_eq_true, decide_eq_true_eq, decide_eq_false_iff_not, Int.not_lt, Int.not_le, CST, TN, WX, WA, WB, GS, LOC, BT126, SP126, CLS, FLD, ARR, CD, true_and, and_true, and_self, forall_const, true_implies, false_implies, implies_true, not_true_eq_false, not_false_eq_true, if_true, if_false, rgI, rgL, scr, swl, lkl, cats, cat, is2, List.drop_succ_cons, List.drop_zero, List.drop_nil, List.cons_append, List.nil_append, Option.toList_some, Option.toList_none, List.length_cons, List.length_nil, ne_eq, reduceCtorEq, Nat.reduceAdd, Nat.reduceSub, Nat.reduceMul, Nat.reduceLT, Nat.reduceLeDiff, Nat.reduceEqDiff, Nat.reduceBEq, Int.reduceToNat, Int.reduceLE, Int.reduceLT, Int.reduceEq, Int.reduceNeg, Int.reduceAdd, Int.reduceSub, Int.reduceMul, Int.toNat_natCast, Nat.zero_add, Int.add_zero, Nat.add_zero, ite_true, ite_false, Option.some.injEq, Nat.le_refl, or_true, true_or, or_false, false_or, if_pos, reduceIte, Nat.reduceGT]
      refine ⟨fun h1 => ?_, fun h1 => ?_⟩
      · rw [h1] at hf
        exact ih (i + 1) (by omega) hf
      · rw [h1, if_pos rfl] at hf
        exact rt126 ⟨rfl, by rw [← hf]; rfl, rfl⟩
  refine wpx_ok hS bk126 (sp := sp126) 60 0 _ _ _ _ ?_
  simp only [LCM, B2, Bool.not_eq_false, Bool.not_eq_true, decide_eq_true_eq, decide_eq_false_iff_not, Int.not_lt, Int.not_le, CST, TN, WX, WA, WB, GS, LOC, BT126, SP126, CLS, FLD, ARR, CD, true_and, and_true, and_self, forall_const, true_implies, false_implies, implies_true, not_true_eq_false, not_false_eq_true, if_true, if_false, rgI, rgL, scr, swl, lkl, cats, cat, is2, List.drop_succ_cons, List.drop_zero, List.drop_nil, List.cons_append, List.nil_append, Option.toList_some, Option.toList_none, List.length_cons, List.length_nil, ne_eq, reduceCtorEq, Nat.reduceAdd, Nat.reduceSub, Nat.reduceMul, Nat.reduceLT, Nat.reduceLeDiff, Nat.reduceEqDiff, Nat.reduceBEq, Int.reduceToNat, Int.reduceLE, Int.reduceLT, Int.reduceEq, Int.reduceNeg, Int.reduceAdd, Int.reduceSub, Int.reduceMul, Int.toNat_natCast, Nat.zero_add, Int.add_zero, Nat.add_zero, ite_true, ite_false, Option.some.injEq, Nat.le_refl, or_true, true_or, or_false, false_or, if_pos, reduceIte, Nat.reduceGT]
  exact head (wN M) 0 (by omega) rfl
def isSetB (T : MM) (x : Int) : Bool := decide (1 ≤ x ∧ x ≤ bShl 1 (T 58 0) - 1)
theorem bShl_H {T : MM} (h : WFt T) : 1 ≤ bShl 1 (T 58 0) - 1 ∧ bShl 1 (T 58 0) - 1 ≤ 1023 := by
  have h1 := h.H
  rw [← h1.1]
  have : ∀ i : Nat, i < 11 → 1 ≤ i → 1 ≤ bShl 1 (i : Int) - 1 ∧ bShl 1 (i : Int) - 1 ≤ 1023 := by decide +kernel
  exact this (hN T) (by omega) (by omega)
theorem m_isSet (x : Int) (M : MM) (hW : WFt M) (hx : rgI x) : oI 2 129 [vR 55, vI x] M (b2i (isSetB M x)) := by
  have hb := bShl_H hW
  refine go129 (fun S hS => ?_)
  refine wpx_ok hS bk129 (sp := sp129) 60 0 _ _ _ _ ?_
  simp only [LCM, B2, Bool.not_eq_false, Bool.not_eq_true, decide_eq_true_eq, decide_eq_false_iff_not, Int.not_lt, Int.not_le, CST, TN, WX, WA, WB, GS, LOC, BT129, SP129, CLS, FLD, ARR, CD, true_and, and_true, and_self, forall_const, true_implies, false_implies, implies_true, not_true_eq_false, not_false_eq_true, if_true, if_false, rgI, rgL, scr, swl, lkl, cats, cat, is2, List.drop_succ_cons, List.drop_zero, List.drop_nil, List.cons_append, List.nil_append, Option.toList_some, Option.toList_none, List.length_cons, List.length_nil, ne_eq, reduceCtorEq, Nat.reduceAdd, Nat.reduceSub, Nat.reduceMul, Nat.reduceLT, Nat.reduceLeDiff, Nat.reduceEqDiff, Nat.reduceBEq, Int.reduceToNat, Int.reduceLE, Int.reduceLT, Int.reduceEq, Int.reduceNeg, Int.reduceAdd, Int.reduceSub, Int.reduceMul, Int.toNat_natCast, Nat.zero_add, Int.add_zero, Nat.add_zero, ite_true, ite_false, Option.some.injEq, Nat.le_refl, or_true, true_or, or_false, false_or, if_pos, reduceIte, Nat.reduceGT]
  refine ⟨hx, by omega, ?_⟩
  refine kI (c_in x 1 (bShl 1 (M 58 0) - 1) M (by unfold rgL rgI at *; omega) (by unfold rgL; omega) (by unfold rgL; omega)) (Nat.le_of_ble_eq_true rfl) rfl rfl (Nat.le_of_ble_eq_true rfl) (Nat.le_of_ble_eq_true rfl) rfl ?_
  refine wpx_ok hS bk129 (sp := sp129) 60 17 _ _ _ _ ?_
  simp only [LCM, B2, Bool.not_eq_false, Bool.not_eq_true, decide_eq_true_eq, decide_eq_false_iff_not, Int.not_lt, Int.not_le, CST, TN, WX, WA, WB, GS, LOC, BT129, SP129, CLS, FLD, ARR, CD, true_and, and_true, and_self, forall_const, true_implies, false_implies, implies_true, not_true_eq_false, not_false_eq_true, if_true, if_false, rgI, rgL, scr, swl, lkl, cats, cat, is2, List.drop_succ_cons, List.drop_zero, List.drop_nil, List.cons_append, List.nil_append, Option.toList_some, Option.toList_none, List.length_cons, List.length_nil, ne_eq, reduceCtorEq, Nat.reduceAdd, Nat.reduceSub, Nat.reduceMul, Nat.reduceLT, Nat.reduceLeDiff, Nat.reduceEqDiff, Nat.reduceBEq, Int.reduceToNat, Int.reduceLE, Int.reduceLT, Int.reduceEq, Int.reduceNeg, Int.reduceAdd, Int.reduceSub, Int.reduceMul, Int.toNat_natCast, Nat.zero_add, Int.add_zero, Nat.add_zero, ite_true, ite_false, Option.some.injEq, Nat.le_refl, or_true, true_or, or_false, false_or, if_pos, reduceIte, Nat.reduceGT]
  exact rt129 (b2i_01 _) ⟨rfl, rfl, rfl⟩
/-- all of a set are up -/
def auB (T : MM) (x d : Int) : Bool := decide (bAnd x (bXor (upM T d) (-1)) = 0)
theorem bAnd_rg (x y : Int) : rgI (bAnd x y) := by
  unfold bAnd rgI
  have h1 := (iN x &&& iN y).le_toInt
  have h2 := (iN x &&& iN y).toInt_lt
  omega
theorem m_areUp (x d : Int) (M : MM) (hW : WFt M) (hd : 0 ≤ d ∧ d ≤ 100000000000000000) : oI 4 130 [vR 55, vI x, vL d] M (b2i (auB M x d)) := by
  refine go130 (fun S hS => ?_)
  refine wpx_ok hS bk130 (sp := sp130) 60 0 _ _ _ _ ?_
  simp only [LCM, B2, Bool.not_eq_false, Bool.not_eq_true, decide_eq_true_eq, decide_eq_false_iff_not, Int.not_lt, Int.not_le, CST, TN, WX, WA, WB, GS, LOC, BT130, SP130, CLS, FLD, ARR, CD, true_and, and_true, and_self, forall_const, true_implies, false_implies, implies_true, not_true_eq_false, not_false_eq_true, if_true, if_false, rgI, rgL, scr, swl, lkl, cats, cat, is2, List.drop_succ_cons, List.drop_zero, List.drop_nil, List.cons_append, List.nil_append, Option.toList_some, Option.toList_none, List.length_cons, List.length_nil, ne_eq, reduceCtorEq, Nat.reduceAdd, Nat.reduceSub, Nat.reduceMul, Nat.reduceLT, Nat.reduceLeDiff, Nat.reduceEqDiff, Nat.reduceBEq, Int.reduceToNat, Int.reduceLE, Int.reduceLT, Int.reduceEq, Int.reduceNeg, Int.reduceAdd, Int.reduceSub, Int.reduceMul, Int.toNat_natCast, Nat.zero_add, Int.add_zero, Nat.add_zero, ite_true, ite_false, Option.some.injEq, Nat.le_refl, or_true, true_or, or_false, false_or, if_pos, reduceIte, Nat.reduceGT]
  refine ⟨rcv_ok rfl own120 rfl, kI (m_upOn d M hW hd) (Nat.le_of_ble_eq_true rfl) rfl rfl (Nat.le_of_ble_eq_true rfl) (Nat.le_of_ble_eq_true rfl) rfl ?_⟩
  refine wpx_ok hS bk130 (sp := sp130) 60 6 _ _ _ _ ?_
  simp only [LCM, B2, Bool.not_eq_false, Bool.not_eq_true, decide_eq_true_eq, decide_eq_false_iff_not, Int.not_lt, Int.not_le, CST, TN, WX, WA, WB, GS, LOC, BT130, SP130, CLS, FLD, ARR, CD, true_and, and_true, and_self, forall_const, true_implies, false_implies, implies_true, not_true_eq_false, not_false_eq_true, if_true, if_false, rgI, rgL, scr, swl, lkl, cats, cat, is2, List.drop_succ_cons, List.drop_zero, List.drop_nil, List.cons_append, List.nil_append, Option.toList_some, Option.toList_none, List.length_cons, List.length_nil, ne_eq, reduceCtorEq, Nat.reduceAdd, Nat.reduceSub, Nat.reduceMul, Nat.reduceLT, Nat.reduceLeDiff, Nat.reduceEqDiff, Nat.reduceBEq, Int.reduceToNat, Int.reduceLE, Int.reduceLT, Int.reduceEq, Int.reduceNeg, Int.reduceAdd, Int.reduceSub, Int.reduceMul, Int.toNat_natCast, Nat.zero_add, Int.add_zero, Nat.add_zero, ite_true, ite_false, Option.some.injEq, Nat.le_refl, or_true, true_or, or_false, false_or, if_pos, reduceIte, Nat.reduceGT]
  refine ⟨bAnd_rg _ _, fun h => ?_, fun h => ?_⟩
  · exact rt130 (by decide) ⟨rfl, by unfold auB; rw [decide_eq_false h]; rfl, rfl⟩
  · exact rt130 (by decide) ⟨rfl, by unfold auB; rw [decide_eq_true h]; rfl, rfl⟩

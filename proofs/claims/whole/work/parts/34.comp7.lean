/-! a work is ever short, by the most that rest -/
theorem hands_sub {T : MM} (h : WFt T) (s d : Nat) : hands T s d = cnt (skP T s) 10 - cD T (pH T) (skP T s) d := by
  have h1 : cnt (skP T s) 10 = cnt (fun i => (skP T s i && upP T d i) || ((pH T i && rsB T d i) && skP T s i)) 10 := by
    refine cnt_eq (fun i _ => ?_)
    unfold skP upP pH
    cases decide (i < hN T) <;> cases skB T s i <;> cases rsB T d i <;> rfl
  have h2 := cnt_add (p := fun i => skP T s i && upP T d i) (q := fun i => (pH T i && rsB T d i) && skP T s i) (n := 10) (fun i _ hc => by
    unfold upP at hc
    simp only [Bool.and_eq_true, Bool.not_eq_true'] at hc
    rw [hc.2.1.2] at hc
    exact absurd hc.1.2.2 (by decide))
  rw [← cnt_and_up h]
  unfold cD
  rw [h1, h2]
  omega
theorem evS_iff {T : MM} {w : Nat} : evS T w = true ↔ ∃ d : Nat, d < PN T ∧ hands T (T 63 (3 * w)).toNat d < T 63 (3 * w + 1) := by
  unfold evS
  constructor
  · intro h
    cases hf : fstF (fun d => shrt T w d) 0 (PN T) with
    | none => rw [hf] at h; cases h
    | some d =>
      obtain ⟨-, h2, h3, -⟩ := fstF_some.mp hf
      exact ⟨d, by omega, of_decide_eq_true h3⟩
  · rintro ⟨d, h1, h2⟩
    cases hf : fstF (fun d => shrt T w d) 0 (PN T) with
    | some d => rfl
    | none =>
      have := fstF_none.mp hf d (by omega) (by omega)
      have h3 : shrt T w d = true := decide_eq_true h2
      rw [h3] at this
      cases this
theorem x_everShort (w : Nat) (M T T' : MM) (hC : RC M T) (hW : WFt T) (g : SW T T') (hW' : WFt T') (hR : RO M T' (pH T')) (hw : w < wN T) : oI 4 89 [vR 0, vI w] M (b2i (evS T' w)) := by
  have hw1 := hW.wk hw
  have hw2 := hW.W
  have e := hC.2.2.2.1 w hw
  obtain ⟨s, hs⟩ : ∃ s : Nat, T 63 (3 * w) = (s : Int) := ⟨(T 63 (3 * w)).toNat, by omega⟩
  have hcr := cnt_rg (skP T s) 10
  have hev : ∀ v : Int, MX (fun d => d < PN T') (cD T' (pH T') (skP T s)) v → (cnt (skP T s) 10 - v < T 63 (3 * w + 1) ↔ evS T' w = true) := by
    intro v hv
    have e1 : skP T' s = skP T s := funext (fun i => g.eK s i)
    have e2 : T' 63 (3 * w) = (s : Int) := by rw [g.1 63 _ (by decide)]; exact hs
    have e3 : T' 63 (3 * w + 1) = T 63 (3 * w + 1) := g.1 63 _ (by decide)
    have e4 : ∀ d : Nat, hands T' s d = cnt (skP T s) 10 - cD T' (pH T') (skP T s) d := fun d => by rw [hands_sub hW', e1]
    rw [evS_iff, e2, e3, Int.toNat_natCast]
    obtain ⟨⟨d, h1, h2⟩, h3⟩ := hv
    constructor
    · intro h
      exact ⟨d, h1, by rw [e4]; omega⟩
    · rintro ⟨d', h4, h5⟩
      rw [e4] at h5
      have := h3 d' h4
      omega
  refine go89 (fun S hS => ?_)
  refine wpx_ok hS bk89 (sp := sp89) 60 0 _ _ _ _ ?_
  simp only [LCM, B2, Bool.not_eq_false, Bool.not_eq_true, decide_eq_true_eq, decide_eq_false_iff_not, Int.not_lt, Int.not_le, CST, TN, WX, WA, WB, GS, LOC, BT89, SP89, CLS, FLD, ARR, CD, true_and, and_true, and_self, forall_const, true_implies, false_implies, implies_true, not_true_eq_false, not_false_eq_true, if_true, if_false, rgI, rgL, scr, swl, lkl, cats, cat, is2, List.drop_succ_cons, List.drop_zero, List.drop_nil, List.cons_append, List.nil_append, Option.toList_some, Option.toList_none, List.length_cons, List.length_nil, ne_eq, Classical.not_not, reduceCtorEq, Nat.reduceAdd, Nat.reduceSub, Nat.reduceMul, Nat.reduceLT, Nat.reduceLeDiff, Nat.reduceEqDiff, Nat.reduceBEq, Int.reduceToNat, Int.reduceLE, Int.reduceLT, Int.reduceEq, Int.reduceNeg, Int.reduceAdd, Int.reduceSub, Int.reduceMul, Int.toNat_natCast, Nat.zero_add, Int.add_zero, Nat.add_zero, ite_true, ite_false, Option.some.injEq, Nat.le_refl, or_true, true_or, or_false, false_or, if_pos, reduceIte, Nat.reduceGT]
  rw [e.1, hs, Int.toNat_natCast, hC.2.2.1 s (by omega)]
  refine ⟨by omega, by omega, ?_⟩
  refine kI (c_bitCount (skP T s) M) (Nat.le_of_ble_eq_true rfl) rfl rfl (Nat.le_of_ble_eq_true rfl) (Nat.le_of_ble_eq_true rfl) rfl ?_
  refine wpx_ok hS bk89 (sp := sp89) 60 22 _ _ _ _ ?_
  simp only [LCM, B2, Bool.not_eq_false, Bool.not_eq_true, decide_eq_true_eq, decide_eq_false_iff_not, Int.not_lt, Int.not_le, CST, TN, WX, WA, WB, GS, LOC, BT89, SP89, CLS, FLD, ARR, CD, true_and, and_true, and_self, forall_const, true_implies, false_implies, implies_true, not_true_eq_false, not_false_eq_true, if_true, if_false, rgI, rgL, scr, swl, lkl, cats, cat, is2, List.drop_succ_cons, List.drop_zero, List.drop_nil, List.cons_append, List.nil_append, Option.toList_some, Option.toList_none, List.length_cons, List.length_nil, ne_eq, Classical.not_not, reduceCtorEq, Nat.reduceAdd, Nat.reduceSub, Nat.reduceMul, Nat.reduceLT, Nat.reduceLeDiff, Nat.reduceEqDiff, Nat.reduceBEq, Int.reduceToNat, Int.reduceLE, Int.reduceLT, Int.reduceEq, Int.reduceNeg, Int.reduceAdd, Int.reduceSub, Int.reduceMul, Int.toNat_natCast, Nat.zero_add, Int.add_zero, Nat.add_zero, ite_true, ite_false, Option.some.injEq, Nat.le_refl, or_true, true_or, or_false, false_or, if_pos, reduceIte, Nat.reduceGT]
  refine ⟨rcv_ok rfl own25 rfl, kQ (x_mostResting M T' (pH T') (skP T s) hW' hR (fun i h => of_decide_eq_true h)) (Nat.le_of_ble_eq_true rfl) rfl rfl (Nat.le_of_ble_eq_true rfl) (Nat.le_of_ble_eq_true rfl) rfl ?_⟩
  rintro r M' ⟨rfl, v, rfl, v0, v1, hm⟩
  have hx := hev v hm
  refine wpx_ok hS bk89 (sp := sp89) 60 30 _ _ _ _ ?_
  simp only [LCM, B2, Bool.not_eq_false, Bool.not_eq_true, decide_eq_true_eq, decide_eq_false_iff_not, Int.not_lt, Int.not_le, CST, TN, WX, WA, WB, GS, LOC, BT89, SP89, CLS, FLD, ARR, CD, true_and, and_true, and_self, forall_const, true_implies, false_implies, implies_true, not_true_eq_false, not_false_eq_true, if_true, if_false, rgI, rgL, scr, swl, lkl, cats, cat, is2, List.drop_succ_cons, List.drop_zero, List.drop_nil, List.cons_append, List.nil_append, Option.toList_some, Option.toList_none, List.length_cons, List.length_nil, ne_eq, Classical.not_not, reduceCtorEq, Nat.reduceAdd, Nat.reduceSub, Nat.reduceMul, Nat.reduceLT, Nat.reduceLeDiff, Nat.reduceEqDiff, Nat.reduceBEq, Int.reduceToNat, Int.reduceLE, Int.reduceLT, Int.reduceEq, Int.reduceNeg, Int.reduceAdd, Int.reduceSub, Int.reduceMul, Int.toNat_natCast, Nat.zero_add, Int.add_zero, Nat.add_zero, ite_true, ite_false, Option.some.injEq, Nat.le_refl, or_true, true_or, or_false, false_or, if_pos, reduceIte, Nat.reduceGT]
  rw [e.2.1]
  refine ⟨by omega, by omega, fun h => ?_, fun h => ?_⟩
  · refine rt89 (by decide) ⟨rfl, ?_, rfl⟩
    rw [show evS T' w = false by cases hq : evS T' w with
      | false => rfl
      | true => have := hx.mpr hq; omega]
    rfl
  · refine rt89 (by decide) ⟨rfl, ?_, rfl⟩
    rw [hx.mp h]
    rfl
def anyE (T : MM) : Bool := (fstF (evS T) 0 (wN T)).isSome
theorem x_anyEverShort (M T T' : MM) (hC : RC M T) (hW : WFt T) (g : SW T T') (hW' : WFt T') (hR : RO M T' (pH T')) : oI 5 90 [vR 0] M (b2i (anyE T')) := by
  have hw2 := hW.W
  refine go90 (fun S hS => ?_)
  have head : ∀ (n i : Nat), i + n = wN T → fstF (evS T') i n = fstF (evS T') 0 (wN T') → S 2 [some (vR 0), some (vI i)] [] (sh0, 0, 0) M := by
    intro n
    induction n with
    | zero =>
      intro i hi hf
      refine wpx_ok hS bk90 (sp := sp90) 60 2 _ _ _ _ ?_
      simp only [LCM, B2, Bool.not_eq_false, Bool.not_eq_true, decide_eq_true_eq, decide_eq_false_iff_not, Int.not_lt, Int.not_le, CST, TN, WX, WA, WB, GS, LOC, BT90, SP90, CLS, FLD, ARR, CD, true_and, and_true, and_self, forall_const, true_implies, false_implies, implies_true, not_true_eq_false, not_false_eq_true, if_true, if_false, rgI, rgL, scr, swl, lkl, cats, cat, is2, List.drop_succ_cons, List.drop_zero, List.drop_nil, List.cons_append, List.nil_append, Option.toList_some, Option.toList_none, List.length_cons, List.length_nil, ne_eq, Classical.not_not, reduceCtorEq, Nat.reduceAdd, Nat.reduceSub, Nat.reduceMul, Nat.reduceLT, Nat.reduceLeDiff, Nat.reduceEqDiff, Nat.reduceBEq, Int.reduceToNat, Int.reduceLE, Int.reduceLT, Int.reduceEq, Int.reduceNeg, Int.reduceAdd, Int.reduceSub, Int.reduceMul, Int.toNat_natCast, Nat.zero_add, Int.add_zero, Nat.add_zero, ite_true, ite_false, Option.some.injEq, Nat.le_refl, or_true, true_or, or_false, false_or, if_pos, reduceIte, Nat.reduceGT]
      rw [hC.1.2.2.2.1]
      refine ⟨by omega, fun h => rt90 (by decide) ⟨rfl, ?_, rfl⟩, fun h => by omega⟩
      unfold anyE
      rw [← hf]
      rfl
    | succ n ih =>
      intro i hi hf
      rw [fstF] at hf
      refine wpx_ok hS bk90 (sp := sp90) 60 2 _ _ _ _ ?_
      simp only [LCM, B2, Bool.not_eq_false, Bool.not_eq_true, decide_eq_true_eq, decide_eq_false_iff_not, Int.not_lt, Int.not_le, CST, TN, WX, WA, WB, GS, LOC, BT90, SP90, CLS, FLD, ARR, CD, true_and, and_true, and_self, forall_const, true_implies, false_implies, implies_true, not_true_eq_false, not_false_eq_true, if_true, if_false, rgI, rgL, scr, swl, lkl, cats, cat, is2, List.drop_succ_cons, List.drop_zero, List.drop_nil, List.cons_append, List.nil_append, Option.toList_some, Option.toList_none, List.length_cons, List.length_nil, ne_eq, Classical.not_not, reduceCtorEq, Nat.reduceAdd, Nat.reduceSub, Nat.reduceMul, Nat.reduceLT, Nat.reduceLeDiff, Nat.reduceEqDiff, Nat.reduceBEq, Int.reduceToNat, Int.reduceLE, Int.reduceLT, Int.reduceEq, Int.reduceNeg, Int.reduceAdd, Int.reduceSub, Int.reduceMul, Int.toNat_natCast, Nat.zero_add, Int.add_zero, Nat.add_zero, ite_true, ite_false, Option.some.injEq, Nat.le_refl, or_true, true_or, or_false, false_or, if_pos, reduceIte, Nat.reduceGT]
      rw [hC.1.2.2.2.1]
      refine ⟨by omega, fun h => by omega, fun h => ?_⟩
      refine ⟨rcv_ok rfl own89 rfl, kI (x_everShort i M T T' hC hW g hW' hR (by omega)) (Nat.le_of_ble_eq_true rfl) rfl rfl (Nat.le_of_ble_eq_true rfl) (Nat.le_of_ble_eq_true rfl) rfl ?_⟩
      refine wpx_ok hS bk90 (sp := sp90) 60 18 _ _ _ _ ?_
      simp only [LCM, B2, Bool.not_eq_false, Bool.not_eq_true, decide_eq_true_eq, decide_eq_false_iff_not, Int.not_lt, Int.not_le, CST, TN, WX, WA, WB, GS, LOC, BT90, SP90, CLS, FLD, ARR, CD, true_and, and_true, and_self, forall_const, true_implies, false_implies, implies_true, not_true_eq_false, not_false_eq_true, if_true, if_false, rgI, rgL, scr, swl, lkl, cats, cat, is2, List.drop_succ_cons, List.drop_zero, List.drop_nil, List.cons_append, List.nil_append, Option.toList_some, Option.toList_none, List.length_cons, List.length_nil, ne_eq, Classical.not_not, reduceCtorEq, Nat.reduceAdd, Nat.reduceSub, Nat.reduceMul, Nat.reduceLT, Nat.reduceLeDiff, Nat.reduceEqDiff, Nat.reduceBEq, Int.reduceToNat, Int.reduceLE, Int.reduceLT, Int.reduceEq, Int.reduceNeg, Int.reduceAdd, Int.reduceSub, Int.reduceMul, Int.toNat_natCast, Nat.zero_add, Int.add_zero, Nat.add_zero, ite_true, ite_false, Option.some.injEq, Nat.le_refl, or_true, true_or, or_false, false_or, if_pos, reduceIte, Nat.reduceGT]
      refine ⟨fun h1 => ?_, fun h1 => ?_⟩
      · rw [h1] at hf
        exact ih (i + 1) (by omega) hf
      · rw [h1, if_pos rfl] at hf
        refine rt90 (by decide) ⟨rfl, ?_, rfl⟩
        unfold anyE
        rw [← hf]
        rfl
  refine wpx_ok hS bk90 (sp := sp90) 60 0 _ _ _ _ ?_
  simp only [LCM, B2, Bool.not_eq_false, Bool.not_eq_true, decide_eq_true_eq, decide_eq_false_iff_not, Int.not_lt, Int.not_le, CST, TN, WX, WA, WB, GS, LOC, BT90, SP90, CLS, FLD, ARR, CD, true_and, and_true, and_self, forall_const, true_implies, false_implies, implies_true, not_true_eq_false, not_false_eq_true, if_true, if_false, rgI, rgL, scr, swl, lkl, cats, cat, is2, List.drop_succ_cons, List.drop_zero, List.drop_nil, List.cons_append, List.nil_append, Option.toList_some, Option.toList_none, List.length_cons, List.length_nil, ne_eq, Classical.not_not, reduceCtorEq, Nat.reduceAdd, Nat.reduceSub, Nat.reduceMul, Nat.reduceLT, Nat.reduceLeDiff, Nat.reduceEqDiff, Nat.reduceBEq, Int.reduceToNat, Int.reduceLE, Int.reduceLT, Int.reduceEq, Int.reduceNeg, Int.reduceAdd, Int.reduceSub, Int.reduceMul, Int.toNat_natCast, Nat.zero_add, Int.add_zero, Nat.add_zero, ite_true, ite_false, Option.some.injEq, Nat.le_refl, or_true, true_or, or_false, false_or, if_pos, reduceIte, Nat.reduceGT]
  exact head (wN T) 0 (by omega) (by rw [g.eW])
theorem x_hasSkillOf (i w : Nat) (M T : MM) (hC : RC M T) (hW : WFt T) (hi : i < hN T) (hw : w < wN T) : oI 1 99 [vR 0, vI i, vI w] M (b2i (skB T (T 63 (3 * w)).toNat i)) := by
  have hH := hW.H
  have hw1 := hW.wk hw
  have hw2 := hW.W
  have e := hC.2.2.2.1 w hw
  obtain ⟨s, hs⟩ : ∃ s : Nat, T 63 (3 * w) = (s : Int) := ⟨(T 63 (3 * w)).toNat, by omega⟩
  have hr := bAnd_rg (mk (skP T s)) (bShl 1 (i : Int))
  have hk : skP T s i = skB T s i := by unfold skP; rw [decide_eq_true hi]; rfl
  refine go99 (fun S hS => ?_)
  refine wpx_ok hS bk99 (sp := sp99) 60 0 _ _ _ _ ?_
  simp only [LCM, B2, Bool.not_eq_false, Bool.not_eq_true, decide_eq_true_eq, decide_eq_false_iff_not, Int.not_lt, Int.not_le, CST, TN, WX, WA, WB, GS, LOC, BT99, SP99, CLS, FLD, ARR, CD, true_and, and_true, and_self, forall_const, true_implies, false_implies, implies_true, not_true_eq_false, not_false_eq_true, if_true, if_false, rgI, rgL, scr, swl, lkl, cats, cat, is2, List.drop_succ_cons, List.drop_zero, List.drop_nil, List.cons_append, List.nil_append, Option.toList_some, Option.toList_none, List.length_cons, List.length_nil, ne_eq, Classical.not_not, reduceCtorEq, Nat.reduceAdd, Nat.reduceSub, Nat.reduceMul, Nat.reduceLT, Nat.reduceLeDiff, Nat.reduceEqDiff, Nat.reduceBEq, Int.reduceToNat, Int.reduceLE, Int.reduceLT, Int.reduceEq, Int.reduceNeg, Int.reduceAdd, Int.reduceSub, Int.reduceMul, Int.toNat_natCast, Nat.zero_add, Int.add_zero, Nat.add_zero, ite_true, ite_false, Option.some.injEq, Nat.le_refl, or_true, true_or, or_false, false_or, if_pos, reduceIte, Nat.reduceGT]
  rw [e.1, hs, Int.toNat_natCast, hC.2.2.1 s (by omega), mk_has (by omega), hk]
  refine ⟨by omega, by omega, hr, fun h => ?_, fun h => ?_⟩
  · exact rt99 (by decide) ⟨rfl, by rw [h]; rfl, rfl⟩
  · exact rt99 (by decide) ⟨rfl, by rw [show skB T s i = true by simpa using h]; rfl, rfl⟩
theorem evS_noskill {T : MM} {w i : Nat} (hk : skB T (T 63 (3 * w)).toNat i = false) (r : Int) : evS (setR T i r) w = evS T w := by
  unfold evS
  rw [show PN (setR T i r) = PN T from rfl]
  rw [fstF_eq (q := fun d => shrt T w d) (fun d _ _ => ?_)]
  show decide (hands (setR T i r) (T 63 (3 * w)).toNat d < T 63 (3 * w + 1)) = decide (hands T (T 63 (3 * w)).toNat d < T 63 (3 * w + 1))
  have : hands (setR T i r) (T 63 (3 * w)).toNat d = hands T (T 63 (3 * w)).toNat d := by
    unfold hands
    rw [show hN (setR T i r) = hN T from rfl]
    refine cnt_eq (fun x _ => ?_)
    rw [(setR_SW T i r).eS]
    by_cases hx : x = i
    · subst hx; rw [hk]; rfl
    · congr 2
      unfold rsB
      rw [setR_len]
      congr 2
      unfold setR
      exact ms_nj (by omega)
  rw [this]
theorem oneP_eq {T : MM} {w i : Nat} (h : evS T w = true) (r : Nat) : oneP T w i r = !evS (setR T i r) w := by
  unfold oneP
  by_cases hr : (r : Int) = T 61 (4 * i + 1)
  · rw [hr, setR_was, h, decide_eq_false (by omega)]
    rfl
  · rw [decide_eq_true hr]
    rfl
theorem RO.other {M T : MM} {p : Nat → Bool} {i : Nat} {r : Int} (h : RO M T p) (hp : p i = false) : RO M (setR T i r) p := by
  refine h.town (ms_ne (by decide) _) (ms_ne (by decide) _) (fun x _ hx => ?_)
  have hxi : x ≠ i := fun z => by rw [z, hp] at hx; cases hx
  unfold setR
  exact ⟨ms_nj (by omega), ms_nj (by omega)⟩
theorem RO.other' {M T : MM} {p : Nat → Bool} {i : Nat} {r : Int} (h : RO M (setR T i r) p) (hp : p i = false) : RO M T p := by
  have h1 := h.other (i := i) (r := T 61 (4 * i + 1)) hp
  have h2 : setR (setR T i r) i (T 61 (4 * i + 1)) = T := setR_back T i r
  rw [h2] at h1
  exact h1
theorem x_helpfulRest (w j : Nat) (M T T' : MM) (hC : RC M T) (hW : WFt T) (g : SW T T') (hW' : WFt T') (hR : RO M T' (pH T')) (hw : w < wN T) (hj : j < hN T) (hwk : T' 61 (4 * j) = T 61 (4 * j)) (hrs : T' 61 (4 * j + 1) = T 61 (4 * j + 1)) (hev : evS T' w = true) :
    oQ 5 100 [vR 0, vI w, vI j] M (fun r M' => r = some (Sum.inl (oZ (oneR T' w j) (-4))) ∧ RO M' T' (pH T') ∧ ∀ k j, ¬ ro k → M' k j = M k j) := by
  have hH := hW.H
  have hs := hW.hs hj
  have hl := hW.ln hj
  have hw2 := hW.W
  have elen : len T' j = len T j := by
    unfold len
    rw [hwk, g.1 57 _ (by decide)]
  obtain ⟨wk, hwk2⟩ : ∃ x : Nat, T 61 (4 * j) = (x : Int) := ⟨(T 61 (4 * j)).toNat, by omega⟩
  obtain ⟨rs, hrs2⟩ : ∃ x : Nat, T 61 (4 * j + 1) = (x : Int) := ⟨(T 61 (4 * j + 1)).toNat, by omega⟩
  obtain ⟨L, hL⟩ : ∃ x : Nat, len T j = (x : Int) := ⟨(len T j).toNat, by omega⟩
  have bx := hC.2.2.2.2.1 j hj
  have hjp : pH T' j = true := by rw [g.eA]; exact decide_eq_true hj
  generalize hq : (fun x => pH T' x && !(x == j)) = q
  have hqj : q j = false := by rw [← hq]; simp
  have hqe : ∀ i, i < 10 → (q i || i == j) = pH T' i := by
    intro i _
    rw [← hq]
    by_cases hij : i = j
    · subst hij; simp [hjp]
    · have hb : (i == j) = false := beq_eq_false_iff_ne.mpr hij
      simp [hb]
  have hqf : ∀ i, i < 10 → ((pH T' i) && !(i == j)) = q i := fun i _ => by rw [← hq]
  refine go100 (fun S hS => ?_)
  refine wpx_ok hS bk100 (sp := sp100) 60 0 _ _ _ _ ?_
  simp only [LCM, B2, Bool.not_eq_false, Bool.not_eq_true, decide_eq_true_eq, decide_eq_false_iff_not, Int.not_lt, Int.not_le, CST, TN, WX, WA, WB, GS, LOC, BT100, SP100, CLS, FLD, ARR, CD, true_and, and_true, and_self, forall_const, true_implies, false_implies, implies_true, not_true_eq_false, not_false_eq_true, if_true, if_false, rgI, rgL, scr, swl, lkl, cats, cat, is2, List.drop_succ_cons, List.drop_zero, List.drop_nil, List.cons_append, List.nil_append, Option.toList_some, Option.toList_none, List.length_cons, List.length_nil, ne_eq, Classical.not_not, reduceCtorEq, Nat.reduceAdd, Nat.reduceSub, Nat.reduceMul, Nat.reduceLT, Nat.reduceLeDiff, Nat.reduceEqDiff, Nat.reduceBEq, Int.reduceToNat, Int.reduceLE, Int.reduceLT, Int.reduceEq, Int.reduceNeg, Int.reduceAdd, Int.reduceSub, Int.reduceMul, Int.toNat_natCast, Nat.zero_add, Int.add_zero, Nat.add_zero, ite_true, ite_false, Option.some.injEq, Nat.le_refl, or_true, true_or, or_false, false_or, if_pos, reduceIte, Nat.reduceGT]
  refine ⟨rcv_ok rfl own99 rfl, kI (x_hasSkillOf j w M T hC hW hj hw) (Nat.le_of_ble_eq_true rfl) rfl rfl (Nat.le_of_ble_eq_true rfl) (Nat.le_of_ble_eq_true rfl) rfl ?_⟩
  refine wpx_ok hS bk100 (sp := sp100) 60 6 _ _ _ _ ?_
  simp only [LCM, B2, Bool.not_eq_false, Bool.not_eq_true, decide_eq_true_eq, decide_eq_false_iff_not, Int.not_lt, Int.not_le, CST, TN, WX, WA, WB, GS, LOC, BT100, SP100, CLS, FLD, ARR, CD, true_and, and_true, and_self, forall_const, true_implies, false_implies, implies_true, not_true_eq_false, not_false_eq_true, if_true, if_false, rgI, rgL, scr, swl, lkl, cats, cat, is2, List.drop_succ_cons, List.drop_zero, List.drop_nil, List.cons_append, List.nil_append, Option.toList_some, Option.toList_none, List.length_cons, List.length_nil, ne_eq, Classical.not_not, reduceCtorEq, Nat.reduceAdd, Nat.reduceSub, Nat.reduceMul, Nat.reduceLT, Nat.reduceLeDiff, Nat.reduceEqDiff, Nat.reduceBEq, Int.reduceToNat, Int.reduceLE, Int.reduceLT, Int.reduceEq, Int.reduceNeg, Int.reduceAdd, Int.reduceSub, Int.reduceMul, Int.toNat_natCast, Nat.zero_add, Int.add_zero, Nat.add_zero, ite_true, ite_false, Option.some.injEq, Nat.le_refl, or_true, true_or, or_false, false_or, if_pos, reduceIte, Nat.reduceGT]
  refine ⟨fun h => ?_, fun h => ?_⟩
  · have h1 : skB T (T 63 (3 * w)).toNat j = true := h
    have fin : ∀ (N : MM) (f : Option Nat) (r : Nat), RO N T' q → (∀ k j, ¬ ro k → N k j = M k j) → f = oneR T' w j → S 108 [some (vR 0), some (vI w), some (vI j), some (vI wk), some (vI L), some (vI (oZ f (-4))), some (vI r)] [] (sh0, 0, 0) N := by
      intro N f r hO hF hf
      have eN : N 28 j = T 61 (4 * j + 1) := by rw [hF 28 j (by unfold ro; omega)]; exact bx.2
      refine wpx_ok hS bk100 (sp := sp100) 60 108 _ _ _ _ ?_
      simp only [LCM, B2, Bool.not_eq_false, Bool.not_eq_true, decide_eq_true_eq, decide_eq_false_iff_not, Int.not_lt, Int.not_le, CST, TN, WX, WA, WB, GS, LOC, BT100, SP100, CLS, FLD, ARR, CD, true_and, and_true, and_self, forall_const, true_implies, false_implies, implies_true, not_true_eq_false, not_false_eq_true, if_true, if_false, rgI, rgL, scr, swl, lkl, cats, cat, is2, List.drop_succ_cons, List.drop_zero, List.drop_nil, List.cons_append, List.nil_append, Option.toList_some, Option.toList_none, List.length_cons, List.length_nil, ne_eq, Classical.not_not, reduceCtorEq, Nat.reduceAdd, Nat.reduceSub, Nat.reduceMul, Nat.reduceLT, Nat.reduceLeDiff, Nat.reduceEqDiff, Nat.reduceBEq, Int.reduceToNat, Int.reduceLE, Int.reduceLT, Int.reduceEq, Int.reduceNeg, Int.reduceAdd, Int.reduceSub, Int.reduceMul, Int.toNat_natCast, Nat.zero_add, Int.add_zero, Nat.add_zero, ite_true, ite_false, Option.some.injEq, Nat.le_refl, or_true, true_or, or_false, false_or, if_pos, reduceIte, Nat.reduceGT]
      rw [eN, hrs2]
      refine ⟨by omega, ?_⟩
      refine ⟨rcv_ok rfl own22 rfl, kV (x_put j wk rs N (by omega) (by omega)) (Nat.le_of_ble_eq_true rfl) rfl rfl (Nat.le_of_ble_eq_true rfl) (Nat.le_of_ble_eq_true rfl) rfl ?_⟩
      refine wpx_ok hS bk100 (sp := sp100) 60 126 _ _ _ _ ?_
      simp only [LCM, B2, Bool.not_eq_false, Bool.not_eq_true, decide_eq_true_eq, decide_eq_false_iff_not, Int.not_lt, Int.not_le, CST, TN, WX, WA, WB, GS, LOC, BT100, SP100, CLS, FLD, ARR, CD, true_and, and_true, and_self, forall_const, true_implies, false_implies, implies_true, not_true_eq_false, not_false_eq_true, if_true, if_false, rgI, rgL, scr, swl, lkl, cats, cat, is2, List.drop_succ_cons, List.drop_zero, List.drop_nil, List.cons_append, List.nil_append, Option.toList_some, Option.toList_none, List.length_cons, List.length_nil, ne_eq, Classical.not_not, reduceCtorEq, Nat.reduceAdd, Nat.reduceSub, Nat.reduceMul, Nat.reduceLT, Nat.reduceLeDiff, Nat.reduceEqDiff, Nat.reduceBEq, Int.reduceToNat, Int.reduceLE, Int.reduceLT, Int.reduceEq, Int.reduceNeg, Int.reduceAdd, Int.reduceSub, Int.reduceMul, Int.toNat_natCast, Nat.zero_add, Int.add_zero, Nat.add_zero, ite_true, ite_false, Option.some.injEq, Nat.le_refl, or_true, true_or, or_false, false_or, if_pos, reduceIte, Nat.reduceGT]
      refine rt100 ⟨rfl, by rw [hf], (hO.put (by omega) (by omega) (by omega) (by rw [hwk, hwk2]) (by rw [hrs, hrs2])).eqp hqe, fun k x hk => ?_⟩
      rw [ms_ne (by unfold ro at hk; omega)]
      exact hF k x hk
    have head : ∀ (n r : Nat) (N : MM), r + n = L → RO N T' q → (∀ k j, ¬ ro k → N k j = M k j) → fstF (oneP T' w j) r n = oneR T' w j → S 54 [some (vR 0), some (vI w), some (vI j), some (vI wk), some (vI L), some (vI (-4)), some (vI r)] [] (sh0, 0, 0) N := by
      intro n
      induction n with
      | zero =>
        intro r N hr hO hF hf
        refine wpx_ok hS bk100 (sp := (fun t => sp100 t || t == 108)) 60 54 _ _ _ _ ?_
        simp only [LCM, B2, Bool.not_eq_false, Bool.not_eq_true, decide_eq_true_eq, decide_eq_false_iff_not, Int.not_lt, Int.not_le, CST, TN, WX, WA, WB, GS, LOC, BT100, SP100, CLS, FLD, ARR, CD, true_and, and_true, and_self, forall_const, true_implies, false_implies, implies_true, not_true_eq_false, not_false_eq_true, if_true, if_false, rgI, rgL, scr, swl, lkl, cats, cat, is2, List.drop_succ_cons, List.drop_zero, List.drop_nil, List.cons_append, List.nil_append, Option.toList_some, Option.toList_none, List.length_cons, List.length_nil, ne_eq, Classical.not_not, reduceCtorEq, Nat.reduceAdd, Nat.reduceSub, Nat.reduceMul, Nat.reduceLT, Nat.reduceLeDiff, Nat.reduceEqDiff, Nat.reduceBEq, Int.reduceToNat, Int.reduceLE, Int.reduceLT, Int.reduceEq, Int.reduceNeg, Int.reduceAdd, Int.reduceSub, Int.reduceMul, Int.toNat_natCast, Nat.zero_add, Int.add_zero, Nat.add_zero, ite_true, ite_false, Option.some.injEq, Nat.le_refl, or_true, true_or, or_false, false_or, if_pos, reduceIte, Nat.reduceGT, Bool.or_false, Bool.false_or, Bool.or_true, Bool.true_or, beq_self_eq_true, Nat.reduceBEq]
        refine ⟨by omega, fun h => ?_, fun h => by omega⟩
        exact fin N none r hO hF hf
      | succ n ih =>
        intro r N hr hO hF hf
        rw [fstF, oneP_eq hev] at hf
        have hW2 : WFt (setR T' j r) := setR_WF hW' (by omega)
        have g2 : SW T (setR T' j r) := g.tr (setR_SW T' j r)
        have hO2 : RO _ (setR T' j r) (pH (setR T' j r)) := ((hO.other (i := j) (r := r) hqj).put (i := j) (w := wk) (j := r) (by omega) (by omega) (by omega) (by unfold setR; rw [ms_nj (by omega), hwk, hwk2]) (by unfold setR; rw [ms_eq])).eqp hqe
        refine wpx_ok hS bk100 (sp := (fun t => sp100 t || t == 108)) 60 54 _ _ _ _ ?_
        simp only [LCM, B2, Bool.not_eq_false, Bool.not_eq_true, decide_eq_true_eq, decide_eq_false_iff_not, Int.not_lt, Int.not_le, CST, TN, WX, WA, WB, GS, LOC, BT100, SP100, CLS, FLD, ARR, CD, true_and, and_true, and_self, forall_const, true_implies, false_implies, implies_true, not_true_eq_false, not_false_eq_true, if_true, if_false, rgI, rgL, scr, swl, lkl, cats, cat, is2, List.drop_succ_cons, List.drop_zero, List.drop_nil, List.cons_append, List.nil_append, Option.toList_some, Option.toList_none, List.length_cons, List.length_nil, ne_eq, Classical.not_not, reduceCtorEq, Nat.reduceAdd, Nat.reduceSub, Nat.reduceMul, Nat.reduceLT, Nat.reduceLeDiff, Nat.reduceEqDiff, Nat.reduceBEq, Int.reduceToNat, Int.reduceLE, Int.reduceLT, Int.reduceEq, Int.reduceNeg, Int.reduceAdd, Int.reduceSub, Int.reduceMul, Int.toNat_natCast, Nat.zero_add, Int.add_zero, Nat.add_zero, ite_true, ite_false, Option.some.injEq, Nat.le_refl, or_true, true_or, or_false, false_or, if_pos, reduceIte, Nat.reduceGT, Bool.or_false, Bool.false_or, Bool.or_true, Bool.true_or, beq_self_eq_true, Nat.reduceBEq]
        refine ⟨by omega, fun h => by omega, fun h => ?_⟩
        refine ⟨rcv_ok rfl own22 rfl, kV (x_put j wk r N (by omega) (by omega)) (Nat.le_of_ble_eq_true rfl) rfl rfl (Nat.le_of_ble_eq_true rfl) (Nat.le_of_ble_eq_true rfl) rfl ?_⟩
        generalize hN1 : mset N (35 + wk) r (bOr (N (35 + wk) r) (bShl 1 j)) = N1 at hO2 ⊢
        have hF1 : ∀ k j, ¬ ro k → N1 k j = M k j := fun k x hk => by
          rw [← hN1, ms_ne (by unfold ro at hk; omega)]
          exact hF k x hk
        have hC1 : RC N1 T := hC.keep (fun k j h1 h2 => hF1 k j (by unfold ro; omega))
        have hO3 := hO2.lift (i := j) (w := wk) (j := r) (by omega) (by omega) (by omega) (by unfold setR; rw [ms_nj (by omega), hwk, hwk2]) (by unfold setR; rw [ms_eq])
        have hO4 := (hO3.eqp hqf).other' hqj
        have hF4 : ∀ k x, ¬ ro k → mset N1 (35 + wk) r (bAnd (N1 (35 + wk) r) (bXor (bShl 1 j) (-1))) k x = M k x := fun k x hk => by
          rw [ms_ne (by unfold ro at hk; omega)]
          exact hF1 k x hk
        refine wpx_ok hS bk100 (sp := sp100) 60 79 _ _ _ _ ?_
        simp only [LCM, B2, Bool.not_eq_false, Bool.not_eq_true, decide_eq_true_eq, decide_eq_false_iff_not, Int.not_lt, Int.not_le, CST, TN, WX, WA, WB, GS, LOC, BT100, SP100, CLS, FLD, ARR, CD, true_and, and_true, and_self, forall_const, true_implies, false_implies, implies_true, not_true_eq_false, not_false_eq_true, if_true, if_false, rgI, rgL, scr, swl, lkl, cats, cat, is2, List.drop_succ_cons, List.drop_zero, List.drop_nil, List.cons_append, List.nil_append, Option.toList_some, Option.toList_none, List.length_cons, List.length_nil, ne_eq, Classical.not_not, reduceCtorEq, Nat.reduceAdd, Nat.reduceSub, Nat.reduceMul, Nat.reduceLT, Nat.reduceLeDiff, Nat.reduceEqDiff, Nat.reduceBEq, Int.reduceToNat, Int.reduceLE, Int.reduceLT, Int.reduceEq, Int.reduceNeg, Int.reduceAdd, Int.reduceSub, Int.reduceMul, Int.toNat_natCast, Nat.zero_add, Int.add_zero, Nat.add_zero, ite_true, ite_false, Option.some.injEq, Nat.le_refl, or_true, true_or, or_false, false_or, if_pos, reduceIte, Nat.reduceGT]
        refine ⟨rcv_ok rfl own89 rfl, kI (x_everShort w N1 T (setR T' j r) hC1 hW g2 hW2 hO2 hw) (Nat.le_of_ble_eq_true rfl) rfl rfl (Nat.le_of_ble_eq_true rfl) (Nat.le_of_ble_eq_true rfl) rfl ?_⟩
        refine wpx_ok hS bk100 (sp := sp100) 60 84 _ _ _ _ ?_
        simp only [LCM, B2, Bool.not_eq_false, Bool.not_eq_true, decide_eq_true_eq, decide_eq_false_iff_not, Int.not_lt, Int.not_le, CST, TN, WX, WA, WB, GS, LOC, BT100, SP100, CLS, FLD, ARR, CD, true_and, and_true, and_self, forall_const, true_implies, false_implies, implies_true, not_true_eq_false, not_false_eq_true, if_true, if_false, rgI, rgL, scr, swl, lkl, cats, cat, is2, List.drop_succ_cons, List.drop_zero, List.drop_nil, List.cons_append, List.nil_append, Option.toList_some, Option.toList_none, List.length_cons, List.length_nil, ne_eq, Classical.not_not, reduceCtorEq, Nat.reduceAdd, Nat.reduceSub, Nat.reduceMul, Nat.reduceLT, Nat.reduceLeDiff, Nat.reduceEqDiff, Nat.reduceBEq, Int.reduceToNat, Int.reduceLE, Int.reduceLT, Int.reduceEq, Int.reduceNeg, Int.reduceAdd, Int.reduceSub, Int.reduceMul, Int.toNat_natCast, Nat.zero_add, Int.add_zero, Nat.add_zero, ite_true, ite_false, Option.some.injEq, Nat.le_refl, or_true, true_or, or_false, false_or, if_pos, reduceIte, Nat.reduceGT]
        refine ⟨fun h => ?_, fun h => ?_⟩
        · refine ⟨rcv_ok rfl own23 rfl, kV (x_lift j wk r N1 (by omega) (by omega)) (Nat.le_of_ble_eq_true rfl) rfl rfl (Nat.le_of_ble_eq_true rfl) (Nat.le_of_ble_eq_true rfl) rfl ?_⟩
          rw [h] at hf
          refine wpx_ok hS bk100 (sp := sp100) 60 102 _ _ _ _ ?_
          simp only [LCM, B2, Bool.not_eq_false, Bool.not_eq_true, decide_eq_true_eq, decide_eq_false_iff_not, Int.not_lt, Int.not_le, CST, TN, WX, WA, WB, GS, LOC, BT100, SP100, CLS, FLD, ARR, CD, true_and, and_true, and_self, forall_const, true_implies, false_implies, implies_true, not_true_eq_false, not_false_eq_true, if_true, if_false, rgI, rgL, scr, swl, lkl, cats, cat, is2, List.drop_succ_cons, List.drop_zero, List.drop_nil, List.cons_append, List.nil_append, Option.toList_some, Option.toList_none, List.length_cons, List.length_nil, ne_eq, Classical.not_not, reduceCtorEq, Nat.reduceAdd, Nat.reduceSub, Nat.reduceMul, Nat.reduceLT, Nat.reduceLeDiff, Nat.reduceEqDiff, Nat.reduceBEq, Int.reduceToNat, Int.reduceLE, Int.reduceLT, Int.reduceEq, Int.reduceNeg, Int.reduceAdd, Int.reduceSub, Int.reduceMul, Int.toNat_natCast, Nat.zero_add, Int.add_zero, Nat.add_zero, ite_true, ite_false, Option.some.injEq, Nat.le_refl, or_true, true_or, or_false, false_or, if_pos, reduceIte, Nat.reduceGT]
          exact ih (r + 1) _ (by omega) hO4 hF4 hf
        · refine ⟨rcv_ok rfl own23 rfl, kV (x_lift j wk r N1 (by omega) (by omega)) (Nat.le_of_ble_eq_true rfl) rfl rfl (Nat.le_of_ble_eq_true rfl) (Nat.le_of_ble_eq_true rfl) rfl ?_⟩
          rw [h] at hf
          refine wpx_ok hS bk100 (sp := sp100) 60 102 _ _ _ _ ?_
          simp only [LCM, B2, Bool.not_eq_false, Bool.not_eq_true, decide_eq_true_eq, decide_eq_false_iff_not, Int.not_lt, Int.not_le, CST, TN, WX, WA, WB, GS, LOC, BT100, SP100, CLS, FLD, ARR, CD, true_and, and_true, and_self, forall_const, true_implies, false_implies, implies_true, not_true_eq_false, not_false_eq_true, if_true, if_false, rgI, rgL, scr, swl, lkl, cats, cat, is2, List.drop_succ_cons, List.drop_zero, List.drop_nil, List.cons_append, List.nil_append, Option.toList_some, Option.toList_none, List.length_cons, List.length_nil, ne_eq, Classical.not_not, reduceCtorEq, Nat.reduceAdd, Nat.reduceSub, Nat.reduceMul, Nat.reduceLT, Nat.reduceLeDiff, Nat.reduceEqDiff, Nat.reduceBEq, Int.reduceToNat, Int.reduceLE, Int.reduceLT, Int.reduceEq, Int.reduceNeg, Int.reduceAdd, Int.reduceSub, Int.reduceMul, Int.toNat_natCast, Nat.zero_add, Int.add_zero, Nat.add_zero, ite_true, ite_false, Option.some.injEq, Nat.le_refl, or_true, true_or, or_false, false_or, if_pos, reduceIte, Nat.reduceGT]
          have : S 54 [some (vR 0), some (vI w), some (vI j), some (vI wk), some (vI L), some (vI (oZ (some r) (-4))), some (vI ((r : Int) + 1))] [] (sh0, 0, 0) (mset N1 (35 + wk) r (bAnd (N1 (35 + wk) r) (bXor (bShl 1 j) (-1)))) := by
            refine wpx_ok hS bk100 (sp := (fun t => sp100 t || t == 108)) 60 54 _ _ _ _ ?_
            simp only [LCM, B2, Bool.not_eq_false, Bool.not_eq_true, decide_eq_true_eq, decide_eq_false_iff_not, Int.not_lt, Int.not_le, CST, TN, WX, WA, WB, GS, LOC, BT100, SP100, CLS, FLD, ARR, CD, true_and, and_true, and_self, forall_const, true_implies, false_implies, implies_true, not_true_eq_false, not_false_eq_true, if_true, if_false, rgI, rgL, scr, swl, lkl, cats, cat, is2, List.drop_succ_cons, List.drop_zero, List.drop_nil, List.cons_append, List.nil_append, Option.toList_some, Option.toList_none, List.length_cons, List.length_nil, ne_eq, Classical.not_not, reduceCtorEq, Nat.reduceAdd, Nat.reduceSub, Nat.reduceMul, Nat.reduceLT, Nat.reduceLeDiff, Nat.reduceEqDiff, Nat.reduceBEq, Int.reduceToNat, Int.reduceLE, Int.reduceLT, Int.reduceEq, Int.reduceNeg, Int.reduceAdd, Int.reduceSub, Int.reduceMul, Int.toNat_natCast, Nat.zero_add, Int.add_zero, Nat.add_zero, ite_true, ite_false, Option.some.injEq, Nat.le_refl, or_true, true_or, or_false, false_or, if_pos, reduceIte, Nat.reduceGT, Bool.or_false, Bool.false_or, Bool.or_true, Bool.true_or, beq_self_eq_true, Nat.reduceBEq]
            have hfn := fin _ (some r) (r + 1) hO4 hF4 hf
            refine ⟨by omega, fun _ => hfn, fun _ => ⟨?_, fun _ => hfn, fun hb => ?_⟩⟩
            · show rgI ((r : Nat) : Int)
              unfold rgI
              omega
            · have hb2 : ((r : Nat) : Int) = -4 := hb
              omega
          exact this
    rw [bx.1, hwk2]
    refine ⟨by omega, ?_⟩
    refine ⟨rcv_ok rfl own79 rfl, kI (x_weekLength j M T hC hW hj) (Nat.le_of_ble_eq_true rfl) rfl rfl (Nat.le_of_ble_eq_true rfl) (Nat.le_of_ble_eq_true rfl) rfl ?_⟩
    rw [hL]
    refine wpx_ok hS bk100 (sp := sp100) 60 27 _ _ _ _ ?_
    simp only [LCM, B2, Bool.not_eq_false, Bool.not_eq_true, decide_eq_true_eq, decide_eq_false_iff_not, Int.not_lt, Int.not_le, CST, TN, WX, WA, WB, GS, LOC, BT100, SP100, CLS, FLD, ARR, CD, true_and, and_true, and_self, forall_const, true_implies, false_implies, implies_true, not_true_eq_false, not_false_eq_true, if_true, if_false, rgI, rgL, scr, swl, lkl, cats, cat, is2, List.drop_succ_cons, List.drop_zero, List.drop_nil, List.cons_append, List.nil_append, Option.toList_some, Option.toList_none, List.length_cons, List.length_nil, ne_eq, Classical.not_not, reduceCtorEq, Nat.reduceAdd, Nat.reduceSub, Nat.reduceMul, Nat.reduceLT, Nat.reduceLeDiff, Nat.reduceEqDiff, Nat.reduceBEq, Int.reduceToNat, Int.reduceLE, Int.reduceLT, Int.reduceEq, Int.reduceNeg, Int.reduceAdd, Int.reduceSub, Int.reduceMul, Int.toNat_natCast, Nat.zero_add, Int.add_zero, Nat.add_zero, ite_true, ite_false, Option.some.injEq, Nat.le_refl, or_true, true_or, or_false, false_or, if_pos, reduceIte, Nat.reduceGT]
    rw [bx.2, hrs2]
    refine ⟨by omega, ?_⟩
    refine ⟨rcv_ok rfl own23 rfl, kV (x_lift j wk rs M (by omega) (by omega)) (Nat.le_of_ble_eq_true rfl) rfl rfl (Nat.le_of_ble_eq_true rfl) (Nat.le_of_ble_eq_true rfl) rfl ?_⟩
    refine wpx_ok hS bk100 (sp := sp100) 60 51 _ _ _ _ ?_
    simp only [LCM, B2, Bool.not_eq_false, Bool.not_eq_true, decide_eq_true_eq, decide_eq_false_iff_not, Int.not_lt, Int.not_le, CST, TN, WX, WA, WB, GS, LOC, BT100, SP100, CLS, FLD, ARR, CD, true_and, and_true, and_self, forall_const, true_implies, false_implies, implies_true, not_true_eq_false, not_false_eq_true, if_true, if_false, rgI, rgL, scr, swl, lkl, cats, cat, is2, List.drop_succ_cons, List.drop_zero, List.drop_nil, List.cons_append, List.nil_append, Option.toList_some, Option.toList_none, List.length_cons, List.length_nil, ne_eq, Classical.not_not, reduceCtorEq, Nat.reduceAdd, Nat.reduceSub, Nat.reduceMul, Nat.reduceLT, Nat.reduceLeDiff, Nat.reduceEqDiff, Nat.reduceBEq, Int.reduceToNat, Int.reduceLE, Int.reduceLT, Int.reduceEq, Int.reduceNeg, Int.reduceAdd, Int.reduceSub, Int.reduceMul, Int.toNat_natCast, Nat.zero_add, Int.add_zero, Nat.add_zero, ite_true, ite_false, Option.some.injEq, Nat.le_refl, or_true, true_or, or_false, false_or, if_pos, reduceIte, Nat.reduceGT]
    refine head L 0 _ (by omega) ((hR.lift (by omega) (by omega) (by omega) (by rw [hwk, hwk2]) (by rw [hrs, hrs2])).eqp hqf) (fun k x hk => ?_) (by unfold oneR; rw [elen, hL]; rfl)
    rw [ms_ne (by unfold ro at hk; omega)]
  · have h1 : skB T (T 63 (3 * w)).toNat j = false := h
    refine rt100 ⟨rfl, ?_, hR, fun _ _ _ => rfl⟩
    have hn : oneR T' w j = none := by
      unfold oneR
      refine fstF_none.mpr (fun r _ _ => ?_)
      rw [oneP_eq hev, evS_noskill, hev]
      · rfl
      · rw [g.eS, g.1 63 _ (by decide)]; exact h1
    rw [hn]
    rfl

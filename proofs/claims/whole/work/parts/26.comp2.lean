def gcF (a b : Nat) : Nat := a * b / perN a b
def gOK (a b : Nat) : Bool := decide (a < 2) || (decide (b < 2) || (decide (1 ≤ gcF a b) && (decide (gcF a b ≤ 12) && (decide (a % gcF a b = 0) && (decide (b % gcF a b = 0) && (decide (gcF a b ≤ a) && (decide (gcF a b ≤ b) && (List.range a).all (fun x => (List.range b).all (fun y => !decide (x % gcF a b = y % gcF a b) || (List.range 12).any (fun k => decide ((x + a * k) % b = y) && decide (x + a * k < perN a b)))))))))))
theorem g_all : (List.range 13).all (fun a => (List.range 13).all (fun b => gOK a b)) = true := by decide +kernel
theorem g_facts (a : Nat) (ha : a < 13) (ha2 : 2 ≤ a) (b : Nat) (hb : b < 13) (hb2 : 2 ≤ b) : 1 ≤ gcF a b ∧ gcF a b ≤ 12 ∧ a % gcF a b = 0 ∧ b % gcF a b = 0 ∧ gcF a b ≤ a ∧ gcF a b ≤ b ∧ ∀ x, x < a → ∀ y, y < b → x % gcF a b = y % gcF a b → ∃ d, d < perN a b ∧ d % a = x ∧ d % b = y := by
  have h := List.all_eq_true.mp (List.all_eq_true.mp g_all a (List.mem_range.mpr ha)) b (List.mem_range.mpr hb)
  unfold gOK at h
  rw [decide_eq_false (show ¬ a < 2 by omega), decide_eq_false (show ¬ b < 2 by omega), Bool.false_or, Bool.false_or] at h
  simp only [Bool.and_eq_true, decide_eq_true_eq] at h
  obtain ⟨h1, h2, h3, h4, h5, h6, h7⟩ := h
  refine ⟨h1, h2, h3, h4, h5, h6, fun x hx y hy hxy => ?_⟩
  have h8 := List.all_eq_true.mp (List.all_eq_true.mp h7 x (List.mem_range.mpr hx)) y (List.mem_range.mpr hy)
  rw [decide_eq_true hxy] at h8
  simp only [Bool.not_true, Bool.false_or] at h8
  obtain ⟨k, -, hk⟩ := List.any_eq_true.mp h8
  simp only [Bool.and_eq_true, decide_eq_true_eq] at hk
  exact ⟨x + a * k, hk.2, by rw [Nat.add_mul_mod_self_left, Nat.mod_eq_of_lt hx], hk.1⟩
theorem WFt.g {T : MM} (h : WFt T) : ∃ a b : Nat, T 57 0 = a ∧ T 57 1 = b ∧ 2 ≤ a ∧ a ≤ 12 ∧ 2 ≤ b ∧ b ≤ 12 ∧ gN T = gcF a b ∧ PN T = perN a b := by
  have h1 := h.1
  have h2 := h.2.1
  refine ⟨(T 57 0).toNat, (T 57 1).toNat, by omega, by omega, by omega, by omega, by omega, by omega, rfl, rfl⟩
theorem x_put (i w j : Nat) (M : MM) (hw : w = 0 ∨ w = 1) (hj : j < 12) : oV 1 22 [vR 32, vI i, vI w, vI j] M (mset M (35 + w) j (bOr (M (35 + w) j) (bShl 1 i))) := by
  refine go22 (fun S hS => ?_)
  rcases hw with rfl | rfl
  · refine wpx_ok hS bk22 (sp := sp22) 60 0 _ _ _ _ ?_
    simp only [LCM, B2, Bool.not_eq_false, Bool.not_eq_true, decide_eq_true_eq, decide_eq_false_iff_not, Int.not_lt, Int.not_le, CST, TN, WX, WA, WB, GS, LOC, BT22, SP22, CLS, FLD, ARR, CD, true_and, and_true, and_self, forall_const, true_implies, false_implies, implies_true, not_true_eq_false, not_false_eq_true, if_true, if_false, rgI, rgL, scr, swl, lkl, cats, cat, is2, List.drop_succ_cons, List.drop_zero, List.drop_nil, List.cons_append, List.nil_append, Option.toList_some, Option.toList_none, List.length_cons, List.length_nil, ne_eq, Classical.not_not, reduceCtorEq, Nat.reduceAdd, Nat.reduceSub, Nat.reduceMul, Nat.reduceLT, Nat.reduceLeDiff, Nat.reduceEqDiff, Nat.reduceBEq, Int.reduceToNat, Int.reduceLE, Int.reduceLT, Int.reduceEq, Int.reduceNeg, Int.reduceAdd, Int.reduceSub, Int.reduceMul, Int.toNat_natCast, Nat.zero_add, Int.add_zero, Nat.add_zero, ite_true, ite_false, Option.some.injEq, Nat.le_refl, or_true, true_or, or_false, false_or, if_pos, reduceIte, Nat.reduceGT]
    exact ⟨by omega, by omega, rt22 (Nat.le_refl _) (Nat.le_refl _) ⟨rfl, rfl, rfl⟩⟩
  · refine wpx_ok hS bk22 (sp := sp22) 60 0 _ _ _ _ ?_
    simp only [LCM, B2, Bool.not_eq_false, Bool.not_eq_true, decide_eq_true_eq, decide_eq_false_iff_not, Int.not_lt, Int.not_le, CST, TN, WX, WA, WB, GS, LOC, BT22, SP22, CLS, FLD, ARR, CD, true_and, and_true, and_self, forall_const, true_implies, false_implies, implies_true, not_true_eq_false, not_false_eq_true, if_true, if_false, rgI, rgL, scr, swl, lkl, cats, cat, is2, List.drop_succ_cons, List.drop_zero, List.drop_nil, List.cons_append, List.nil_append, Option.toList_some, Option.toList_none, List.length_cons, List.length_nil, ne_eq, Classical.not_not, reduceCtorEq, Nat.reduceAdd, Nat.reduceSub, Nat.reduceMul, Nat.reduceLT, Nat.reduceLeDiff, Nat.reduceEqDiff, Nat.reduceBEq, Int.reduceToNat, Int.reduceLE, Int.reduceLT, Int.reduceEq, Int.reduceNeg, Int.reduceAdd, Int.reduceSub, Int.reduceMul, Int.toNat_natCast, Nat.zero_add, Int.add_zero, Nat.add_zero, ite_true, ite_false, Option.some.injEq, Nat.le_refl, or_true, true_or, or_false, false_or, if_pos, reduceIte, Nat.reduceGT]
    exact ⟨by omega, by omega, rt22 (Nat.le_refl _) (Nat.le_refl _) ⟨rfl, rfl, rfl⟩⟩
theorem x_lift (i w j : Nat) (M : MM) (hw : w = 0 ∨ w = 1) (hj : j < 12) : oV 1 23 [vR 32, vI i, vI w, vI j] M (mset M (35 + w) j (bAnd (M (35 + w) j) (bXor (bShl 1 i) (-1)))) := by
  refine go23 (fun S hS => ?_)
  rcases hw with rfl | rfl
  · refine wpx_ok hS bk23 (sp := sp23) 60 0 _ _ _ _ ?_
    simp only [LCM, B2, Bool.not_eq_false, Bool.not_eq_true, decide_eq_true_eq, decide_eq_false_iff_not, Int.not_lt, Int.not_le, CST, TN, WX, WA, WB, GS, LOC, BT23, SP23, CLS, FLD, ARR, CD, true_and, and_true, and_self, forall_const, true_implies, false_implies, implies_true, not_true_eq_false, not_false_eq_true, if_true, if_false, rgI, rgL, scr, swl, lkl, cats, cat, is2, List.drop_succ_cons, List.drop_zero, List.drop_nil, List.cons_append, List.nil_append, Option.toList_some, Option.toList_none, List.length_cons, List.length_nil, ne_eq, Classical.not_not, reduceCtorEq, Nat.reduceAdd, Nat.reduceSub, Nat.reduceMul, Nat.reduceLT, Nat.reduceLeDiff, Nat.reduceEqDiff, Nat.reduceBEq, Int.reduceToNat, Int.reduceLE, Int.reduceLT, Int.reduceEq, Int.reduceNeg, Int.reduceAdd, Int.reduceSub, Int.reduceMul, Int.toNat_natCast, Nat.zero_add, Int.add_zero, Nat.add_zero, ite_true, ite_false, Option.some.injEq, Nat.le_refl, or_true, true_or, or_false, false_or, if_pos, reduceIte, Nat.reduceGT]
    exact ⟨by omega, by omega, rt23 (Nat.le_refl _) (Nat.le_refl _) ⟨rfl, rfl, rfl⟩⟩
  · refine wpx_ok hS bk23 (sp := sp23) 60 0 _ _ _ _ ?_
    simp only [LCM, B2, Bool.not_eq_false, Bool.not_eq_true, decide_eq_true_eq, decide_eq_false_iff_not, Int.not_lt, Int.not_le, CST, TN, WX, WA, WB, GS, LOC, BT23, SP23, CLS, FLD, ARR, CD, true_and, and_true, and_self, forall_const, true_implies, false_implies, implies_true, not_true_eq_false, not_false_eq_true, if_true, if_false, rgI, rgL, scr, swl, lkl, cats, cat, is2, List.drop_succ_cons, List.drop_zero, List.drop_nil, List.cons_append, List.nil_append, Option.toList_some, Option.toList_none, List.length_cons, List.length_nil, ne_eq, Classical.not_not, reduceCtorEq, Nat.reduceAdd, Nat.reduceSub, Nat.reduceMul, Nat.reduceLT, Nat.reduceLeDiff, Nat.reduceEqDiff, Nat.reduceBEq, Int.reduceToNat, Int.reduceLE, Int.reduceLT, Int.reduceEq, Int.reduceNeg, Int.reduceAdd, Int.reduceSub, Int.reduceMul, Int.toNat_natCast, Nat.zero_add, Int.add_zero, Nat.add_zero, ite_true, ite_false, Option.some.injEq, Nat.le_refl, or_true, true_or, or_false, false_or, if_pos, reduceIte, Nat.reduceGT]
    exact ⟨by omega, by omega, rt23 (Nat.le_refl _) (Nat.le_refl _) ⟨rfl, rfl, rfl⟩⟩
theorem rs_split {T : MM} (h : WFt T) {a b : Nat} (ha : T 57 0 = a) (hb : T 57 1 = b) (d : Nat) {i : Nat} (hi : i < hN T) : rsB T d i = (rk T 0 (d % a) i || rk T 1 (d % b) i) := by
  unfold rsB rk len
  rcases (h.hs hi).1 with h1 | h1
  · rw [h1]
    have e1 : (d : Int) % T 57 (Int.toNat 0) = ((d % a : Nat) : Int) := by
      show (d : Int) % T 57 0 = _
      rw [ha, Int.natCast_emod]
    rw [e1, decide_eq_false (show ¬ ((0 : Int) = ((1 : Nat) : Int) ∧ T 61 (4 * i + 1) = ((d % b : Nat) : Int)) by omega), Bool.or_false]
    apply decide_eq_decide.mpr
    omega
  · rw [h1]
    have e1 : (d : Int) % T 57 (Int.toNat 1) = ((d % b : Nat) : Int) := by
      show (d : Int) % T 57 1 = _
      rw [hb, Int.natCast_emod]
    rw [e1, decide_eq_false (show ¬ ((1 : Int) = ((0 : Nat) : Int) ∧ T 61 (4 * i + 1) = ((d % a : Nat) : Int)) by omega), Bool.false_or]
    apply decide_eq_decide.mpr
    omega
theorem x_restingOn (d : Int) (M T : MM) (p : Nat → Bool) (hW : WFt T) (hR : RO M T p) (hp : ∀ i, p i = true → i < hN T) (hd : 0 ≤ d ∧ d ≤ 100000000000000000) : oI 1 24 [vR 32, vL d] M (mk (fun i => p i && rsB T d i)) := by
  obtain ⟨a, b, ha, hb, a2, a12, b2, b12, -, -⟩ := hW.g
  obtain ⟨n, rfl⟩ : ∃ n : Nat, d = (n : Int) := ⟨d.toNat, by omega⟩
  have hMa : max 1 (M 33 0) = (a : Int) := by rw [hR.1.1, ha, Int.max_eq_right (by omega)]
  have hMb : max 1 (M 33 1) = (b : Int) := by rw [hR.1.2.1, hb, Int.max_eq_right (by omega)]
  have h1 : M 33 0 = (a : Int) := by rw [hR.1.1, ha]
  have h2 : M 33 1 = (b : Int) := by rw [hR.1.2.1, hb]
  have ma : n % a < a := Nat.mod_lt _ (by omega)
  have mb : n % b < b := Nat.mod_lt _ (by omega)
  refine go24 (fun S hS => ?_)
  refine wpx_ok hS bk24 (sp := sp24) 60 0 _ _ _ _ ?_
  simp only [LCM, B2, Bool.not_eq_false, Bool.not_eq_true, decide_eq_true_eq, decide_eq_false_iff_not, Int.not_lt, Int.not_le, CST, TN, WX, WA, WB, GS, LOC, BT24, SP24, CLS, FLD, ARR, CD, true_and, and_true, and_self, forall_const, true_implies, false_implies, implies_true, not_true_eq_false, not_false_eq_true, if_true, if_false, rgI, rgL, scr, swl, lkl, cats, cat, is2, List.drop_succ_cons, List.drop_zero, List.drop_nil, List.cons_append, List.nil_append, Option.toList_some, Option.toList_none, List.length_cons, List.length_nil, ne_eq, Classical.not_not, reduceCtorEq, Nat.reduceAdd, Nat.reduceSub, Nat.reduceMul, Nat.reduceLT, Nat.reduceLeDiff, Nat.reduceEqDiff, Nat.reduceBEq, Int.reduceToNat, Int.reduceLE, Int.reduceLT, Int.reduceEq, Int.reduceNeg, Int.reduceAdd, Int.reduceSub, Int.reduceMul, Int.toNat_natCast, Nat.zero_add, Int.add_zero, Nat.add_zero, ite_true, ite_false, Option.some.injEq, Nat.le_refl, or_true, true_or, or_false, false_or, if_pos, reduceIte, Nat.reduceGT]
  rw [hMa, hMb, h1, h2, ← Int.natCast_emod, ← Int.natCast_emod]
  simp only [Int.toNat_natCast]
  refine ⟨by omega, by omega, by omega, by omega, by omega, by omega, by omega, by omega, ?_⟩
  refine rt24 ⟨rfl, ?_, rfl⟩
  rw [(hR.2 (n % a) (by omega)).1, (hR.2 (n % b) (by omega)).2, mk_or]
  congr 2
  refine mk_eq (fun i _ => ?_)
  cases hpi : p i with
  | false => rfl
  | true => rw [rs_split hW ha hb n (hp i hpi)]; simp
/-! the most at rest on one day -/
def MX (P : Nat → Prop) (c : Nat → Int) (v : Int) : Prop := (∃ j, P j ∧ v = c j) ∧ ∀ j, P j → c j ≤ v
theorem MX.uniq {P : Nat → Prop} {c : Nat → Int} {v w : Int} (h : MX P c v) (g : MX P c w) : v = w := by
  obtain ⟨⟨j, h1, h2⟩, h3⟩ := h
  obtain ⟨⟨k, g1, g2⟩, g3⟩ := g
  have := h3 k g1
  have := g3 j h1
  omega
def cW (T : MM) (p q : Nat → Bool) (w j : Nat) : Int := cnt (fun i => (p i && rk T w j i) && q i) 10
theorem x_mostOfWeek (w f : Nat) (M T : MM) (p q : Nat → Bool) (hW : WFt T) (hR : RO M T p) (hw : w = 0 ∨ w = 1) (hf : f < gN T) : oQ 2 26 [vR 32, vI w, vI f, vI (mk q)] M (fun r M' => M' = M ∧ ∃ v, r = some (Sum.inl v) ∧ 0 ≤ v ∧ v ≤ 10 ∧ MX (fun j => (j : Int) < T 57 w ∧ j % gN T = f) (cW T p q w) v) := by
  obtain ⟨a, b, ha, hb, a2, a12, b2, b12, hg, -⟩ := hW.g
  obtain ⟨g1, g2, g3, g4, g5, g6, -⟩ := g_facts a (by omega) a2 b (by omega) b2
  rw [hg] at hf ⊢
  have hM : M 32 2 = (gcF a b : Int) := by rw [hR.1.2.2, hg]
  have hcw := fun j => cnt_rg (fun i => (p i && rk T w j i) && q i) 10
  obtain ⟨L, hL, hML, hL2, hLg, hL12⟩ : ∃ L : Nat, T 57 w = L ∧ M 33 w = L ∧ gcF a b ≤ L ∧ L % gcF a b = 0 ∧ L ≤ 12 := by
    rcases hw with rfl | rfl
    · exact ⟨a, ha, by rw [hR.1.1, ha], g5, g3, a12⟩
    · exact ⟨b, hb, by rw [hR.1.2.1, hb], g6, g4, b12⟩
  have hcell : ∀ j, j < 12 → bAnd (M (35 + w) j) (mk q) = mk (fun i => (p i && rk T w j i) && q i) := by
    intro j hj
    rcases hw with rfl | rfl
    · rw [(hR.2 j hj).1, mk_and]
    · rw [(hR.2 j hj).2, mk_and]
  rw [hL]
  refine go26 (fun S hS => ?_)
  have head : ∀ (n k : Nat) (v : Int), f + k * gcF a b + n = 200 → 0 ≤ v → v ≤ 10 → (k = 0 → v = 0) → (0 < k → ∃ j : Nat, j < L ∧ j % gcF a b = f ∧ v = cW T p q w j) → (∀ j, j < f + k * gcF a b → j < L → j % gcF a b = f → cW T p q w j ≤ v) → (k = 0 ∨ f + (k - 1) * gcF a b < L) →
      S 16 [some (vR 32), some (vI w), some (vI f), some (vI (mk q)), some (vI (gcF a b)), some (vI v), some (vI ((f + k * gcF a b : Nat) : Int))] [] (sh0, 0, 0) M := by
    intro n
    induction n using Nat.strongRecOn with
    | ind n ih =>
      intro k v hk hv0 hv1 hz hex hall hprev
      have hkm : (k + 1) * gcF a b = k * gcF a b + gcF a b := by rw [Nat.add_mul, Nat.one_mul]
      have hmod : (f + k * gcF a b) % gcF a b = f := by rw [Nat.add_mul_mod_self_right, Nat.mod_eq_of_lt hf]
      have hfin : (L : Int) ≤ ((f + k * gcF a b : Nat) : Int) → Rtn 26 0 0 (fun r sh M' => sh = sh0 ∧ M' = M ∧ ∃ v, r = some (Sum.inl v) ∧ 0 ≤ v ∧ v ≤ 10 ∧ MX (fun j => (j : Int) < L ∧ j % gcF a b = f) (cW T p q w) v) (some (Sum.inl v)) (sh0, 0, 0) M := by
        intro h
        have hk0 : 0 < k := by
          rcases Nat.eq_zero_or_pos k with h0 | h0
          · subst h0; omega
          · exact h0
        obtain ⟨j, j1, j2, j3⟩ := hex hk0
        exact rt26 ⟨rfl, rfl, v, rfl, hv0, hv1, ⟨j, ⟨by omega, j2⟩, j3⟩, fun j hj => hall j (by omega) (by omega) hj.2⟩
      have step : (f + k * gcF a b : Nat) < L → S 43 [some (vR 32), some (vI w), some (vI f), some (vI (mk q)), some (vI (gcF a b)), some (vI v), some (vI ((f + k * gcF a b : Nat) : Int))] [vI (cW T p q w (f + k * gcF a b)), vI v] (sh0, 0, 0) M := by
        intro hlt
        have hc := hcw (f + k * gcF a b)
        have hc2 : 0 ≤ cW T p q w (f + k * gcF a b) ∧ cW T p q w (f + k * gcF a b) ≤ 10 := hc
        refine wpx_ok hS bk26 (sp := sp26) 60 43 _ _ _ _ ?_
        simp only [LCM, B2, Bool.not_eq_false, Bool.not_eq_true, decide_eq_true_eq, decide_eq_false_iff_not, Int.not_lt, Int.not_le, CST, TN, WX, WA, WB, GS, LOC, BT26, SP26, CLS, FLD, ARR, CD, true_and, and_true, and_self, forall_const, true_implies, false_implies, implies_true, not_true_eq_false, not_false_eq_true, if_true, if_false, rgI, rgL, scr, swl, lkl, cats, cat, is2, List.drop_succ_cons, List.drop_zero, List.drop_nil, List.cons_append, List.nil_append, Option.toList_some, Option.toList_none, List.length_cons, List.length_nil, ne_eq, Classical.not_not, reduceCtorEq, Nat.reduceAdd, Nat.reduceSub, Nat.reduceMul, Nat.reduceLT, Nat.reduceLeDiff, Nat.reduceEqDiff, Nat.reduceBEq, Int.reduceToNat, Int.reduceLE, Int.reduceLT, Int.reduceEq, Int.reduceNeg, Int.reduceAdd, Int.reduceSub, Int.reduceMul, Int.toNat_natCast, Nat.zero_add, Int.add_zero, Nat.add_zero, ite_true, ite_false, Option.some.injEq, Nat.le_refl, or_true, true_or, or_false, false_or, if_pos, reduceIte, Nat.reduceGT]
        refine ⟨by omega, by omega, ?_⟩
        have := ih (n - gcF a b) (by omega) (k + 1) (max v (cW T p q w (f + k * gcF a b))) (by omega) (by omega) (by omega) (by omega) (fun _ => ?_) (fun j h1 h2 h3 => ?_) (Or.inr (by rw [Nat.add_sub_cancel]; exact hlt))
        · rw [show ((f + (k + 1) * gcF a b : Nat) : Int) = ((f + k * gcF a b : Nat) : Int) + (gcF a b : Int) by omega] at this
          exact this
        · by_cases hvc : v ≤ cW T p q w (f + k * gcF a b)
          · exact ⟨f + k * gcF a b, hlt, hmod, Int.max_eq_right hvc⟩
          · have hk0 : 0 < k := by
              rcases Nat.eq_zero_or_pos k with h0 | h0
              · have := hz h0; omega
              · exact h0
            obtain ⟨j, j1, j2, j3⟩ := hex hk0
            exact ⟨j, j1, j2, by rw [Int.max_eq_left (by omega)]; exact j3⟩
        · by_cases hj : j < f + k * gcF a b
          · have := hall j hj h2 h3
            omega
          · have hje : j = f + k * gcF a b := by
              have hd1 := Nat.div_add_mod j (gcF a b)
              have hd2 := Nat.div_add_mod (f + k * gcF a b) (gcF a b)
              rw [h3] at hd1
              rw [hmod] at hd2
              have e1 : (f + k * gcF a b) / gcF a b = k := by rw [Nat.add_mul_div_right _ _ (by omega), Nat.div_eq_of_lt hf]; omega
              have e2 : k ≤ j / gcF a b := by
                rw [← e1]
                exact Nat.div_le_div_right (by omega)
              have e3 : j / gcF a b < k + 1 := by
                rw [Nat.div_lt_iff_lt_mul (by omega)]
                have : f + gcF a b ≤ gcF a b + gcF a b := by omega
                rcases Nat.lt_or_ge j ((k + 1) * gcF a b) with h | h
                · exact h
                · exfalso
                  have e5 : k + 1 ≤ j / gcF a b := (Nat.le_div_iff_mul_le (by omega)).mpr h
                  have e6 : gcF a b * (k + 1) ≤ gcF a b * (j / gcF a b) := Nat.mul_le_mul_left _ e5
                  rw [Nat.mul_comm (gcF a b) (k + 1)] at e6
                  omega
              have e4 : j / gcF a b = k := by omega
              rw [e4] at hd1
              rw [Nat.mul_comm] at hd1
              omega
            rw [hje]
            omega
      have hbnd : f + k * gcF a b ≤ 200 := by omega
      rcases hw with rfl | rfl
      · refine wpx_ok hS bk26 (sp := sp26) 60 16 _ _ _ _ ?_
        simp only [LCM, B2, Bool.not_eq_false, Bool.not_eq_true, decide_eq_true_eq, decide_eq_false_iff_not, Int.not_lt, Int.not_le, CST, TN, WX, WA, WB, GS, LOC, BT26, SP26, CLS, FLD, ARR, CD, true_and, and_true, and_self, forall_const, true_implies, false_implies, implies_true, not_true_eq_false, not_false_eq_true, if_true, if_false, rgI, rgL, scr, swl, lkl, cats, cat, is2, List.drop_succ_cons, List.drop_zero, List.drop_nil, List.cons_append, List.nil_append, Option.toList_some, Option.toList_none, List.length_cons, List.length_nil, ne_eq, Classical.not_not, reduceCtorEq, Nat.reduceAdd, Nat.reduceSub, Nat.reduceMul, Nat.reduceLT, Nat.reduceLeDiff, Nat.reduceEqDiff, Nat.reduceBEq, Int.reduceToNat, Int.reduceLE, Int.reduceLT, Int.reduceEq, Int.reduceNeg, Int.reduceAdd, Int.reduceSub, Int.reduceMul, Int.toNat_natCast, Nat.zero_add, Int.add_zero, Nat.add_zero, ite_true, ite_false, Option.some.injEq, Nat.le_refl, or_true, true_or, or_false, false_or, if_pos, reduceIte, Nat.reduceGT]
        rw [hML]
        refine ⟨by omega, hfin, fun h => ⟨by omega, ?_⟩⟩
        have hb1 := hcell (f + k * gcF a b) (by omega)
        rw [show M 35 (f + k * gcF a b) = M (35 + 0) (f + k * gcF a b) from rfl, hb1]
        refine kI (c_bitCount (fun i => (p i && rk T 0 (f + k * gcF a b) i) && q i) M) (Nat.le_of_ble_eq_true rfl) rfl rfl (Nat.le_of_ble_eq_true rfl) (Nat.le_of_ble_eq_true rfl) rfl ?_
        exact step (by omega)
      · refine wpx_ok hS bk26 (sp := sp26) 60 16 _ _ _ _ ?_
        simp only [LCM, B2, Bool.not_eq_false, Bool.not_eq_true, decide_eq_true_eq, decide_eq_false_iff_not, Int.not_lt, Int.not_le, CST, TN, WX, WA, WB, GS, LOC, BT26, SP26, CLS, FLD, ARR, CD, true_and, and_true, and_self, forall_const, true_implies, false_implies, implies_true, not_true_eq_false, not_false_eq_true, if_true, if_false, rgI, rgL, scr, swl, lkl, cats, cat, is2, List.drop_succ_cons, List.drop_zero, List.drop_nil, List.cons_append, List.nil_append, Option.toList_some, Option.toList_none, List.length_cons, List.length_nil, ne_eq, Classical.not_not, reduceCtorEq, Nat.reduceAdd, Nat.reduceSub, Nat.reduceMul, Nat.reduceLT, Nat.reduceLeDiff, Nat.reduceEqDiff, Nat.reduceBEq, Int.reduceToNat, Int.reduceLE, Int.reduceLT, Int.reduceEq, Int.reduceNeg, Int.reduceAdd, Int.reduceSub, Int.reduceMul, Int.toNat_natCast, Nat.zero_add, Int.add_zero, Nat.add_zero, ite_true, ite_false, Option.some.injEq, Nat.le_refl, or_true, true_or, or_false, false_or, if_pos, reduceIte, Nat.reduceGT]
        rw [hML]
        refine ⟨by omega, hfin, fun h => ⟨by omega, ?_⟩⟩
        have hb1 := hcell (f + k * gcF a b) (by omega)
        rw [show M 36 (f + k * gcF a b) = M (35 + 1) (f + k * gcF a b) from rfl, hb1]
        refine kI (c_bitCount (fun i => (p i && rk T 1 (f + k * gcF a b) i) && q i) M) (Nat.le_of_ble_eq_true rfl) rfl rfl (Nat.le_of_ble_eq_true rfl) (Nat.le_of_ble_eq_true rfl) rfl ?_
        exact step (by omega)
  refine wpx_ok hS bk26 (sp := sp26) 60 0 _ _ _ _ ?_
  simp only [LCM, B2, Bool.not_eq_false, Bool.not_eq_true, decide_eq_true_eq, decide_eq_false_iff_not, Int.not_lt, Int.not_le, CST, TN, WX, WA, WB, GS, LOC, BT26, SP26, CLS, FLD, ARR, CD, true_and, and_true, and_self, forall_const, true_implies, false_implies, implies_true, not_true_eq_false, not_false_eq_true, if_true, if_false, rgI, rgL, scr, swl, lkl, cats, cat, is2, List.drop_succ_cons, List.drop_zero, List.drop_nil, List.cons_append, List.nil_append, Option.toList_some, Option.toList_none, List.length_cons, List.length_nil, ne_eq, Classical.not_not, reduceCtorEq, Nat.reduceAdd, Nat.reduceSub, Nat.reduceMul, Nat.reduceLT, Nat.reduceLeDiff, Nat.reduceEqDiff, Nat.reduceBEq, Int.reduceToNat, Int.reduceLE, Int.reduceLT, Int.reduceEq, Int.reduceNeg, Int.reduceAdd, Int.reduceSub, Int.reduceMul, Int.toNat_natCast, Nat.zero_add, Int.add_zero, Nat.add_zero, ite_true, ite_false, Option.some.injEq, Nat.le_refl, or_true, true_or, or_false, false_or, if_pos, reduceIte, Nat.reduceGT]
  rw [hM, Int.max_eq_right (by omega)]
  have := head (200 - f) 0 0 (by omega) (by omega) (by omega) (fun _ => rfl) (fun h => absurd h (by omega)) (fun j h1 h2 h3 => by
    exfalso
    rw [Nat.mod_eq_of_lt (by omega)] at h3
    omega) (Or.inl rfl)
  rw [show ((f + 0 * gcF a b : Nat) : Int) = (f : Int) by omega] at this
  exact ⟨by omega, this⟩
/-- how many of q rest on a day -/
def cD (T : MM) (p q : Nat → Bool) (d : Nat) : Int := cnt (fun i => (p i && rsB T d i) && q i) 10
theorem cD_split {T : MM} (h : WFt T) {p q : Nat → Bool} (hp : ∀ i, p i = true → i < hN T) {a b : Nat} (ha : T 57 0 = a) (hb : T 57 1 = b) (d : Nat) : cD T p q d = cW T p q 0 (d % a) + cW T p q 1 (d % b) := by
  unfold cD cW
  rw [← cnt_add]
  · refine cnt_eq (fun i _ => ?_)
    cases hpi : p i with
    | false => simp
    | true =>
      rw [rs_split h ha hb d (hp i hpi)]
      cases rk T 0 (d % a) i <;> cases rk T 1 (d % b) i <;> cases q i <;> rfl
  · intro i _ hc
    simp only [Bool.and_eq_true] at hc
    have h1 := of_decide_eq_true hc.1.1.2
    have h2 := of_decide_eq_true hc.2.1.2
    omega
theorem x_mostResting (M T : MM) (p q : Nat → Bool) (hW : WFt T) (hR : RO M T p) (hp : ∀ i, p i = true → i < hN T) : oQ 3 25 [vR 32, vI (mk q)] M (fun r M' => M' = M ∧ ∃ v, r = some (Sum.inl v) ∧ 0 ≤ v ∧ v ≤ 10 ∧ MX (fun d => d < PN T) (cD T p q) v) := by
  obtain ⟨a, b, ha, hb, a2, a12, b2, b12, hg, hP⟩ := hW.g
  obtain ⟨g1, g2, g3, g4, g5, g6, g7⟩ := g_facts a (by omega) a2 b (by omega) b2
  have hM : M 32 2 = (gcF a b : Int) := by rw [hR.1.2.2, hg]
  have hcr : ∀ d, 0 ≤ cD T p q d ∧ cD T p q d ≤ 10 := fun d => cnt_rg _ 10
  have hda : ∀ d : Nat, d % a % gcF a b = d % gcF a b := fun d => Nat.mod_mod_of_dvd d (Nat.dvd_of_mod_eq_zero g3)
  have hdb : ∀ d : Nat, d % b % gcF a b = d % gcF a b := fun d => Nat.mod_mod_of_dvd d (Nat.dvd_of_mod_eq_zero g4)
  rw [hP]
  refine go25 (fun S hS => ?_)
  have head : ∀ (n f : Nat) (v : Int), f + n = gcF a b → 0 ≤ v → v ≤ 10 → (f = 0 → v = 0) → (0 < f → ∃ d, d < perN a b ∧ v = cD T p q d) → (∀ d, d < perN a b → d % gcF a b < f → cD T p q d ≤ v) → S 4 [some (vR 32), some (vI (mk q)), some (vI v), some (vI f)] [] (sh0, 0, 0) M := by
    intro n
    induction n with
    | zero =>
      intro f v hf h0 h1 hz hex hall
      refine wpx_ok hS bk25 (sp := sp25) 60 4 _ _ _ _ ?_
      simp only [LCM, B2, Bool.not_eq_false, Bool.not_eq_true, decide_eq_true_eq, decide_eq_false_iff_not, Int.not_lt, Int.not_le, CST, TN, WX, WA, WB, GS, LOC, BT25, SP25, CLS, FLD, ARR, CD, true_and, and_true, and_self, forall_const, true_implies, false_implies, implies_true, not_true_eq_false, not_false_eq_true, if_true, if_false, rgI, rgL, scr, swl, lkl, cats, cat, is2, List.drop_succ_cons, List.drop_zero, List.drop_nil, List.cons_append, List.nil_append, Option.toList_some, Option.toList_none, List.length_cons, List.length_nil, ne_eq, Classical.not_not, reduceCtorEq, Nat.reduceAdd, Nat.reduceSub, Nat.reduceMul, Nat.reduceLT, Nat.reduceLeDiff, Nat.reduceEqDiff, Nat.reduceBEq, Int.reduceToNat, Int.reduceLE, Int.reduceLT, Int.reduceEq, Int.reduceNeg, Int.reduceAdd, Int.reduceSub, Int.reduceMul, Int.toNat_natCast, Nat.zero_add, Int.add_zero, Nat.add_zero, ite_true, ite_false, Option.some.injEq, Nat.le_refl, or_true, true_or, or_false, false_or, if_pos, reduceIte, Nat.reduceGT]
      rw [hM]
      refine ⟨by omega, fun h => ?_, fun h => by omega⟩
      exact rt25 ⟨rfl, rfl, v, rfl, h0, h1, hex (by omega), fun d hd => hall d hd (by have := Nat.mod_lt d (show 0 < gcF a b by omega); omega)⟩
    | succ n ih =>
      intro f v hf h0 h1 hz hex hall
      refine wpx_ok hS bk25 (sp := sp25) 60 4 _ _ _ _ ?_
      simp only [LCM, B2, Bool.not_eq_false, Bool.not_eq_true, decide_eq_true_eq, decide_eq_false_iff_not, Int.not_lt, Int.not_le, CST, TN, WX, WA, WB, GS, LOC, BT25, SP25, CLS, FLD, ARR, CD, true_and, and_true, and_self, forall_const, true_implies, false_implies, implies_true, not_true_eq_false, not_false_eq_true, if_true, if_false, rgI, rgL, scr, swl, lkl, cats, cat, is2, List.drop_succ_cons, List.drop_zero, List.drop_nil, List.cons_append, List.nil_append, Option.toList_some, Option.toList_none, List.length_cons, List.length_nil, ne_eq, Classical.not_not, reduceCtorEq, Nat.reduceAdd, Nat.reduceSub, Nat.reduceMul, Nat.reduceLT, Nat.reduceLeDiff, Nat.reduceEqDiff, Nat.reduceBEq, Int.reduceToNat, Int.reduceLE, Int.reduceLT, Int.reduceEq, Int.reduceNeg, Int.reduceAdd, Int.reduceSub, Int.reduceMul, Int.toNat_natCast, Nat.zero_add, Int.add_zero, Nat.add_zero, ite_true, ite_false, Option.some.injEq, Nat.le_refl, or_true, true_or, or_false, false_or, if_pos, reduceIte, Nat.reduceGT]
      rw [hM]
      refine ⟨by omega, fun h => by omega, fun h => ?_⟩
      refine ⟨rcv_ok rfl own26 rfl, kQ (x_mostOfWeek 0 f M T p q hW hR (Or.inl rfl) (by omega)) (Nat.le_of_ble_eq_true rfl) rfl rfl (Nat.le_of_ble_eq_true rfl) (Nat.le_of_ble_eq_true rfl) rfl ?_⟩
      rintro r M' ⟨rfl, v0, rfl, v01, v02, ⟨j0, ⟨j01, j02⟩, j03⟩, hm0⟩
      refine wpx_ok hS bk25 (sp := sp25) 60 20 _ _ _ _ ?_
      simp only [LCM, B2, Bool.not_eq_false, Bool.not_eq_true, decide_eq_true_eq, decide_eq_false_iff_not, Int.not_lt, Int.not_le, CST, TN, WX, WA, WB, GS, LOC, BT25, SP25, CLS, FLD, ARR, CD, true_and, and_true, and_self, forall_const, true_implies, false_implies, implies_true, not_true_eq_false, not_false_eq_true, if_true, if_false, rgI, rgL, scr, swl, lkl, cats, cat, is2, List.drop_succ_cons, List.drop_zero, List.drop_nil, List.cons_append, List.nil_append, Option.toList_some, Option.toList_none, List.length_cons, List.length_nil, ne_eq, Classical.not_not, reduceCtorEq, Nat.reduceAdd, Nat.reduceSub, Nat.reduceMul, Nat.reduceLT, Nat.reduceLeDiff, Nat.reduceEqDiff, Nat.reduceBEq, Int.reduceToNat, Int.reduceLE, Int.reduceLT, Int.reduceEq, Int.reduceNeg, Int.reduceAdd, Int.reduceSub, Int.reduceMul, Int.toNat_natCast, Nat.zero_add, Int.add_zero, Nat.add_zero, ite_true, ite_false, Option.some.injEq, Nat.le_refl, or_true, true_or, or_false, false_or, if_pos, reduceIte, Nat.reduceGT]
      refine ⟨rcv_ok rfl own26 rfl, kQ (x_mostOfWeek 1 f M' T p q hW hR (Or.inr rfl) (by omega)) (Nat.le_of_ble_eq_true rfl) rfl rfl (Nat.le_of_ble_eq_true rfl) (Nat.le_of_ble_eq_true rfl) rfl ?_⟩
      rintro r M'' ⟨rfl, v1, rfl, v11, v12, ⟨j1, ⟨j11, j12⟩, j13⟩, hm1⟩
      rw [hg] at j02 hm0 j12 hm1
      rw [ha] at j01 hm0
      rw [hb] at j11 hm1
      obtain ⟨d0, hd0, hd1, hd2⟩ := g7 j0 (by omega) j1 (by omega) (by rw [j02, j12])
      have hsum : v0 + v1 = cD T p q d0 := by rw [cD_split hW hp ha hb d0, hd1, hd2, j03, j13]
      have hcd := hcr d0
      refine wpx_ok hS bk25 (sp := sp25) 60 27 _ _ _ _ ?_
      simp only [LCM, B2, Bool.not_eq_false, Bool.not_eq_true, decide_eq_true_eq, decide_eq_false_iff_not, Int.not_lt, Int.not_le, CST, TN, WX, WA, WB, GS, LOC, BT25, SP25, CLS, FLD, ARR, CD, true_and, and_true, and_self, forall_const, true_implies, false_implies, implies_true, not_true_eq_false, not_false_eq_true, if_true, if_false, rgI, rgL, scr, swl, lkl, cats, cat, is2, List.drop_succ_cons, List.drop_zero, List.drop_nil, List.cons_append, List.nil_append, Option.toList_some, Option.toList_none, List.length_cons, List.length_nil, ne_eq, Classical.not_not, reduceCtorEq, Nat.reduceAdd, Nat.reduceSub, Nat.reduceMul, Nat.reduceLT, Nat.reduceLeDiff, Nat.reduceEqDiff, Nat.reduceBEq, Int.reduceToNat, Int.reduceLE, Int.reduceLT, Int.reduceEq, Int.reduceNeg, Int.reduceAdd, Int.reduceSub, Int.reduceMul, Int.toNat_natCast, Nat.zero_add, Int.add_zero, Nat.add_zero, ite_true, ite_false, Option.some.injEq, Nat.le_refl, or_true, true_or, or_false, false_or, if_pos, reduceIte, Nat.reduceGT]
      refine ⟨by omega, by omega, ?_⟩
      refine ih (f + 1) (max v (v0 + v1)) (by omega) (by omega) (by omega) (by omega) (fun _ => ?_) (fun d hd hdf => ?_)
      · by_cases hvv : v ≤ v0 + v1
        · exact ⟨d0, hd0, by rw [Int.max_eq_right hvv]; exact hsum⟩
        · rcases Nat.eq_zero_or_pos f with hf0 | hf0
          · have := hz hf0; omega
          · obtain ⟨d, hd, he⟩ := hex hf0
            exact ⟨d, hd, by rw [Int.max_eq_left (by omega)]; exact he⟩
      · by_cases hdf2 : d % gcF a b < f
        · have := hall d hd hdf2
          omega
        · have hdf3 : d % gcF a b = f := by omega
          have h3 := hm0 (d % a) ⟨by have := Nat.mod_lt d (show 0 < a by omega); omega, by rw [hda, hdf3]⟩
          have h4 := hm1 (d % b) ⟨by have := Nat.mod_lt d (show 0 < b by omega); omega, by rw [hdb, hdf3]⟩
          rw [cD_split hW hp ha hb d]
          omega
  refine wpx_ok hS bk25 (sp := sp25) 60 0 _ _ _ _ ?_
  simp only [LCM, B2, Bool.not_eq_false, Bool.not_eq_true, decide_eq_true_eq, decide_eq_false_iff_not, Int.not_lt, Int.not_le, CST, TN, WX, WA, WB, GS, LOC, BT25, SP25, CLS, FLD, ARR, CD, true_and, and_true, and_self, forall_const, true_implies, false_implies, implies_true, not_true_eq_false, not_false_eq_true, if_true, if_false, rgI, rgL, scr, swl, lkl, cats, cat, is2, List.drop_succ_cons, List.drop_zero, List.drop_nil, List.cons_append, List.nil_append, Option.toList_some, Option.toList_none, List.length_cons, List.length_nil, ne_eq, Classical.not_not, reduceCtorEq, Nat.reduceAdd, Nat.reduceSub, Nat.reduceMul, Nat.reduceLT, Nat.reduceLeDiff, Nat.reduceEqDiff, Nat.reduceBEq, Int.reduceToNat, Int.reduceLE, Int.reduceLT, Int.reduceEq, Int.reduceNeg, Int.reduceAdd, Int.reduceSub, Int.reduceMul, Int.toNat_natCast, Nat.zero_add, Int.add_zero, Nat.add_zero, ite_true, ite_false, Option.some.injEq, Nat.le_refl, or_true, true_or, or_false, false_or, if_pos, reduceIte, Nat.reduceGT]
  exact head (gcF a b) 0 0 (by omega) (by omega) (by omega) (fun _ => rfl) (fun h => absurd h (by omega)) (fun d _ h => absurd h (by omega))

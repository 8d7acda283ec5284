/-! NEW houses in their order -/
def ix (T : MM) (i : Nat) : Nat := (cnt (newB T) i).toNat
def nM (T : MM) : Nat := ix T (hN T)
theorem ix_step (T : MM) (i : Nat) : ix T (i + 1) = ix T i + (if newB T i then 1 else 0) := by
  have := (cnt_rg (newB T) i).1
  unfold ix
  rw [cnt]
  split <;> omega
theorem ix_mono {T : MM} {i j : Nat} (h : i ≤ j) : ix T i ≤ ix T j := by
  have := cnt_mono (p := newB T) h
  unfold ix
  omega
theorem ix_lt {T : MM} {i j : Nat} (h : i < j) (hn : newB T i = true) : ix T i < ix T j := by
  have h1 := ix_step T i
  rw [hn, if_pos rfl] at h1
  have h2 := ix_mono (T := T) (show i + 1 ≤ j from h)
  omega
theorem ix_inj {T : MM} {i j : Nat} (hi : newB T i = true) (hj : newB T j = true) (h : ix T i = ix T j) : i = j := by
  rcases Nat.lt_trichotomy i j with h1 | h1 | h1
  · have := ix_lt h1 hi; omega
  · exact h1
  · have := ix_lt h1 hj; omega
theorem ix_surj {T : MM} : ∀ {n k : Nat}, k < ix T n → ∃ i, i < n ∧ newB T i = true ∧ ix T i = k
  | 0, k, h => by
    have : ix T 0 = 0 := rfl
    omega
  | n + 1, k, h => by
    have h1 := ix_step T n
    by_cases hk : k < ix T n
    · obtain ⟨i, h2, h3, h4⟩ := ix_surj hk
      exact ⟨i, by omega, h3, h4⟩
    · cases hb : newB T n with
      | false => rw [hb] at h1; simp at h1; omega
      | true => rw [hb, if_pos rfl] at h1; exact ⟨n, by omega, hb, by omega⟩
theorem nM_3 {T : MM} (h : WFt T) : nM T ≤ 3 ∧ (nM T : Int) = cnt (newB T) (hN T) := by
  have := (new3 h).1
  have := (cnt_rg (newB T) (hN T)).1
  unfold nM ix
  omega
theorem wp_app (T : MM) : ∀ m n a : Nat, wp T a (m + n) = wp T a m * wp T (a + m) n
  | 0, n, a => by rw [Nat.zero_add, wp, Nat.one_mul]; rfl
  | m + 1, n, a => by rw [show m + 1 + n = (m + n) + 1 by omega, wp, wp, wp_app T m n (a + 1), Nat.mul_assoc, show a + 1 + m = a + (m + 1) by omega]
theorem wp_one {T : MM} : ∀ {m a : Nat}, (∀ y, a ≤ y → y < a + m → newB T y = false) → wp T a m = 1
  | 0, _, _ => rfl
  | m + 1, a, h => by
    rw [wp, wp_one (fun y h1 h2 => h y (by omega) (by omega))]
    unfold fac
    rw [h a (by omega) (by omega)]
    rfl
theorem wgt_rel {T : MM} {x i : Nat} (hx : x < i) (hi : i < hN T) (hn : newB T i = true) : wgt T x = wp T (x + 1) (i - (x + 1)) * (LN T i * wgt T i) := by
  unfold wgt
  rw [show hN T - (x + 1) = (i - (x + 1)) + (hN T - i) by omega, wp_app, show x + 1 + (i - (x + 1)) = i by omega, wp_step hi]
  unfold fac
  rw [hn, if_pos rfl]
theorem no_new {T : MM} {x i y : Nat} (hx : newB T x = true) (h : ix T i = ix T x + 1) (h1 : x < y) (h2 : y < i) : newB T y = false := by
  cases hb : newB T y with
  | false => rfl
  | true =>
    have h3 := ix_lt h1 hx
    have h4 := ix_lt h2 hb
    omega
theorem wgt_next {T : MM} {x i : Nat} (hx : newB T x = true) (hi : i < hN T) (hn : newB T i = true) (h : ix T i = ix T x + 1) : wgt T x = LN T i * wgt T i := by
  have hxi : x < i := by
    rcases Nat.lt_trichotomy x i with h1 | h1 | h1
    · exact h1
    · subst h1; omega
    · have := ix_lt h1 hn; omega
  rw [wgt_rel hxi hi hn, wp_one (fun y h1 h2 => no_new hx h (by omega) (by omega)), Nat.one_mul]
theorem wgt_end {T : MM} {i : Nat} (hn : newB T i = true) (h : ix T i + 1 = nM T) : wgt T i = 1 := by
  unfold wgt
  refine wp_one (fun y h1 h2 => ?_)
  cases hb : newB T y with
  | false => rfl
  | true =>
    have h3 := ix_lt (show i < y by omega) hn
    have h4 := ix_lt (T := T) (i := y) (j := hN T) (by omega) hb
    unfold nM at h
    omega
theorem dig_0 (T : MM) (i : Nat) : dig T 0 i = 0 := by unfold dig; rw [Nat.zero_div, Nat.zero_mod]
/-- the next code at a place where all lower digits were highest -/
theorem dig_next {T : MM} {c i : Nat} (hW : 1 ≤ wgt T i) (hL : 2 ≤ LN T i) (hd : wgt T i ∣ c + 1) :
    (dig T c i + 1 < LN T i → dig T (c + 1) i = dig T c i + 1 ∧ (c + 1) / wgt T i / LN T i = c / wgt T i / LN T i) ∧ (LN T i ≤ dig T c i + 1 → dig T (c + 1) i = 0 ∧ LN T i * wgt T i ∣ c + 1) := by
  obtain ⟨q, hq⟩ := hd
  have h1 : (c + 1) / wgt T i = q := by rw [hq, Nat.mul_div_cancel_left _ (by omega)]
  have hq0 : 1 ≤ q := by
    rcases Nat.eq_zero_or_pos q with h | h
    · rw [h, Nat.mul_zero] at hq; omega
    · exact h
  have h2 : c / wgt T i = q - 1 := by
    have hc : c = wgt T i * (q - 1) + (wgt T i - 1) := by
      have : wgt T i * q = wgt T i * (q - 1) + wgt T i := by rw [← Nat.mul_succ]; congr 1; omega
      omega
    rw [hc, Nat.mul_add_div (by omega), Nat.div_eq_of_lt (by omega), Nat.add_zero]
  unfold dig
  rw [h1, h2]
  have hdm := Nat.div_add_mod (q - 1) (LN T i)
  have hml := Nat.mod_lt (q - 1) (show 0 < LN T i by omega)
  generalize hA : (q - 1) / LN T i = A at hdm ⊢
  generalize hB : (q - 1) % LN T i = B at hdm hml ⊢
  constructor
  · intro h
    have hqe : q = LN T i * A + (B + 1) := by omega
    rw [hqe, Nat.mul_add_mod, Nat.mod_eq_of_lt h, Nat.mul_add_div (by omega), Nat.div_eq_of_lt h]
    exact ⟨rfl, rfl⟩
  · intro h
    have hqe : q = LN T i * (A + 1) := by rw [Nat.mul_succ]; omega
    refine ⟨by rw [hqe, Nat.mul_mod_right], ?_⟩
    rw [hq, hqe, Nat.mul_comm (LN T i) (wgt T i), ← Nat.mul_assoc]
    exact Nat.dvd_mul_right _ _
theorem dig_same {T : MM} {c i x : Nat} (hx : x < i) (hi : i < hN T) (hn : newB T i = true) (h : (c + 1) / wgt T i / LN T i = c / wgt T i / LN T i) : dig T (c + 1) x = dig T c x := by
  have h1 : ∀ a, a / wgt T x = a / wgt T i / LN T i / wp T (x + 1) (i - (x + 1)) := by
    intro a
    rw [wgt_rel hx hi hn, Nat.div_div_eq_div_mul, Nat.div_div_eq_div_mul]
    congr 1
    rw [Nat.mul_comm, Nat.mul_comm (LN T i), Nat.mul_assoc]
  unfold dig
  rw [h1, h1, h]
/-! the component's ways -/
def WS (M T : MM) : Prop := M 37 0 = nM T ∧ M 37 5 = codes T ∧ ∀ i, i < hN T → newB T i = true → M 38 (ix T i) = i ∧ M 39 (ix T i) = T 61 (4 * i) ∧ M 40 (ix T i) = len T i
def WD (M T : MM) (c : Nat) : Prop := ∀ i, i < hN T → newB T i = true → M 41 (ix T i) = dig T c i
theorem x_begin (M T : MM) (hC : RC M T) (hW : WFt T) : oQ 2 35 [vR 37, vR 18, vR 26] M (fun r M' => r = none ∧ WS M' T ∧ WD M' T 0 ∧ M' 37 6 = 0 ∧ M' 37 7 = 0 ∧ (∀ i, i < hN T → newB T i = true → M' 43 (ix T i) = 0) ∧ ∀ k j, ¬ (37 ≤ k ∧ k ≤ 43) → M' k j = M k j) := by
  have hH := hW.H
  have hn3 := nM_3 hW
  refine go35 (fun S hS => ?_)
  have head : ∀ (n i : Nat) (N : MM), i + n = hN T → N 37 0 = ix T i → N 37 5 = pw T i → N 37 6 = 0 → N 37 7 = 0 → (∀ x, x < i → newB T x = true → (N 38 (ix T x) = x ∧ N 39 (ix T x) = T 61 (4 * x) ∧ N 40 (ix T x) = len T x) ∧ N 41 (ix T x) = 0 ∧ N 43 (ix T x) = 0) → (∀ k j, ¬ (37 ≤ k ∧ k ≤ 43) → N k j = M k j) →
      S 22 [some (vR 37), some (vR 18), some (vR 26), some (vI i)] [] (sh0, 0, 0) N := by
    intro n
    induction n with
    | zero =>
      intro i N hi h0 h5 h6 h7 hlo hF
      have hii : i = hN T := by omega
      subst hii
      refine wpx_ok hS bk35 (sp := sp35) 60 22 _ _ _ _ ?_
      simp only [LCM, B2, Bool.not_eq_false, Bool.not_eq_true, decide_eq_true_eq, decide_eq_false_iff_not, Int.not_lt, Int.not_le, CST, TN, WX, WA, WB, GS, LOC, BT35, SP35, CLS, FLD, ARR, CD, true_and, and_true, and_self, forall_const, true_implies, false_implies, implies_true, not_true_eq_false, not_false_eq_true, if_true, if_false, rgI, rgL, scr, swl, lkl, cats, cat, is2, List.drop_succ_cons, List.drop_zero, List.drop_nil, List.cons_append, List.nil_append, Option.toList_some, Option.toList_none, List.length_cons, List.length_nil, ne_eq, Classical.not_not, reduceCtorEq, Nat.reduceAdd, Nat.reduceSub, Nat.reduceMul, Nat.reduceLT, Nat.reduceLeDiff, Nat.reduceEqDiff, Nat.reduceBEq, Int.reduceToNat, Int.reduceLE, Int.reduceLT, Int.reduceEq, Int.reduceNeg, Int.reduceAdd, Int.reduceSub, Int.reduceMul, Int.toNat_natCast, Nat.zero_add, Int.add_zero, Nat.add_zero, ite_true, ite_false, Option.some.injEq, Nat.le_refl, or_true, true_or, or_false, false_or, if_pos, reduceIte, Nat.reduceGT]
      rw [hF 18 1 (by omega), hC.1.2.2.1]
      refine ⟨by omega, fun h => rt35 (Nat.le_refl _) (Nat.le_refl _) ⟨rfl, rfl, ⟨h0, h5, fun x hx hn => (hlo x hx hn).1⟩, fun x hx hn => ?_, h6, h7, fun x hx hn => (hlo x hx hn).2.2, hF⟩, fun h => by omega⟩
      rw [(hlo x hx hn).2.1, dig_0]
      rfl
    | succ n ih =>
      intro i N hi h0 h5 h6 h7 hlo hF
      have hC1 : RC N T := hC.keep (fun k j h1 h2 => hF k j (by omega))
      have hix : ix T i ≤ nM T := ix_mono (by omega)
      have hpw := pw_sm hW (n := i) (by omega)
      have hLN := LN_rg hW (i := i) (by omega)
      have hs := hW.hs (i := i) (by omega)
      have hl := hW.ln (i := i) (by omega)
      refine wpx_ok hS bk35 (sp := sp35) 60 22 _ _ _ _ ?_
      simp only [LCM, B2, Bool.not_eq_false, Bool.not_eq_true, decide_eq_true_eq, decide_eq_false_iff_not, Int.not_lt, Int.not_le, CST, TN, WX, WA, WB, GS, LOC, BT35, SP35, CLS, FLD, ARR, CD, true_and, and_true, and_self, forall_const, true_implies, false_implies, implies_true, not_true_eq_false, not_false_eq_true, if_true, if_false, rgI, rgL, scr, swl, lkl, cats, cat, is2, List.drop_succ_cons, List.drop_zero, List.drop_nil, List.cons_append, List.nil_append, Option.toList_some, Option.toList_none, List.length_cons, List.length_nil, ne_eq, Classical.not_not, reduceCtorEq, Nat.reduceAdd, Nat.reduceSub, Nat.reduceMul, Nat.reduceLT, Nat.reduceLeDiff, Nat.reduceEqDiff, Nat.reduceBEq, Int.reduceToNat, Int.reduceLE, Int.reduceLT, Int.reduceEq, Int.reduceNeg, Int.reduceAdd, Int.reduceSub, Int.reduceMul, Int.toNat_natCast, Nat.zero_add, Int.add_zero, Nat.add_zero, ite_true, ite_false, Option.some.injEq, Nat.le_refl, or_true, true_or, or_false, false_or, if_pos, reduceIte, Nat.reduceGT]
      rw [hF 18 1 (by omega), hC.1.2.2.1, h0]
      refine ⟨by omega, fun h => by omega, fun h => ⟨by omega, fun h1 => ?_, fun h1 => ?_⟩⟩
      · have hall : ∀ x, i ≤ x → x < hN T → newB T x = false := by
          intro x hx1 hx2
          cases hb : newB T x with
          | false => rfl
          | true =>
            have a1 := ix_lt (T := T) (j := hN T) hx2 hb
            have a2 := ix_mono (T := T) hx1
            unfold nM at hn3 hix
            omega
        have hx : ∀ x, x < hN T → newB T x = true → x < i := by
          intro x hx hb
          rcases Nat.lt_or_ge x i with h2 | h2
          · exact h2
          · rw [hall x h2 hx] at hb; cases hb
        refine rt35 (Nat.le_refl _) (Nat.le_refl _) ⟨rfl, rfl, ⟨?_, ?_, fun x hx2 hn => (hlo x (hx x hx2 hn) hn).1⟩, fun x hx2 hn => ?_, h6, h7, fun x hx2 hn => (hlo x (hx x hx2 hn) hn).2.2, hF⟩
        · rw [h0]; congr 1; omega
        · rw [h5]
          unfold codes
          have := pw_wp T (hN T - i) i
          rw [wp_one (fun y a b => hall y a (by omega)), Nat.mul_one, show i + (hN T - i) = hN T by omega] at this
          rw [this]
        · rw [(hlo x (hx x hx2 hn) hn).2.1, dig_0]
          rfl
      · refine ⟨rcv_ok rfl own3 rfl, kI (x_isNew i N T hC1 (by omega)) (Nat.le_of_ble_eq_true rfl) rfl rfl (Nat.le_of_ble_eq_true rfl) (Nat.le_of_ble_eq_true rfl) rfl ?_⟩
        refine wpx_ok hS bk35 (sp := sp35) 60 43 _ _ _ _ ?_
        simp only [LCM, B2, Bool.not_eq_false, Bool.not_eq_true, decide_eq_true_eq, decide_eq_false_iff_not, Int.not_lt, Int.not_le, CST, TN, WX, WA, WB, GS, LOC, BT35, SP35, CLS, FLD, ARR, CD, true_and, and_true, and_self, forall_const, true_implies, false_implies, implies_true, not_true_eq_false, not_false_eq_true, if_true, if_false, rgI, rgL, scr, swl, lkl, cats, cat, is2, List.drop_succ_cons, List.drop_zero, List.drop_nil, List.cons_append, List.nil_append, Option.toList_some, Option.toList_none, List.length_cons, List.length_nil, ne_eq, Classical.not_not, reduceCtorEq, Nat.reduceAdd, Nat.reduceSub, Nat.reduceMul, Nat.reduceLT, Nat.reduceLeDiff, Nat.reduceEqDiff, Nat.reduceBEq, Int.reduceToNat, Int.reduceLE, Int.reduceLT, Int.reduceEq, Int.reduceNeg, Int.reduceAdd, Int.reduceSub, Int.reduceMul, Int.toNat_natCast, Nat.zero_add, Int.add_zero, Nat.add_zero, ite_true, ite_false, Option.some.injEq, Nat.le_refl, or_true, true_or, or_false, false_or, if_pos, reduceIte, Nat.reduceGT, ms_ne, ms_eq, ms_nj]
        rw [h0, h5, (hC1.2.2.2.2.1 i (by omega)).1]
        simp only [Int.toNat_natCast]
        refine ⟨fun h2 => ?_, fun h2 => ?_⟩
        · refine ih (i + 1) N (by omega) ?_ ?_ h6 h7 (fun x hx hn => ?_) hF
          · rw [ix_step, h2]; exact h0
          · rw [pw, h5]; unfold fac; rw [h2]; simp
          · by_cases hxi : x = i
            · rw [hxi, h2] at hn; cases hn
            · exact hlo x (by omega) hn
        · have e19 : N 19 (T 61 (4 * i)).toNat = len T i := by
            unfold len
            rcases hs.1 with h3 | h3 <;> rw [h3]
            · exact hC1.1.1
            · exact hC1.1.2.1
          rw [e19]
          refine ⟨by omega, by omega, by omega, by omega, by omega, by omega, by omega, by omega, by omega, ?_⟩
          refine ih (i + 1) _ (by omega) ?_ ?_ h6 h7 (fun x hx hn => ?_) (fun k j hk => ?_)
          · rw [ms_eq, ix_step, h2, if_pos rfl]; omega
          · rw [ms_nj (by decide), ms_eq, pw]; unfold fac; rw [h2, if_pos rfl, Int.natCast_mul, hLN.1]
          · by_cases hxi : x = i
            · subst hxi
              simp [mset]
            · have hxl := ix_lt (show x < i by omega) hn
              have hne : ix T x ≠ ix T i := by omega
              have := hlo x (by omega) hn
              simp only [mset, hne, Nat.reduceEqDiff, and_false, false_and, if_false]
              exact this
          · rw [ms_ne (by omega), ms_ne (by omega), ms_ne (by omega), ms_ne (by omega), ms_ne (by omega), ms_ne (by omega), ms_ne (by omega)]
            exact hF k j hk
  refine wpx_ok hS bk35 (sp := sp35) 60 0 _ _ _ _ ?_
  simp only [LCM, B2, Bool.not_eq_false, Bool.not_eq_true, decide_eq_true_eq, decide_eq_false_iff_not, Int.not_lt, Int.not_le, CST, TN, WX, WA, WB, GS, LOC, BT35, SP35, CLS, FLD, ARR, CD, true_and, and_true, and_self, forall_const, true_implies, false_implies, implies_true, not_true_eq_false, not_false_eq_true, if_true, if_false, rgI, rgL, scr, swl, lkl, cats, cat, is2, List.drop_succ_cons, List.drop_zero, List.drop_nil, List.cons_append, List.nil_append, Option.toList_some, Option.toList_none, List.length_cons, List.length_nil, ne_eq, Classical.not_not, reduceCtorEq, Nat.reduceAdd, Nat.reduceSub, Nat.reduceMul, Nat.reduceLT, Nat.reduceLeDiff, Nat.reduceEqDiff, Nat.reduceBEq, Int.reduceToNat, Int.reduceLE, Int.reduceLT, Int.reduceEq, Int.reduceNeg, Int.reduceAdd, Int.reduceSub, Int.reduceMul, Int.toNat_natCast, Nat.zero_add, Int.add_zero, Nat.add_zero, ite_true, ite_false, Option.some.injEq, Nat.le_refl, or_true, true_or, or_false, false_or, if_pos, reduceIte, Nat.reduceGT, ms_ne, ms_eq, ms_nj]
  exact head (hN T) 0 _ (by omega) rfl rfl rfl rfl (fun x hx => by omega) (fun k j hk => by rw [ms_ne (by omega), ms_ne (by omega), ms_ne (by omega), ms_ne (by omega)])

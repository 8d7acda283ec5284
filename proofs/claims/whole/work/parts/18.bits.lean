/-! rows that a walk uses -/
theorem LCM : (∀ v a : Int, ((if v < a then (-1 : Int) else if v = a then 0 else 1) < 0) = (v < a)) ∧ (∀ v a : Int, (0 ≤ (if v < a then (-1 : Int) else if v = a then 0 else 1)) = (a ≤ v)) ∧ (∀ v a : Int, (0 < (if v < a then (-1 : Int) else if v = a then 0 else 1)) = (a < v)) ∧ (∀ v a : Int, ((if v < a then (-1 : Int) else if v = a then 0 else 1) ≤ 0) = (v ≤ a)) ∧ (∀ v a : Int, ((if v < a then (-1 : Int) else if v = a then 0 else 1) = 0) = (v = a)) ∧
    (∀ v a : Int, (-2147483648 ≤ (if v < a then (-1 : Int) else if v = a then 0 else 1)) = True) ∧ (∀ v a : Int, ((if v < a then (-1 : Int) else if v = a then 0 else 1) ≤ 2147483647) = True) := by
  refine ⟨?_, ?_, ?_, ?_, ?_, ?_, ?_⟩ <;> intro v a <;> apply propext <;> (by_cases h1 : v < a <;> by_cases h2 : v = a <;> simp [h1, h2] <;> omega)
theorem CST : ((0 : Nat) : Int) = 0 ∧ ((1 : Nat) : Int) = 1 ∧ ((2 : Nat) : Int) = 2 ∧ ((3 : Nat) : Int) = 3 ∧ ((4 : Nat) : Int) = 4 ∧ ((5 : Nat) : Int) = 5 ∧ ((6 : Nat) : Int) = 6 ∧ ((10 : Nat) : Int) = 10 ∧ ((12 : Nat) : Int) = 12 ∧ ((20 : Nat) : Int) = 20 ∧ ((36 : Nat) : Int) = 36 ∧ ((40 : Nat) : Int) = 40 ∧ ((80 : Nat) : Int) = 80 ∧ ((400 : Nat) : Int) = 400 := by decide
theorem TN : (∀ i : Nat, (4 * (i : Int)).toNat = 4 * i) ∧ (∀ i : Nat, (4 * (i : Int) + 1).toNat = 4 * i + 1) ∧ (∀ i : Nat, (4 * (i : Int) + 2).toNat = 4 * i + 2) ∧ (∀ i : Nat, (4 * (i : Int) + 3).toNat = 4 * i + 3) ∧ (∀ i : Nat, (3 * (i : Int)).toNat = 3 * i) ∧ (∀ i : Nat, (3 * (i : Int) + 1).toNat = 3 * i + 1) ∧ (∀ i : Nat, (3 * (i : Int) + 2).toNat = 3 * i + 2) ∧
    (∀ i : Nat, (10 + (i : Int)).toNat = 10 + i) ∧ (∀ i : Nat, (40 + (i : Int)).toNat = 40 + i) ∧ (∀ i : Nat, (18 + (i : Int)).toNat = 18 + i) ∧ (∀ i : Nat, (40 + 4 * (i : Int)).toNat = 40 + 4 * i) ∧ (∀ i : Nat, (40 + 4 * (i : Int) + 1).toNat = 40 + 4 * i + 1) ∧ (∀ i k : Nat, (40 + 4 * (i : Int) + (k : Int)).toNat = 40 + 4 * i + k) ∧ (∀ i k : Nat, (18 + 3 * (i : Int) + (k : Int)).toNat = 18 + 3 * i + k) := by
  refine ⟨?_, ?_, ?_, ?_, ?_, ?_, ?_, ?_, ?_, ?_, ?_, ?_, ?_, ?_⟩ <;> intros <;> omega
theorem CD : (∀ (a b : KK) (ls : AL) (st : List AV) (Z : ZZ) (M : MM), cond true a b ls st Z M = a ls st Z M) ∧ (∀ (a b : KK) (ls : AL) (st : List AV) (Z : ZZ) (M : MM), cond false a b ls st Z M = b ls st Z M) := ⟨fun _ _ _ _ _ _ => rfl, fun _ _ _ _ _ _ => rfl⟩
/-! bits -/
theorem nb {a : Nat} (h : a < 4294967296) : (iN (a : Int)).toBitVec.toNat = a := by
  show (BitVec.ofInt 32 (a : Int)).toNat = a
  rw [BitVec.toNat_ofInt]
  omega
theorem of_nb {x : Int32} {n : Nat} (h : x.toBitVec.toNat = n) (hn : n < 2147483648) : x.toInt = (n : Int) := by
  have h1 := BitVec.toInt_eq_toNat_of_lt (x := x.toBitVec) (by rw [h]; omega)
  rw [h] at h1
  exact h1
theorem bOr_nat {a b : Nat} (ha : a < 2147483648) (hb : b < 2147483648) : bOr (a : Int) (b : Int) = ((a ||| b : Nat) : Int) :=
  of_nb (by
    show (iN (a : Int) ||| iN (b : Int)).toBitVec.toNat = _
    rw [Int32.toBitVec_or, BitVec.toNat_or, nb (by omega), nb (by omega)]) (Nat.or_lt_two_pow (n := 31) ha hb)
theorem bAnd_nat {a b : Nat} (ha : a < 2147483648) (hb : b < 2147483648) : bAnd (a : Int) (b : Int) = ((a &&& b : Nat) : Int) :=
  of_nb (by
    show (iN (a : Int) &&& iN (b : Int)).toBitVec.toNat = _
    rw [Int32.toBitVec_and, BitVec.toNat_and, nb (by omega), nb (by omega)]) (Nat.and_lt_two_pow (n := 31) a hb)
theorem bAndN_nat {a b : Nat} (ha : a < 2147483648) (hb : b < 2147483648) : bAnd (a : Int) (bXor (b : Int) (-1)) = ((a &&& (b ^^^ 4294967295) : Nat) : Int) :=
  of_nb (by
    show (iN (a : Int) &&& iN (bXor (b : Int) (-1))).toBitVec.toNat = _
    unfold bXor
    rw [iN_of, Int32.toBitVec_and, Int32.toBitVec_xor, BitVec.toNat_and, BitVec.toNat_xor, nb (by omega), nb (by omega), show (iN (-1)).toBitVec.toNat = 4294967295 by decide]) (by
      have h1 := Nat.and_lt_two_pow (n := 31) (b ^^^ 4294967295) ha
      rw [Nat.and_comm] at h1
      exact h1)
def mkN (p : Nat → Bool) : Nat → Nat
  | 0 => 0
  | n + 1 => mkN p n ||| (if p n then 2 ^ n else 0)
theorem mkN_bit (p : Nat → Bool) : ∀ (n j : Nat), (mkN p n).testBit j = (decide (j < n) && p j)
  | 0, j => by simp [mkN]
  | n + 1, j => by
    rw [mkN, Nat.testBit_or, mkN_bit p n j]
    by_cases h1 : j = n
    · subst h1
      cases hp : p j with
      | true => rw [if_pos rfl, Nat.testBit_two_pow_self]; simp
      | false => simp
    · have h2 : (if p n = true then 2 ^ n else 0).testBit j = false := by
        cases hp : p n with
        | true => rw [if_pos rfl]; exact Nat.testBit_two_pow_of_ne (fun z => h1 z.symm)
        | false => simp
      rw [h2, Bool.or_false]
      congr 1
      apply decide_eq_decide.mpr
      omega
theorem mkN_lt (p : Nat → Bool) : ∀ n : Nat, mkN p n < 2 ^ n
  | 0 => by simp [mkN]
  | n + 1 => by
    have h1 := mkN_lt p n
    have h2 : 2 ^ n < 2 ^ (n + 1) := Nat.pow_lt_pow_right (by decide) (by omega)
    refine Nat.or_lt_two_pow (by omega) ?_
    cases hp : p n with
    | true => rw [if_pos rfl]; exact h2
    | false => simp; exact Nat.two_pow_pos _
theorem mkN_10 (p : Nat → Bool) : mkN p 10 < 1024 := mkN_lt p 10
def mk (p : Nat → Bool) : Int := (mkN p 10 : Nat)
theorem mk_rg (p : Nat → Bool) : 0 ≤ mk p ∧ mk p < 1024 := by
  have := mkN_10 p
  unfold mk
  omega
theorem mkN_eq {p q : Nat → Bool} {n : Nat} (h : ∀ i, i < n → p i = q i) : mkN p n = mkN q n := by
  apply Nat.eq_of_testBit_eq
  intro j
  rw [mkN_bit, mkN_bit]
  by_cases hj : j < n
  · rw [h j hj]
  · simp [hj]
theorem mk_eq {p q : Nat → Bool} (h : ∀ i, i < 10 → p i = q i) : mk p = mk q := by
  unfold mk
  rw [mkN_eq h]
theorem mk_inj {p q : Nat → Bool} : mk p = mk q ↔ ∀ i, i < 10 → p i = q i := by
  refine ⟨fun h i hi => ?_, mk_eq⟩
  have h1 : mkN p 10 = mkN q 10 := by unfold mk at h; omega
  have h2 : (mkN p 10).testBit i = (mkN q 10).testBit i := by rw [h1]
  rw [mkN_bit, mkN_bit] at h2
  simpa [hi] using h2
theorem mk_0 : mk (fun _ => false) = 0 := by decide
theorem mk_eq0 {p : Nat → Bool} : mk p = 0 ↔ ∀ i, i < 10 → p i = false := by
  rw [← mk_0, mk_inj]
theorem mk_or (p q : Nat → Bool) : bOr (mk p) (mk q) = mk (fun i => p i || q i) := by
  have h1 := mkN_10 p
  have h2 := mkN_10 q
  unfold mk
  rw [bOr_nat (by omega) (by omega)]
  congr 1
  apply Nat.eq_of_testBit_eq
  intro j
  rw [Nat.testBit_or, mkN_bit, mkN_bit, mkN_bit]
  by_cases hj : j < 10 <;> simp [hj]
theorem mk_and (p q : Nat → Bool) : bAnd (mk p) (mk q) = mk (fun i => p i && q i) := by
  have h1 := mkN_10 p
  have h2 := mkN_10 q
  unfold mk
  rw [bAnd_nat (by omega) (by omega)]
  congr 1
  apply Nat.eq_of_testBit_eq
  intro j
  rw [Nat.testBit_and, mkN_bit, mkN_bit, mkN_bit]
  by_cases hj : j < 10 <;> simp [hj]
theorem mk_andn (p q : Nat → Bool) : bAnd (mk p) (bXor (mk q) (-1)) = mk (fun i => p i && !q i) := by
  have h1 := mkN_10 p
  have h2 := mkN_10 q
  unfold mk
  rw [bAndN_nat (by omega) (by omega)]
  congr 1
  apply Nat.eq_of_testBit_eq
  intro j
  rw [Nat.testBit_and, Nat.testBit_xor, mkN_bit, mkN_bit, mkN_bit, show (4294967295 : Nat) = 2 ^ 32 - 1 by decide, Nat.testBit_two_pow_sub_one]
  by_cases hj : j < 10
  · have : j < 32 := by omega
    simp [hj, this]
  · simp [hj]
theorem bShl_1 {i : Nat} (h : i < 31) : bShl 1 (i : Int) = ((2 ^ i : Nat) : Int) := by
  have : ∀ i : Nat, i < 31 → bShl 1 (i : Int) = ((2 ^ i : Nat) : Int) := by decide +kernel
  exact this i h
theorem mk_one {i : Nat} (h : i < 10) : bShl 1 (i : Int) = mk (fun j => j == i) := by
  have : ∀ i : Nat, i < 10 → bShl 1 (i : Int) = mk (fun j => j == i) := by decide +kernel
  exact this i h
theorem mk_low {h : Nat} (hh : h ≤ 10) : bShl 1 (h : Int) - 1 = mk (fun j => decide (j < h)) := by
  have : ∀ h : Nat, h < 11 → bShl 1 (h : Int) - 1 = mk (fun j => decide (j < h)) := by decide +kernel
  exact this h (by omega)
theorem mk_put {p : Nat → Bool} {i : Nat} (h : i < 10) : bOr (mk p) (bShl 1 (i : Int)) = mk (fun j => p j || j == i) := by rw [mk_one h, mk_or]
theorem mk_lift {p : Nat → Bool} {i : Nat} (h : i < 10) : bAnd (mk p) (bXor (bShl 1 (i : Int)) (-1)) = mk (fun j => p j && !(j == i)) := by rw [mk_one h, mk_andn]
theorem mk_has {p : Nat → Bool} {i : Nat} (h : i < 10) : bAnd (mk p) (bShl 1 (i : Int)) = 0 ↔ p i = false := by
  rw [mk_one h, mk_and, mk_eq0]
  constructor
  · intro h1
    have := h1 i h
    simpa using this
  · intro h1 j hj
    by_cases hji : j = i
    · subst hji; simp [h1]
    · simp [hji]
theorem bShr_nat {a : Nat} (ha : a < 1024) {k : Nat} (hk : k < 10) : bAnd (bShr (a : Int) (k : Int)) 1 = if a.testBit k then 1 else 0 := by
  have : ∀ k : Nat, k < 10 → ∀ a : Nat, a < 1024 → bAnd (bShr (a : Int) (k : Int)) 1 = if a.testBit k then 1 else 0 := by decide +kernel
  exact this k hk a ha
theorem mk_bit {p : Nat → Bool} {k : Nat} (hk : k < 10) : bAnd (bShr (mk p) (k : Int)) 1 = if p k then 1 else 0 := by
  unfold mk
  rw [bShr_nat (mkN_10 p) hk, mkN_bit]
  simp [hk]
/-! how many -/
def cnt (p : Nat → Bool) : Nat → Int
  | 0 => 0
  | n + 1 => cnt p n + if p n then 1 else 0
theorem cnt_rg (p : Nat → Bool) : ∀ n : Nat, 0 ≤ cnt p n ∧ cnt p n ≤ n
  | 0 => by simp [cnt]
  | n + 1 => by
    have := cnt_rg p n
    rw [cnt]
    split <;> omega
theorem cnt_eq {p q : Nat → Bool} : ∀ {n : Nat}, (∀ i, i < n → p i = q i) → cnt p n = cnt q n
  | 0, _ => rfl
  | n + 1, h => by rw [cnt, cnt, cnt_eq (fun i hi => h i (by omega)), h n (by omega)]
theorem cnt_cut {p : Nat → Bool} {h : Nat} : ∀ {n : Nat}, h ≤ n → (∀ i, h ≤ i → i < n → p i = false) → cnt p n = cnt p h
  | 0, hn, _ => by rw [show h = 0 by omega]
  | n + 1, hn, hp => by
    by_cases h1 : h = n + 1
    · rw [h1]
    · rw [cnt, hp n (by omega) (by omega), cnt_cut (h := h) (n := n) (by omega) (fun i h2 h3 => hp i h2 (by omega))]
      simp
theorem cnt_le {p q : Nat → Bool} : ∀ {n : Nat}, (∀ i, i < n → p i = true → q i = true) → cnt p n ≤ cnt q n
  | 0, _ => by simp [cnt]
  | n + 1, h => by
    have h1 := cnt_le (n := n) (fun i hi => h i (by omega))
    have h2 := h n (by omega)
    rw [cnt, cnt]
    cases hp : p n with
    | true => rw [h2 hp]; simp; omega
    | false => simp; split <;> omega
theorem cnt_add {p q : Nat → Bool} : ∀ {n : Nat}, (∀ i, i < n → ¬ (p i = true ∧ q i = true)) → cnt (fun i => p i || q i) n = cnt p n + cnt q n
  | 0, _ => rfl
  | n + 1, h => by
    rw [cnt, cnt, cnt, cnt_add (n := n) (fun i hi => h i (by omega))]
    have := h n (by omega)
    cases hp : p n <;> cases hq : q n <;> simp [hp, hq] at this ⊢ <;> omega
theorem cnt_0 {p : Nat → Bool} {n : Nat} (h : ∀ i, i < n → p i = false) : cnt p n = 0 := by
  rw [cnt_cut (h := 0) (Nat.zero_le _) (fun i _ hi => h i hi)]
  rfl
theorem cnt_pos {p : Nat → Bool} : ∀ {n : Nat}, (∃ i, i < n ∧ p i = true) → 0 < cnt p n
  | 0, ⟨i, hi, _⟩ => absurd hi (by omega)
  | n + 1, ⟨i, hi, hp⟩ => by
    rw [cnt]
    have h0 := (cnt_rg p n).1
    by_cases h1 : i = n
    · subst h1; rw [if_pos hp]; omega
    · have := cnt_pos (n := n) ⟨i, by omega, hp⟩
      split <;> omega
def b2i (b : Bool) : Int := if b then 1 else 0
theorem b2i_01 (b : Bool) : b2i b = 0 ∨ b2i b = 1 := by cases b <;> decide
theorem B2 : (∀ b : Bool, (b2i b = 0) = (b = false)) ∧ (∀ b : Bool, (0 = b2i b) = (b = false)) ∧ (∀ b : Bool, (b2i b = 1) = (b = true)) ∧ (∀ b : Bool, (-2147483648 ≤ b2i b) = True) ∧ (∀ b : Bool, (b2i b ≤ 2147483647) = True) ∧ b2i true = 1 ∧ b2i false = 0 := by
  refine ⟨?_, ?_, ?_, ?_, ?_, rfl, rfl⟩ <;> intro b <;> cases b <;> simp [b2i]
def bcA (x : Int) : Int := x - bAnd (bUsr x 1) 1431655765
def bcB (x : Int) : Int := bAnd (bcA x) 858993459 + bAnd (bUsr (bcA x) 2) 858993459
def bcC (x : Int) : Int := bAnd (bcB x + bUsr (bcB x) 4) 252645135
def bcD (x : Int) : Int := bcC x + bUsr (bcC x) 8
def bcE (x : Int) : Int := bAnd (bcD x + bUsr (bcD x) 16) 63
theorem bcE_ok : ∀ n : Nat, n < 1024 → bcE (n : Int) = cnt (fun i => n.testBit i) 10 := by decide +kernel
theorem c_bitCount (p : Nat → Bool) (M : MM) : oI 1 161 [vI (mk p)] M (cnt p 10) := by
  refine go161 (fun S hS => ?_)
  refine wpx_ok hS bk161 (sp := sp161) 60 0 _ _ _ _ ?_
  simp only [LCM, B2, Bool.not_eq_false, Bool.not_eq_true, decide_eq_true_eq, decide_eq_false_iff_not, Int.not_lt, Int.not_le, CST, TN, WX, WA, WB, GS, LOC, BT161, SP161, CLS, FLD, ARR, CD, true_and, and_true, and_self, forall_const, true_implies, false_implies, implies_true, not_true_eq_false, not_false_eq_true, if_true, if_false, rgI, rgL, scr, swl, lkl, cats, cat, is2, List.drop_succ_cons, List.drop_zero, List.drop_nil, List.cons_append, List.nil_append, Option.toList_some, Option.toList_none, List.length_cons, List.length_nil, ne_eq, reduceCtorEq, Nat.reduceAdd, Nat.reduceSub, Nat.reduceMul, Nat.reduceLT, Nat.reduceLeDiff, Nat.reduceEqDiff, Nat.reduceBEq, Int.reduceToNat, Int.reduceLE, Int.reduceLT, Int.reduceEq, Int.reduceNeg, Int.reduceAdd, Int.reduceSub, Int.reduceMul, Int.toNat_natCast, Nat.zero_add, Int.add_zero, Nat.add_zero, ite_true, ite_false, Option.some.injEq, Nat.le_refl, or_true, true_or, or_false, false_or, if_pos, reduceIte, Nat.reduceGT]
  refine rt161 ⟨rfl, ?_, rfl⟩
  show some (Sum.inl (bcE (mk p))) = _
  have h1 := bcE_ok (mkN p 10) (mkN_10 p)
  unfold mk
  rw [h1]
  congr 2
  refine cnt_eq (fun i hi => ?_)
  rw [mkN_bit]
  simp [hi]

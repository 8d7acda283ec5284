/-! the heap behind both constructors, and what the small machine does, row by row -/
def sh0 : List SC := [Sum.inr (5, [some (some 1), none, some (some 2), some (some 5), some (some 13), some (some 18), some (some 26), some (some 31), none, some (some 32), some (some 37), some (some 44)]),
  Sum.inl (1, 400, mz_nul),
  Sum.inr (1, [some (some 3), some (some 4)]),
  Sum.inl (0, 4, mz_nul),
  Sum.inl (0, 10, mz_nul),
  Sum.inr (3, [some (some 6), none, some (some 7), some (some 8), some (some 9), none, some (some 10), some (some 11), some (some 12), none]),
  Sum.inl (0, 2, mz_nul),
  Sum.inl (0, 10, mz_nul),
  Sum.inl (0, 10, mz_nul),
  Sum.inl (0, 5, mz_nul),
  Sum.inl (0, 6, mz_nul),
  Sum.inl (0, 6, mz_nul),
  Sum.inl (0, 6, mz_nul),
  Sum.inr (0, [some (some 14), some (some 15), none, none, some (some 16), some (some 17), none]),
  Sum.inl (0, 10, mz_nul),
  Sum.inl (0, 10, mz_nul),
  Sum.inl (3, 20, mz_nul),
  Sum.inl (0, 20, mz_nul),
  Sum.inr (3, [some (some 19), none, some (some 20), some (some 21), some (some 22), none, some (some 23), some (some 24), some (some 25), none]),
  Sum.inl (0, 2, mz_nul),
  Sum.inl (0, 10, mz_nul),
  Sum.inl (0, 10, mz_nul),
  Sum.inl (0, 5, mz_nul),
  Sum.inl (0, 6, mz_nul),
  Sum.inl (0, 6, mz_nul),
  Sum.inl (0, 6, mz_nul),
  Sum.inr (0, [some (some 27), some (some 28), none, none, some (some 29), some (some 30), none]),
  Sum.inl (0, 10, mz_nul),
  Sum.inl (0, 10, mz_nul),
  Sum.inl (3, 20, mz_nul),
  Sum.inl (0, 20, mz_nul),
  Sum.inl (4, 2, (fun z => if z = 1 then some 50 else if z = 0 then some 45 else none)),
  Sum.inr (2, [some (some 33), some (some 34), none]),
  Sum.inl (0, 2, mz_nul),
  Sum.inl (5, 2, (fun z => if z = 1 then some 36 else if z = 0 then some 35 else none)),
  Sum.inl (0, 12, mz_nul),
  Sum.inl (0, 12, mz_nul),
  Sum.inr (4, [none, some (some 38), some (some 39), some (some 40), some (some 41), none, none, none, some (some 42), some (some 43)]),
  Sum.inl (0, 3, mz_nul),
  Sum.inl (0, 3, mz_nul),
  Sum.inl (0, 3, mz_nul),
  Sum.inl (0, 3, mz_nul),
  Sum.inl (0, 3, mz_nul),
  Sum.inl (0, 3, mz_nul),
  Sum.inl (0, 5, mz_nul),
  Sum.inr (0, [some (some 46), some (some 47), none, none, some (some 48), some (some 49), none]),
  Sum.inl (0, 10, mz_nul),
  Sum.inl (0, 10, mz_nul),
  Sum.inl (3, 20, mz_nul),
  Sum.inl (0, 20, mz_nul),
  Sum.inr (0, [some (some 51), some (some 52), none, none, some (some 53), some (some 54), none]),
  Sum.inl (0, 10, mz_nul),
  Sum.inl (0, 10, mz_nul),
  Sum.inl (3, 20, mz_nul),
  Sum.inl (0, 20, mz_nul),
  Sum.inr (6, [none, some (some 56), none, some (some 57), some (some 58), some (some 59), some (some 60), some (some 61), some (some 62), some (some 63), some (some 64), none, some (some 65), some (some 66), some (some 67), none, some (some 68), some (some 69), some (some 70), some (some 71), some (some 72), some (some 73), some (some 74), some (some 75), some (some 76), none, none, some (some 77), some (some 78), none]),
  Sum.inl (1, 400, mz_nul),
  Sum.inl (0, 4, mz_nul),
  Sum.inl (0, 2, mz_nul),
  Sum.inl (0, 2, mz_nul),
  Sum.inl (0, 2, mz_nul),
  Sum.inl (0, 80, mz_nul),
  Sum.inl (0, 10, mz_nul),
  Sum.inl (0, 36, mz_nul),
  Sum.inl (2, 20, mz_nul),
  Sum.inl (3, 20, mz_nul),
  Sum.inl (0, 20, mz_nul),
  Sum.inl (2, 20, mz_nul),
  Sum.inl (0, 40, mz_nul),
  Sum.inl (2, 20, mz_nul),
  Sum.inl (0, 2, mz_nul),
  Sum.inl (3, 40, mz_nul),
  Sum.inl (0, 40, mz_nul),
  Sum.inl (2, 40, mz_nul),
  Sum.inl (0, 10, mz_nul),
  Sum.inl (0, 10, mz_nul),
  Sum.inl (0, 10, mz_nul),
  Sum.inl (0, 5, mz_nul),
  Sum.inl (0, 4, mz_nul)]
theorem CLS : cls sh0 0 = some 5 ∧
    cls sh0 2 = some 1 ∧
    cls sh0 5 = some 3 ∧
    cls sh0 13 = some 0 ∧
    cls sh0 18 = some 3 ∧
    cls sh0 26 = some 0 ∧
    cls sh0 32 = some 2 ∧
    cls sh0 37 = some 4 ∧
    cls sh0 45 = some 0 ∧
    cls sh0 50 = some 0 ∧
    cls sh0 55 = some 6 := by
  refine ⟨?_, ?_, ?_, ?_, ?_, ?_, ?_, ?_, ?_, ?_, ?_⟩
  all_goals rfl
theorem FLD : fld sh0 0 0 = some (some (some 1)) ∧
    fld sh0 0 1 = some none ∧
    fld sh0 0 2 = some (some (some 2)) ∧
    fld sh0 0 3 = some (some (some 5)) ∧
    fld sh0 0 4 = some (some (some 13)) ∧
    fld sh0 0 5 = some (some (some 18)) ∧
    fld sh0 0 6 = some (some (some 26)) ∧
    fld sh0 0 7 = some (some (some 31)) ∧
    fld sh0 0 8 = some none ∧
    fld sh0 0 9 = some (some (some 32)) ∧
    fld sh0 0 10 = some (some (some 37)) ∧
    fld sh0 0 11 = some (some (some 44)) ∧
    fld sh0 2 0 = some (some (some 3)) ∧
    fld sh0 2 1 = some (some (some 4)) ∧
    fld sh0 5 0 = some (some (some 6)) ∧
    fld sh0 5 1 = some none ∧
    fld sh0 5 2 = some (some (some 7)) ∧
    fld sh0 5 3 = some (some (some 8)) ∧
    fld sh0 5 4 = some (some (some 9)) ∧
    fld sh0 5 5 = some none ∧
    fld sh0 5 6 = some (some (some 10)) ∧
    fld sh0 5 7 = some (some (some 11)) ∧
    fld sh0 5 8 = some (some (some 12)) ∧
    fld sh0 5 9 = some none ∧
    fld sh0 13 0 = some (some (some 14)) ∧
    fld sh0 13 1 = some (some (some 15)) ∧
    fld sh0 13 2 = some none ∧
    fld sh0 13 3 = some none ∧
    fld sh0 13 4 = some (some (some 16)) ∧
    fld sh0 13 5 = some (some (some 17)) ∧
    fld sh0 13 6 = some none ∧
    fld sh0 18 0 = some (some (some 19)) ∧
    fld sh0 18 1 = some none ∧
    fld sh0 18 2 = some (some (some 20)) ∧
    fld sh0 18 3 = some (some (some 21)) ∧
    fld sh0 18 4 = some (some (some 22)) ∧
    fld sh0 18 5 = some none ∧
    fld sh0 18 6 = some (some (some 23)) ∧
    fld sh0 18 7 = some (some (some 24)) ∧
    fld sh0 18 8 = some (some (some 25)) ∧
    fld sh0 18 9 = some none ∧
    fld sh0 26 0 = some (some (some 27)) ∧
    fld sh0 26 1 = some (some (some 28)) ∧
    fld sh0 26 2 = some none ∧
    fld sh0 26 3 = some none ∧
    fld sh0 26 4 = some (some (some 29)) ∧
    fld sh0 26 5 = some (some (some 30)) ∧
    fld sh0 26 6 = some none ∧
    fld sh0 32 0 = some (some (some 33)) ∧
    fld sh0 32 1 = some (some (some 34)) ∧
    fld sh0 32 2 = some none ∧
    fld sh0 37 0 = some none ∧
    fld sh0 37 1 = some (some (some 38)) ∧
    fld sh0 37 2 = some (some (some 39)) ∧
    fld sh0 37 3 = some (some (some 40)) ∧
    fld sh0 37 4 = some (some (some 41)) ∧
    fld sh0 37 5 = some none ∧
    fld sh0 37 6 = some none ∧
    fld sh0 37 7 = some none ∧
    fld sh0 37 8 = some (some (some 42)) ∧
    fld sh0 37 9 = some (some (some 43)) ∧
    fld sh0 45 0 = some (some (some 46)) ∧
    fld sh0 45 1 = some (some (some 47)) ∧
    fld sh0 45 2 = some none ∧
    fld sh0 45 3 = some none ∧
    fld sh0 45 4 = some (some (some 48)) ∧
    fld sh0 45 5 = some (some (some 49)) ∧
    fld sh0 45 6 = some none ∧
    fld sh0 50 0 = some (some (some 51)) ∧
    fld sh0 50 1 = some (some (some 52)) ∧
    fld sh0 50 2 = some none ∧
    fld sh0 50 3 = some none ∧
    fld sh0 50 4 = some (some (some 53)) ∧
    fld sh0 50 5 = some (some (some 54)) ∧
    fld sh0 50 6 = some none ∧
    fld sh0 55 0 = some none ∧
    fld sh0 55 1 = some (some (some 56)) ∧
    fld sh0 55 2 = some none ∧
    fld sh0 55 3 = some (some (some 57)) ∧
    fld sh0 55 4 = some (some (some 58)) ∧
    fld sh0 55 5 = some (some (some 59)) ∧
    fld sh0 55 6 = some (some (some 60)) ∧
    fld sh0 55 7 = some (some (some 61)) ∧
    fld sh0 55 8 = some (some (some 62)) ∧
    fld sh0 55 9 = some (some (some 63)) ∧
    fld sh0 55 10 = some (some (some 64)) ∧
    fld sh0 55 11 = some none ∧
    fld sh0 55 12 = some (some (some 65)) ∧
    fld sh0 55 13 = some (some (some 66)) ∧
    fld sh0 55 14 = some (some (some 67)) ∧
    fld sh0 55 15 = some none ∧
    fld sh0 55 16 = some (some (some 68)) ∧
    fld sh0 55 17 = some (some (some 69)) ∧
    fld sh0 55 18 = some (some (some 70)) ∧
    fld sh0 55 19 = some (some (some 71)) ∧
    fld sh0 55 20 = some (some (some 72)) ∧
    fld sh0 55 21 = some (some (some 73)) ∧
    fld sh0 55 22 = some (some (some 74)) ∧
    fld sh0 55 23 = some (some (some 75)) ∧
    fld sh0 55 24 = some (some (some 76)) ∧
    fld sh0 55 25 = some none ∧
    fld sh0 55 26 = some none ∧
    fld sh0 55 27 = some (some (some 77)) ∧
    fld sh0 55 28 = some (some (some 78)) ∧
    fld sh0 55 29 = some none := by
  refine ⟨?_, ?_, ?_, ?_, ?_, ?_, ?_, ?_, ?_, ?_, ?_, ?_, ?_, ?_, ?_, ?_, ?_, ?_, ?_, ?_, ?_, ?_, ?_, ?_, ?_, ?_, ?_, ?_, ?_, ?_, ?_, ?_, ?_, ?_, ?_, ?_, ?_, ?_, ?_, ?_, ?_, ?_, ?_, ?_, ?_, ?_, ?_, ?_, ?_, ?_, ?_, ?_, ?_, ?_, ?_, ?_, ?_, ?_, ?_, ?_, ?_, ?_, ?_, ?_, ?_, ?_, ?_, ?_, ?_, ?_, ?_, ?_, ?_, ?_, ?_, ?_, ?_, ?_, ?_, ?_, ?_, ?_, ?_, ?_, ?_, ?_, ?_, ?_, ?_, ?_, ?_, ?_, ?_, ?_, ?_, ?_, ?_, ?_, ?_, ?_, ?_, ?_, ?_, ?_, ?_⟩
  all_goals rfl
theorem ARR : arr sh0 1 = some (1, 400, mz_nul) ∧
    arr sh0 3 = some (0, 4, mz_nul) ∧
    arr sh0 4 = some (0, 10, mz_nul) ∧
    arr sh0 6 = some (0, 2, mz_nul) ∧
    arr sh0 7 = some (0, 10, mz_nul) ∧
    arr sh0 8 = some (0, 10, mz_nul) ∧
    arr sh0 9 = some (0, 5, mz_nul) ∧
    arr sh0 10 = some (0, 6, mz_nul) ∧
    arr sh0 11 = some (0, 6, mz_nul) ∧
    arr sh0 12 = some (0, 6, mz_nul) ∧
    arr sh0 14 = some (0, 10, mz_nul) ∧
    arr sh0 15 = some (0, 10, mz_nul) ∧
    arr sh0 16 = some (3, 20, mz_nul) ∧
    arr sh0 17 = some (0, 20, mz_nul) ∧
    arr sh0 19 = some (0, 2, mz_nul) ∧
    arr sh0 20 = some (0, 10, mz_nul) ∧
    arr sh0 21 = some (0, 10, mz_nul) ∧
    arr sh0 22 = some (0, 5, mz_nul) ∧
    arr sh0 23 = some (0, 6, mz_nul) ∧
    arr sh0 24 = some (0, 6, mz_nul) ∧
    arr sh0 25 = some (0, 6, mz_nul) ∧
    arr sh0 27 = some (0, 10, mz_nul) ∧
    arr sh0 28 = some (0, 10, mz_nul) ∧
    arr sh0 29 = some (3, 20, mz_nul) ∧
    arr sh0 30 = some (0, 20, mz_nul) ∧
    arr sh0 31 = some (4, 2, (fun z => if z = 1 then some 50 else if z = 0 then some 45 else none)) ∧
    arr sh0 33 = some (0, 2, mz_nul) ∧
    arr sh0 34 = some (5, 2, (fun z => if z = 1 then some 36 else if z = 0 then some 35 else none)) ∧
    arr sh0 35 = some (0, 12, mz_nul) ∧
    arr sh0 36 = some (0, 12, mz_nul) ∧
    arr sh0 38 = some (0, 3, mz_nul) ∧
    arr sh0 39 = some (0, 3, mz_nul) ∧
    arr sh0 40 = some (0, 3, mz_nul) ∧
    arr sh0 41 = some (0, 3, mz_nul) ∧
    arr sh0 42 = some (0, 3, mz_nul) ∧
    arr sh0 43 = some (0, 3, mz_nul) ∧
    arr sh0 44 = some (0, 5, mz_nul) ∧
    arr sh0 46 = some (0, 10, mz_nul) ∧
    arr sh0 47 = some (0, 10, mz_nul) ∧
    arr sh0 48 = some (3, 20, mz_nul) ∧
    arr sh0 49 = some (0, 20, mz_nul) ∧
    arr sh0 51 = some (0, 10, mz_nul) ∧
    arr sh0 52 = some (0, 10, mz_nul) ∧
    arr sh0 53 = some (3, 20, mz_nul) ∧
    arr sh0 54 = some (0, 20, mz_nul) ∧
    arr sh0 56 = some (1, 400, mz_nul) ∧
    arr sh0 57 = some (0, 4, mz_nul) ∧
    arr sh0 58 = some (0, 2, mz_nul) ∧
    arr sh0 59 = some (0, 2, mz_nul) ∧
    arr sh0 60 = some (0, 2, mz_nul) ∧
    arr sh0 61 = some (0, 80, mz_nul) ∧
    arr sh0 62 = some (0, 10, mz_nul) ∧
    arr sh0 63 = some (0, 36, mz_nul) ∧
    arr sh0 64 = some (2, 20, mz_nul) ∧
    arr sh0 65 = some (3, 20, mz_nul) ∧
    arr sh0 66 = some (0, 20, mz_nul) ∧
    arr sh0 67 = some (2, 20, mz_nul) ∧
    arr sh0 68 = some (0, 40, mz_nul) ∧
    arr sh0 69 = some (2, 20, mz_nul) ∧
    arr sh0 70 = some (0, 2, mz_nul) ∧
    arr sh0 71 = some (3, 40, mz_nul) ∧
    arr sh0 72 = some (0, 40, mz_nul) ∧
    arr sh0 73 = some (2, 40, mz_nul) ∧
    arr sh0 74 = some (0, 10, mz_nul) ∧
    arr sh0 75 = some (0, 10, mz_nul) ∧
    arr sh0 76 = some (0, 10, mz_nul) ∧
    arr sh0 77 = some (0, 5, mz_nul) ∧
    arr sh0 78 = some (0, 4, mz_nul) := by
  refine ⟨?_, ?_, ?_, ?_, ?_, ?_, ?_, ?_, ?_, ?_, ?_, ?_, ?_, ?_, ?_, ?_, ?_, ?_, ?_, ?_, ?_, ?_, ?_, ?_, ?_, ?_, ?_, ?_, ?_, ?_, ?_, ?_, ?_, ?_, ?_, ?_, ?_, ?_, ?_, ?_, ?_, ?_, ?_, ?_, ?_, ?_, ?_, ?_, ?_, ?_, ?_, ?_, ?_, ?_, ?_, ?_, ?_, ?_, ?_, ?_, ?_, ?_, ?_, ?_, ?_, ?_, ?_, ?_⟩
  all_goals rfl
theorem sh0_len : sh0.length = 79 := rfl
theorem WA : (∀ (C : CC) (X : XX) (mc ms : Nat) (J : Nat → KK) (Rt : RR) (t : BL) (pc n : Nat) (x : Int) (ls : AL) (st : List AV) (Z : ZZ) (M : MM) (k : Int), wpl C X mc ms J Rt ((.iconst k, x, n) :: t) pc ls st Z M = (wpl C X mc ms J Rt t (pc + n) ls (Sum.inl k :: st) Z M)) ∧
    (∀ (C : CC) (X : XX) (mc ms : Nat) (J : Nat → KK) (Rt : RR) (t : BL) (pc n : Nat) (x : Int) (ls : AL) (st : List AV) (Z : ZZ) (M : MM) (k : Nat), wpl C X mc ms J Rt ((.ldc2_w k, x, n) :: t) pc ls st Z M = (wpl C X mc ms J Rt t (pc + n) ls (Sum.inr (Sum.inl x) :: st) Z M)) ∧
    (∀ (C : CC) (X : XX) (mc ms : Nat) (J : Nat → KK) (Rt : RR) (t : BL) (pc n : Nat) (x : Int) (ls : AL) (st : List AV) (Z : ZZ) (M : MM) (k : Nat), wpl C X mc ms J Rt ((.iload k, x, n) :: t) pc ls st Z M = (gI (lget ls k) fun a => wpl C X mc ms J Rt t (pc + n) ls (Sum.inl a :: st) Z M)) ∧
    (∀ (C : CC) (X : XX) (mc ms : Nat) (J : Nat → KK) (Rt : RR) (t : BL) (pc n : Nat) (x : Int) (ls : AL) (st : List AV) (Z : ZZ) (M : MM) (k : Nat), wpl C X mc ms J Rt ((.lload k, x, n) :: t) pc ls st Z M = (gL (lget ls k) fun a => wpl C X mc ms J Rt t (pc + n) ls (Sum.inr (Sum.inl a) :: st) Z M)) ∧
    (∀ (C : CC) (X : XX) (mc ms : Nat) (J : Nat → KK) (Rt : RR) (t : BL) (pc n : Nat) (x : Int) (ls : AL) (st : List AV) (Z : ZZ) (M : MM) (k : Nat), wpl C X mc ms J Rt ((.aload k, x, n) :: t) pc ls st Z M = (gR (lget ls k) fun a => wpl C X mc ms J Rt t (pc + n) ls (Sum.inr (Sum.inr a) :: st) Z M)) ∧
    (∀ (C : CC) (X : XX) (mc ms : Nat) (J : Nat → KK) (Rt : RR) (t : BL) (pc n : Nat) (x : Int) (ls : AL) (st : List AV) (Z : ZZ) (M : MM) (k : Nat) (a : Int), wpl C X mc ms J Rt ((.istore k, x, n) :: t) pc ls (Sum.inl a :: st) Z M = (k < ls.length ∧ wpl C X mc ms J Rt t (pc + n) (lst1 ls k (Sum.inl a)) st Z M)) ∧
    (∀ (C : CC) (X : XX) (mc ms : Nat) (J : Nat → KK) (Rt : RR) (t : BL) (pc n : Nat) (x : Int) (ls : AL) (st : List AV) (Z : ZZ) (M : MM) (k : Nat) (a : Nat), wpl C X mc ms J Rt ((.astore k, x, n) :: t) pc ls (Sum.inr (Sum.inr a) :: st) Z M = (k < ls.length ∧ wpl C X mc ms J Rt t (pc + n) (lst1 ls k (Sum.inr (Sum.inr a))) st Z M)) ∧
    (∀ (C : CC) (X : XX) (mc ms : Nat) (J : Nat → KK) (Rt : RR) (t : BL) (pc n : Nat) (x : Int) (ls : AL) (st : List AV) (Z : ZZ) (M : MM) (k : Nat) (a : Int), wpl C X mc ms J Rt ((.lstore k, x, n) :: t) pc ls (Sum.inr (Sum.inl a) :: st) Z M = (k + 1 < ls.length ∧ wpl C X mc ms J Rt t (pc + n) (lst2 ls k (Sum.inr (Sum.inl a))) st Z M)) ∧
    (∀ (C : CC) (X : XX) (mc ms : Nat) (J : Nat → KK) (Rt : RR) (t : BL) (pc n : Nat) (x : Int) (ls : AL) (st : List AV) (Z : ZZ) (M : MM) (k : Nat) (c : Int), wpl C X mc ms J Rt ((.iinc k c, x, n) :: t) pc ls st Z M = (gI (lget ls k) fun a => k < ls.length ∧ wpl C X mc ms J Rt t (pc + n) (lst1 ls k (Sum.inl (a + c))) st Z M)) ∧
    (∀ (C : CC) (X : XX) (mc ms : Nat) (J : Nat → KK) (Rt : RR) (t : BL) (pc n : Nat) (x : Int) (ls : AL) (st : List AV) (Z : ZZ) (M : MM) (a b : Int), wpl C X mc ms J Rt ((.iadd, x, n) :: t) pc ls (Sum.inl b :: Sum.inl a :: st) Z M = (wpl C X mc ms J Rt t (pc + n) ls (Sum.inl (a + b) :: st) Z M)) ∧
    (∀ (C : CC) (X : XX) (mc ms : Nat) (J : Nat → KK) (Rt : RR) (t : BL) (pc n : Nat) (x : Int) (ls : AL) (st : List AV) (Z : ZZ) (M : MM) (a b : Int), wpl C X mc ms J Rt ((.isub, x, n) :: t) pc ls (Sum.inl b :: Sum.inl a :: st) Z M = (wpl C X mc ms J Rt t (pc + n) ls (Sum.inl (a - b) :: st) Z M)) ∧
    (∀ (C : CC) (X : XX) (mc ms : Nat) (J : Nat → KK) (Rt : RR) (t : BL) (pc n : Nat) (x : Int) (ls : AL) (st : List AV) (Z : ZZ) (M : MM) (a b : Int), wpl C X mc ms J Rt ((.imul, x, n) :: t) pc ls (Sum.inl b :: Sum.inl a :: st) Z M = (wpl C X mc ms J Rt t (pc + n) ls (Sum.inl (a * b) :: st) Z M)) ∧
    (∀ (C : CC) (X : XX) (mc ms : Nat) (J : Nat → KK) (Rt : RR) (t : BL) (pc n : Nat) (x : Int) (ls : AL) (st : List AV) (Z : ZZ) (M : MM) (a b : Int), wpl C X mc ms J Rt ((.iand, x, n) :: t) pc ls (Sum.inl b :: Sum.inl a :: st) Z M = (wpl C X mc ms J Rt t (pc + n) ls (Sum.inl (bAnd a b) :: st) Z M)) ∧
    (∀ (C : CC) (X : XX) (mc ms : Nat) (J : Nat → KK) (Rt : RR) (t : BL) (pc n : Nat) (x : Int) (ls : AL) (st : List AV) (Z : ZZ) (M : MM) (a b : Int), wpl C X mc ms J Rt ((.ior, x, n) :: t) pc ls (Sum.inl b :: Sum.inl a :: st) Z M = (wpl C X mc ms J Rt t (pc + n) ls (Sum.inl (bOr a b) :: st) Z M)) ∧
    (∀ (C : CC) (X : XX) (mc ms : Nat) (J : Nat → KK) (Rt : RR) (t : BL) (pc n : Nat) (x : Int) (ls : AL) (st : List AV) (Z : ZZ) (M : MM) (a b : Int), wpl C X mc ms J Rt ((.ixor, x, n) :: t) pc ls (Sum.inl b :: Sum.inl a :: st) Z M = (wpl C X mc ms J Rt t (pc + n) ls (Sum.inl (bXor a b) :: st) Z M)) ∧
    (∀ (C : CC) (X : XX) (mc ms : Nat) (J : Nat → KK) (Rt : RR) (t : BL) (pc n : Nat) (x : Int) (ls : AL) (st : List AV) (Z : ZZ) (M : MM) (a b : Int), wpl C X mc ms J Rt ((.ishl, x, n) :: t) pc ls (Sum.inl b :: Sum.inl a :: st) Z M = (wpl C X mc ms J Rt t (pc + n) ls (Sum.inl (bShl a b) :: st) Z M)) ∧
    (∀ (C : CC) (X : XX) (mc ms : Nat) (J : Nat → KK) (Rt : RR) (t : BL) (pc n : Nat) (x : Int) (ls : AL) (st : List AV) (Z : ZZ) (M : MM) (a b : Int), wpl C X mc ms J Rt ((.ishr, x, n) :: t) pc ls (Sum.inl b :: Sum.inl a :: st) Z M = (wpl C X mc ms J Rt t (pc + n) ls (Sum.inl (bShr a b) :: st) Z M)) ∧
    (∀ (C : CC) (X : XX) (mc ms : Nat) (J : Nat → KK) (Rt : RR) (t : BL) (pc n : Nat) (x : Int) (ls : AL) (st : List AV) (Z : ZZ) (M : MM) (a b : Int), wpl C X mc ms J Rt ((.iushr, x, n) :: t) pc ls (Sum.inl b :: Sum.inl a :: st) Z M = (wpl C X mc ms J Rt t (pc + n) ls (Sum.inl (bUsr a b) :: st) Z M)) ∧
    (∀ (C : CC) (X : XX) (mc ms : Nat) (J : Nat → KK) (Rt : RR) (t : BL) (pc n : Nat) (x : Int) (ls : AL) (st : List AV) (Z : ZZ) (M : MM) (a b : Int), wpl C X mc ms J Rt ((.idiv, x, n) :: t) pc ls (Sum.inl b :: Sum.inl a :: st) Z M = ((0 ≤ a ∧ a ≤ 2147483647 ∧ 0 < b ∧ b ≤ 2147483647) ∧ wpl C X mc ms J Rt t (pc + n) ls (Sum.inl (a / b) :: st) Z M)) ∧
    (∀ (C : CC) (X : XX) (mc ms : Nat) (J : Nat → KK) (Rt : RR) (t : BL) (pc n : Nat) (x : Int) (ls : AL) (st : List AV) (Z : ZZ) (M : MM) (a b : Int), wpl C X mc ms J Rt ((.irem, x, n) :: t) pc ls (Sum.inl b :: Sum.inl a :: st) Z M = ((0 ≤ a ∧ a ≤ 2147483647 ∧ 0 < b ∧ b ≤ 2147483647) ∧ wpl C X mc ms J Rt t (pc + n) ls (Sum.inl (a % b) :: st) Z M)) ∧
    (∀ (C : CC) (X : XX) (mc ms : Nat) (J : Nat → KK) (Rt : RR) (t : BL) (pc n : Nat) (x : Int) (ls : AL) (st : List AV) (Z : ZZ) (M : MM) (a b : Int), wpl C X mc ms J Rt ((.ladd, x, n) :: t) pc ls (Sum.inr (Sum.inl b) :: Sum.inr (Sum.inl a) :: st) Z M = (wpl C X mc ms J Rt t (pc + n) ls (Sum.inr (Sum.inl (a + b)) :: st) Z M)) ∧
    (∀ (C : CC) (X : XX) (mc ms : Nat) (J : Nat → KK) (Rt : RR) (t : BL) (pc n : Nat) (x : Int) (ls : AL) (st : List AV) (Z : ZZ) (M : MM) (a b : Int), wpl C X mc ms J Rt ((.lsub, x, n) :: t) pc ls (Sum.inr (Sum.inl b) :: Sum.inr (Sum.inl a) :: st) Z M = (wpl C X mc ms J Rt t (pc + n) ls (Sum.inr (Sum.inl (a - b)) :: st) Z M)) ∧
    (∀ (C : CC) (X : XX) (mc ms : Nat) (J : Nat → KK) (Rt : RR) (t : BL) (pc n : Nat) (x : Int) (ls : AL) (st : List AV) (Z : ZZ) (M : MM) (a b : Int), wpl C X mc ms J Rt ((.lmul, x, n) :: t) pc ls (Sum.inr (Sum.inl b) :: Sum.inr (Sum.inl a) :: st) Z M = (wpl C X mc ms J Rt t (pc + n) ls (Sum.inr (Sum.inl (a * b)) :: st) Z M)) ∧
    (∀ (C : CC) (X : XX) (mc ms : Nat) (J : Nat → KK) (Rt : RR) (t : BL) (pc n : Nat) (x : Int) (ls : AL) (st : List AV) (Z : ZZ) (M : MM) (a b : Int), wpl C X mc ms J Rt ((.land, x, n) :: t) pc ls (Sum.inr (Sum.inl b) :: Sum.inr (Sum.inl a) :: st) Z M = (wpl C X mc ms J Rt t (pc + n) ls (Sum.inr (Sum.inl (lAnd a b)) :: st) Z M)) ∧
    (∀ (C : CC) (X : XX) (mc ms : Nat) (J : Nat → KK) (Rt : RR) (t : BL) (pc n : Nat) (x : Int) (ls : AL) (st : List AV) (Z : ZZ) (M : MM) (a b : Int), wpl C X mc ms J Rt ((.lor, x, n) :: t) pc ls (Sum.inr (Sum.inl b) :: Sum.inr (Sum.inl a) :: st) Z M = (wpl C X mc ms J Rt t (pc + n) ls (Sum.inr (Sum.inl (lOr a b)) :: st) Z M)) ∧
    (∀ (C : CC) (X : XX) (mc ms : Nat) (J : Nat → KK) (Rt : RR) (t : BL) (pc n : Nat) (x : Int) (ls : AL) (st : List AV) (Z : ZZ) (M : MM) (a b : Int), wpl C X mc ms J Rt ((.ldiv, x, n) :: t) pc ls (Sum.inr (Sum.inl b) :: Sum.inr (Sum.inl a) :: st) Z M = ((0 ≤ a ∧ a ≤ 9223372036854775807 ∧ 0 < b ∧ b ≤ 9223372036854775807) ∧ wpl C X mc ms J Rt t (pc + n) ls (Sum.inr (Sum.inl (a / b)) :: st) Z M)) ∧
    (∀ (C : CC) (X : XX) (mc ms : Nat) (J : Nat → KK) (Rt : RR) (t : BL) (pc n : Nat) (x : Int) (ls : AL) (st : List AV) (Z : ZZ) (M : MM) (a b : Int), wpl C X mc ms J Rt ((.lrem, x, n) :: t) pc ls (Sum.inr (Sum.inl b) :: Sum.inr (Sum.inl a) :: st) Z M = ((0 ≤ a ∧ a ≤ 9223372036854775807 ∧ 0 < b ∧ b ≤ 9223372036854775807) ∧ wpl C X mc ms J Rt t (pc + n) ls (Sum.inr (Sum.inl (a % b)) :: st) Z M)) ∧
    (∀ (C : CC) (X : XX) (mc ms : Nat) (J : Nat → KK) (Rt : RR) (t : BL) (pc n : Nat) (x : Int) (ls : AL) (st : List AV) (Z : ZZ) (M : MM) (a b : Int), wpl C X mc ms J Rt ((.lshl, x, n) :: t) pc ls (Sum.inl b :: Sum.inr (Sum.inl a) :: st) Z M = (wpl C X mc ms J Rt t (pc + n) ls (Sum.inr (Sum.inl (lShl a b)) :: st) Z M)) ∧
    (∀ (C : CC) (X : XX) (mc ms : Nat) (J : Nat → KK) (Rt : RR) (t : BL) (pc n : Nat) (x : Int) (ls : AL) (st : List AV) (Z : ZZ) (M : MM) (a b : Int), wpl C X mc ms J Rt ((.lshr, x, n) :: t) pc ls (Sum.inl b :: Sum.inr (Sum.inl a) :: st) Z M = (wpl C X mc ms J Rt t (pc + n) ls (Sum.inr (Sum.inl (lShr a b)) :: st) Z M)) ∧
    (∀ (C : CC) (X : XX) (mc ms : Nat) (J : Nat → KK) (Rt : RR) (t : BL) (pc n : Nat) (x : Int) (ls : AL) (st : List AV) (Z : ZZ) (M : MM) (a b : Int), wpl C X mc ms J Rt ((.lushr, x, n) :: t) pc ls (Sum.inl b :: Sum.inr (Sum.inl a) :: st) Z M = (wpl C X mc ms J Rt t (pc + n) ls (Sum.inr (Sum.inl (lUsr a b)) :: st) Z M)) :=
  ⟨by intros; rfl,
   by intros; rfl,
   by intros; rfl,
   by intros; rfl,
   by intros; rfl,
   by intros; rfl,
   by intros; rfl,
   by intros; rfl,
   by intros; rfl,
   by intros; rfl,
   by intros; rfl,
   by intros; rfl,
   by intros; rfl,
   by intros; rfl,
   by intros; rfl,
   by intros; rfl,
   by intros; rfl,
   by intros; rfl,
   by intros; rfl,
   by intros; rfl,
   by intros; rfl,
   by intros; rfl,
   by intros; rfl,
   by intros; rfl,
   by intros; rfl,
   by intros; rfl,
   by intros; rfl,
   by intros; rfl,
   by intros; rfl,
   by intros; rfl⟩
theorem WB : (∀ (C : CC) (X : XX) (mc ms : Nat) (J : Nat → KK) (Rt : RR) (t : BL) (pc n : Nat) (x : Int) (ls : AL) (st : List AV) (Z : ZZ) (M : MM) (a b : Int), wpl C X mc ms J Rt ((.lcmp, x, n) :: t) pc ls (Sum.inr (Sum.inl b) :: Sum.inr (Sum.inl a) :: st) Z M = (rgL a ∧ rgL b ∧ wpl C X mc ms J Rt t (pc + n) ls (Sum.inl (if a < b then -1 else if a = b then 0 else 1) :: st) Z M)) ∧
    (∀ (C : CC) (X : XX) (mc ms : Nat) (J : Nat → KK) (Rt : RR) (t : BL) (pc n : Nat) (x : Int) (ls : AL) (st : List AV) (Z : ZZ) (M : MM) (a : Int), wpl C X mc ms J Rt ((.i2l, x, n) :: t) pc ls (Sum.inl a :: st) Z M = (rgI a ∧ wpl C X mc ms J Rt t (pc + n) ls (Sum.inr (Sum.inl a) :: st) Z M)) ∧
    (∀ (C : CC) (X : XX) (mc ms : Nat) (J : Nat → KK) (Rt : RR) (t : BL) (pc n : Nat) (x : Int) (ls : AL) (st : List AV) (Z : ZZ) (M : MM) (a : Int), wpl C X mc ms J Rt ((.l2i, x, n) :: t) pc ls (Sum.inr (Sum.inl a) :: st) Z M = (wpl C X mc ms J Rt t (pc + n) ls (Sum.inl a :: st) Z M)) ∧
    (∀ (C : CC) (X : XX) (mc ms : Nat) (J : Nat → KK) (Rt : RR) (t : BL) (pc n : Nat) (x : Int) (ls : AL) (st : List AV) (Z : ZZ) (M : MM) (a : Int), wpl C X mc ms J Rt ((.i2b, x, n) :: t) pc ls (Sum.inl a :: st) Z M = (wpl C X mc ms J Rt t (pc + n) ls (Sum.inl (bByt a) :: st) Z M)) ∧
    (∀ (C : CC) (X : XX) (mc ms : Nat) (J : Nat → KK) (Rt : RR) (t : BL) (pc n : Nat) (x : Int) (ls : AL) (st : List AV) (Z : ZZ) (M : MM) (a : Int), wpl C X mc ms J Rt ((.dup, x, n) :: t) pc ls (Sum.inl a :: st) Z M = (wpl C X mc ms J Rt t (pc + n) ls (Sum.inl a :: Sum.inl a :: st) Z M)) ∧
    (∀ (C : CC) (X : XX) (mc ms : Nat) (J : Nat → KK) (Rt : RR) (t : BL) (pc n : Nat) (x : Int) (ls : AL) (st : List AV) (Z : ZZ) (M : MM) (a : Nat), wpl C X mc ms J Rt ((.dup, x, n) :: t) pc ls (Sum.inr (Sum.inr a) :: st) Z M = (wpl C X mc ms J Rt t (pc + n) ls (Sum.inr (Sum.inr a) :: Sum.inr (Sum.inr a) :: st) Z M)) ∧
    (∀ (C : CC) (X : XX) (mc ms : Nat) (J : Nat → KK) (Rt : RR) (t : BL) (pc n : Nat) (x : Int) (ls : AL) (st : List AV) (Z : ZZ) (M : MM) (a : Int) (b : Nat), wpl C X mc ms J Rt ((.dup2, x, n) :: t) pc ls (Sum.inl a :: Sum.inr (Sum.inr b) :: st) Z M = (wpl C X mc ms J Rt t (pc + n) ls (Sum.inl a :: Sum.inr (Sum.inr b) :: Sum.inl a :: Sum.inr (Sum.inr b) :: st) Z M)) ∧
    (∀ (C : CC) (X : XX) (mc ms : Nat) (J : Nat → KK) (Rt : RR) (t : BL) (pc n : Nat) (x : Int) (ls : AL) (st : List AV) (Z : ZZ) (M : MM) (a : Int), wpl C X mc ms J Rt ((.pop, x, n) :: t) pc ls (Sum.inl a :: st) Z M = (wpl C X mc ms J Rt t (pc + n) ls st Z M)) ∧
    (∀ (C : CC) (X : XX) (mc ms : Nat) (J : Nat → KK) (Rt : RR) (t : BL) (pc n : Nat) (x : Int) (ls : AL) (st : List AV) (Z : ZZ) (M : MM) (g : Int), wpl C X mc ms J Rt ((.goto g, x, n) :: t) pc ls st Z M = (J g.toNat ls st Z M)) ∧
    (∀ (C : CC) (X : XX) (mc ms : Nat) (J : Nat → KK) (Rt : RR) (t : BL) (pc n : Nat) (x : Int) (ls : AL) (st : List AV) (Z : ZZ) (M : MM) (a b g : Int), wpl C X mc ms J Rt ((.if_icmp .eq g, x, n) :: t) pc ls (Sum.inl b :: Sum.inl a :: st) Z M = ((rgI a ∧ rgI b) ∧ (a = b → J g.toNat ls st Z M) ∧ (¬ a = b → wpl C X mc ms J Rt t (pc + n) ls st Z M))) ∧
    (∀ (C : CC) (X : XX) (mc ms : Nat) (J : Nat → KK) (Rt : RR) (t : BL) (pc n : Nat) (x : Int) (ls : AL) (st : List AV) (Z : ZZ) (M : MM) (a g : Int), wpl C X mc ms J Rt ((.ifCond .eq g, x, n) :: t) pc ls (Sum.inl a :: st) Z M = (rgI a ∧ (a = 0 → J g.toNat ls st Z M) ∧ (¬ a = 0 → wpl C X mc ms J Rt t (pc + n) ls st Z M))) ∧
    (∀ (C : CC) (X : XX) (mc ms : Nat) (J : Nat → KK) (Rt : RR) (t : BL) (pc n : Nat) (x : Int) (ls : AL) (st : List AV) (Z : ZZ) (M : MM) (a b g : Int), wpl C X mc ms J Rt ((.if_icmp .ne g, x, n) :: t) pc ls (Sum.inl b :: Sum.inl a :: st) Z M = ((rgI a ∧ rgI b) ∧ (¬ a = b → J g.toNat ls st Z M) ∧ (a = b → wpl C X mc ms J Rt t (pc + n) ls st Z M))) ∧
    (∀ (C : CC) (X : XX) (mc ms : Nat) (J : Nat → KK) (Rt : RR) (t : BL) (pc n : Nat) (x : Int) (ls : AL) (st : List AV) (Z : ZZ) (M : MM) (a g : Int), wpl C X mc ms J Rt ((.ifCond .ne g, x, n) :: t) pc ls (Sum.inl a :: st) Z M = (rgI a ∧ (¬ a = 0 → J g.toNat ls st Z M) ∧ (a = 0 → wpl C X mc ms J Rt t (pc + n) ls st Z M))) ∧
    (∀ (C : CC) (X : XX) (mc ms : Nat) (J : Nat → KK) (Rt : RR) (t : BL) (pc n : Nat) (x : Int) (ls : AL) (st : List AV) (Z : ZZ) (M : MM) (a b g : Int), wpl C X mc ms J Rt ((.if_icmp .lt g, x, n) :: t) pc ls (Sum.inl b :: Sum.inl a :: st) Z M = ((rgI a ∧ rgI b) ∧ (a < b → J g.toNat ls st Z M) ∧ (b ≤ a → wpl C X mc ms J Rt t (pc + n) ls st Z M))) ∧
    (∀ (C : CC) (X : XX) (mc ms : Nat) (J : Nat → KK) (Rt : RR) (t : BL) (pc n : Nat) (x : Int) (ls : AL) (st : List AV) (Z : ZZ) (M : MM) (a g : Int), wpl C X mc ms J Rt ((.ifCond .lt g, x, n) :: t) pc ls (Sum.inl a :: st) Z M = (rgI a ∧ (a < 0 → J g.toNat ls st Z M) ∧ (0 ≤ a → wpl C X mc ms J Rt t (pc + n) ls st Z M))) ∧
    (∀ (C : CC) (X : XX) (mc ms : Nat) (J : Nat → KK) (Rt : RR) (t : BL) (pc n : Nat) (x : Int) (ls : AL) (st : List AV) (Z : ZZ) (M : MM) (a b g : Int), wpl C X mc ms J Rt ((.if_icmp .ge g, x, n) :: t) pc ls (Sum.inl b :: Sum.inl a :: st) Z M = ((rgI a ∧ rgI b) ∧ (b ≤ a → J g.toNat ls st Z M) ∧ (a < b → wpl C X mc ms J Rt t (pc + n) ls st Z M))) ∧
    (∀ (C : CC) (X : XX) (mc ms : Nat) (J : Nat → KK) (Rt : RR) (t : BL) (pc n : Nat) (x : Int) (ls : AL) (st : List AV) (Z : ZZ) (M : MM) (a g : Int), wpl C X mc ms J Rt ((.ifCond .ge g, x, n) :: t) pc ls (Sum.inl a :: st) Z M = (rgI a ∧ (0 ≤ a → J g.toNat ls st Z M) ∧ (a < 0 → wpl C X mc ms J Rt t (pc + n) ls st Z M))) ∧
    (∀ (C : CC) (X : XX) (mc ms : Nat) (J : Nat → KK) (Rt : RR) (t : BL) (pc n : Nat) (x : Int) (ls : AL) (st : List AV) (Z : ZZ) (M : MM) (a b g : Int), wpl C X mc ms J Rt ((.if_icmp .gt g, x, n) :: t) pc ls (Sum.inl b :: Sum.inl a :: st) Z M = ((rgI a ∧ rgI b) ∧ (b < a → J g.toNat ls st Z M) ∧ (a ≤ b → wpl C X mc ms J Rt t (pc + n) ls st Z M))) ∧
    (∀ (C : CC) (X : XX) (mc ms : Nat) (J : Nat → KK) (Rt : RR) (t : BL) (pc n : Nat) (x : Int) (ls : AL) (st : List AV) (Z : ZZ) (M : MM) (a g : Int), wpl C X mc ms J Rt ((.ifCond .gt g, x, n) :: t) pc ls (Sum.inl a :: st) Z M = (rgI a ∧ (0 < a → J g.toNat ls st Z M) ∧ (a ≤ 0 → wpl C X mc ms J Rt t (pc + n) ls st Z M))) ∧
    (∀ (C : CC) (X : XX) (mc ms : Nat) (J : Nat → KK) (Rt : RR) (t : BL) (pc n : Nat) (x : Int) (ls : AL) (st : List AV) (Z : ZZ) (M : MM) (a b g : Int), wpl C X mc ms J Rt ((.if_icmp .le g, x, n) :: t) pc ls (Sum.inl b :: Sum.inl a :: st) Z M = ((rgI a ∧ rgI b) ∧ (a ≤ b → J g.toNat ls st Z M) ∧ (b < a → wpl C X mc ms J Rt t (pc + n) ls st Z M))) ∧
    (∀ (C : CC) (X : XX) (mc ms : Nat) (J : Nat → KK) (Rt : RR) (t : BL) (pc n : Nat) (x : Int) (ls : AL) (st : List AV) (Z : ZZ) (M : MM) (a g : Int), wpl C X mc ms J Rt ((.ifCond .le g, x, n) :: t) pc ls (Sum.inl a :: st) Z M = (rgI a ∧ (a ≤ 0 → J g.toNat ls st Z M) ∧ (0 < a → wpl C X mc ms J Rt t (pc + n) ls st Z M))) ∧
    (∀ (C : CC) (X : XX) (mc ms : Nat) (J : Nat → KK) (Rt : RR) (t : BL) (pc n : Nat) (x : Int) (ls : AL) (st : List AV) (Z : ZZ) (M : MM) (a d lo hi : Int) (os : Array Int), wpl C X mc ms J Rt ((.tableswitch d lo hi os, x, n) :: t) pc ls (Sum.inl a :: st) Z M = (rgI a ∧ (a < lo ∨ hi < a → J d.toNat ls st Z M) ∧ swl J a ls st Z M os.toList lo)) ∧
    (∀ (C : CC) (X : XX) (mc ms : Nat) (J : Nat → KK) (Rt : RR) (t : BL) (pc n : Nat) (x : Int) (ls : AL) (st : List AV) (Z : ZZ) (M : MM) (a d : Int) (ps : Array (Int × Int)), wpl C X mc ms J Rt ((.lookupswitch d ps, x, n) :: t) pc ls (Sum.inl a :: st) Z M = (rgI a ∧ lkl J a ls st Z M d ps.toList)) ∧
    (∀ (C : CC) (X : XX) (mc ms : Nat) (J : Nat → KK) (Rt : RR) (t : BL) (pc n : Nat) (x : Int) (ls : AL) (st : List AV) (Z : ZZ) (M : MM) (k r : Nat), wpl C X mc ms J Rt ((.getfield k, x, n) :: t) pc ls (Sum.inr (Sum.inr r) :: st) Z M = (cls Z.1 r = some x.toNat ∧ gF (fld Z.1 r k) (wpl C X mc ms J Rt t (pc + n) ls (Sum.inl (M r k) :: st) Z M) (fun q => wpl C X mc ms J Rt t (pc + n) ls (Sum.inr (Sum.inr q) :: st) Z M))) ∧
    (∀ (C : CC) (X : XX) (mc ms : Nat) (J : Nat → KK) (Rt : RR) (t : BL) (pc n : Nat) (x : Int) (ls : AL) (st : List AV) (Z : ZZ) (M : MM) (k r : Nat) (a : Int), wpl C X mc ms J Rt ((.putfield k, x, n) :: t) pc ls (Sum.inl a :: Sum.inr (Sum.inr r) :: st) Z M = (cls Z.1 r = some x.toNat ∧ gF (fld Z.1 r k) (wpl C X mc ms J Rt t (pc + n) ls st Z (mset M r k a)) (fun _ => False))) ∧
    (∀ (C : CC) (X : XX) (mc ms : Nat) (J : Nat → KK) (Rt : RR) (t : BL) (pc n : Nat) (x : Int) (ls : AL) (st : List AV) (Z : ZZ) (M : MM) (r : Nat) (j : Int), wpl C X mc ms J Rt ((.baload, x, n) :: t) pc ls (Sum.inl j :: Sum.inr (Sum.inr r) :: st) Z M = (gA (arr Z.1 r) j fun t1 _ => (t1 = 1 ∨ t1 = 2) ∧ wpl C X mc ms J Rt t (pc + n) ls (Sum.inl (M r j.toNat) :: st) Z M)) ∧
    (∀ (C : CC) (X : XX) (mc ms : Nat) (J : Nat → KK) (Rt : RR) (t : BL) (pc n : Nat) (x : Int) (ls : AL) (st : List AV) (Z : ZZ) (M : MM) (r : Nat) (j : Int), wpl C X mc ms J Rt ((.iaload, x, n) :: t) pc ls (Sum.inl j :: Sum.inr (Sum.inr r) :: st) Z M = (if r = scr then (match X with | some q => (0 ≤ j ∧ j < q.1) ∧ q.1 ≤ 100000 ∧ wpl C X mc ms J Rt t (pc + n) ls (Sum.inl (q.2 j.toNat) :: st) Z M | none => False) else gA (arr Z.1 r) j fun t1 _ => t1 = 0 ∧ wpl C X mc ms J Rt t (pc + n) ls (Sum.inl (M r j.toNat) :: st) Z M)) ∧
    (∀ (C : CC) (X : XX) (mc ms : Nat) (J : Nat → KK) (Rt : RR) (t : BL) (pc n : Nat) (x : Int) (ls : AL) (st : List AV) (Z : ZZ) (M : MM) (r : Nat) (j : Int), wpl C X mc ms J Rt ((.laload, x, n) :: t) pc ls (Sum.inl j :: Sum.inr (Sum.inr r) :: st) Z M = (gA (arr Z.1 r) j fun t1 _ => t1 = 3 ∧ wpl C X mc ms J Rt t (pc + n) ls (Sum.inr (Sum.inl (M r j.toNat)) :: st) Z M)) ∧
    (∀ (C : CC) (X : XX) (mc ms : Nat) (J : Nat → KK) (Rt : RR) (t : BL) (pc n : Nat) (x : Int) (ls : AL) (st : List AV) (Z : ZZ) (M : MM) (r : Nat) (j : Int), wpl C X mc ms J Rt ((.aaload, x, n) :: t) pc ls (Sum.inl j :: Sum.inr (Sum.inr r) :: st) Z M = (gA (arr Z.1 r) j fun t1 f => (t1 = 4 ∨ t1 = 5) ∧ gQ (f j.toNat) fun q => wpl C X mc ms J Rt t (pc + n) ls (Sum.inr (Sum.inr q) :: st) Z M)) ∧
    (∀ (C : CC) (X : XX) (mc ms : Nat) (J : Nat → KK) (Rt : RR) (t : BL) (pc n : Nat) (x : Int) (ls : AL) (st : List AV) (Z : ZZ) (M : MM) (r : Nat) (j a : Int), wpl C X mc ms J Rt ((.iastore, x, n) :: t) pc ls (Sum.inl a :: Sum.inl j :: Sum.inr (Sum.inr r) :: st) Z M = (gA (arr Z.1 r) j fun t1 _ => t1 = 0 ∧ wpl C X mc ms J Rt t (pc + n) ls st Z (mset M r j.toNat a))) ∧
    (∀ (C : CC) (X : XX) (mc ms : Nat) (J : Nat → KK) (Rt : RR) (t : BL) (pc n : Nat) (x : Int) (ls : AL) (st : List AV) (Z : ZZ) (M : MM) (r : Nat) (j a : Int), wpl C X mc ms J Rt ((.bastore, x, n) :: t) pc ls (Sum.inl a :: Sum.inl j :: Sum.inr (Sum.inr r) :: st) Z M = (gA (arr Z.1 r) j fun t1 _ => (t1 = 1 ∨ (t1 = 2 ∧ (a = 0 ∨ a = 1))) ∧ wpl C X mc ms J Rt t (pc + n) ls st Z (mset M r j.toNat (if t1 = 1 then bByt a else a)))) ∧
    (∀ (C : CC) (X : XX) (mc ms : Nat) (J : Nat → KK) (Rt : RR) (t : BL) (pc n : Nat) (x : Int) (ls : AL) (st : List AV) (Z : ZZ) (M : MM) (r : Nat) (j a : Int), wpl C X mc ms J Rt ((.lastore, x, n) :: t) pc ls (Sum.inr (Sum.inl a) :: Sum.inl j :: Sum.inr (Sum.inr r) :: st) Z M = (gA (arr Z.1 r) j fun t1 _ => t1 = 3 ∧ wpl C X mc ms J Rt t (pc + n) ls st Z (mset M r j.toNat a))) ∧
    (∀ (C : CC) (X : XX) (mc ms : Nat) (J : Nat → KK) (Rt : RR) (t : BL) (pc n : Nat) (x : Int) (ls : AL) (st : List AV) (Z : ZZ) (M : MM) (r : Nat), wpl C X mc ms J Rt ((.arraylength, x, n) :: t) pc ls (Sum.inr (Sum.inr r) :: st) Z M = (if r = scr then (match X with | some q => q.1 ≤ 100000 ∧ wpl C X mc ms J Rt t (pc + n) ls (Sum.inl q.1 :: st) Z M | none => False) else (match arr Z.1 r with | some (t1, n1, _) => t1 < 6 ∧ n1 ≤ 100000 ∧ wpl C X mc ms J Rt t (pc + n) ls (Sum.inl n1 :: st) Z M | _ => False))) ∧
    (∀ (C : CC) (X : XX) (mc ms : Nat) (J : Nat → KK) (Rt : RR) (t : BL) (pc n : Nat) (x : Int) (ls : AL) (st : List AV) (Z : ZZ) (M : MM) (y : Nat), wpl C X mc ms J Rt ((.invokestatic y, x, n) :: t) pc ls st Z M = (if y < 1000 then wpc C mc ms y x.toNat (wpl C X mc ms J Rt t (pc + n)) ls st Z M
      else if y = 1000 then pI st fun n2 st => pI st fun dp st => pR st fun dk st => pI st fun sp st => pR st fun sk st => (match arr Z.1 sk, arr Z.1 dk with
          | some (t2, n0, _), some (t1, n1, _) => t2 = t1 ∧ (t2 = 0 ∨ t2 = 3) ∧ 0 ≤ sp ∧ 0 ≤ dp ∧ 0 ≤ n2 ∧ sp + n2 ≤ n0 ∧ dp + n2 ≤ n1 ∧ n0 ≤ 100000 ∧ n1 ≤ 100000 ∧ st = [] ∧ wpl C X mc ms J Rt t (pc + n) ls st Z (mcpy M sk dk sp.toNat dp.toNat n2.toNat)
          | _, _ => False)
      else if y = 1002 then pI st fun b st => pI st fun a st => rgI a ∧ rgI b ∧ cats st ≤ 8 ∧ Z.2.1 ≤ mc ∧ Z.2.2 ≤ ms ∧ wpl C X mc ms J Rt t (pc + n) ls (Sum.inl (max a b) :: st) Z M
      else if y = 1003 then pI st fun b st => pI st fun a st => rgI a ∧ rgI b ∧ cats st ≤ 8 ∧ Z.2.1 ≤ mc ∧ Z.2.2 ≤ ms ∧ wpl C X mc ms J Rt t (pc + n) ls (Sum.inl (min a b) :: st) Z M
      else False)) ∧
    (∀ (C : CC) (X : XX) (mc ms : Nat) (J : Nat → KK) (Rt : RR) (t : BL) (pc n : Nat) (x : Int) (ls : AL) (st : List AV) (Z : ZZ) (M : MM) (y : Nat), wpl C X mc ms J Rt ((.invokevirtual y, x, n) :: t) pc ls st Z M = (rcv Z.1 st (x.toNat - 1) y ∧ wpc C mc ms y x.toNat (wpl C X mc ms J Rt t (pc + n)) ls st Z M)) ∧
    (∀ (C : CC) (X : XX) (mc ms : Nat) (J : Nat → KK) (Rt : RR) (t : BL) (pc n : Nat) (x : Int) (ls : AL) (Z : ZZ) (M : MM) (a : Int), wpl C X mc ms J Rt ((.ireturn, x, n) :: t) pc ls [Sum.inl a] Z M = (True ∧ Rt (some (Sum.inl a)) Z M)) ∧
    (∀ (C : CC) (X : XX) (mc ms : Nat) (J : Nat → KK) (Rt : RR) (t : BL) (pc n : Nat) (x : Int) (ls : AL) (Z : ZZ) (M : MM) (a : Int), wpl C X mc ms J Rt ((.lreturn, x, n) :: t) pc ls [Sum.inr (Sum.inl a)] Z M = (True ∧ Rt (some (Sum.inr (Sum.inl a))) Z M)) ∧
    (∀ (C : CC) (X : XX) (mc ms : Nat) (J : Nat → KK) (Rt : RR) (t : BL) (pc n : Nat) (x : Int) (ls : AL) (Z : ZZ) (M : MM), wpl C X mc ms J Rt ((.return_, x, n) :: t) pc ls [] Z M = (True ∧ Rt none Z M)) ∧
    (∀ (C : CC) (X : XX) (mc ms : Nat) (J : Nat → KK) (Rt : RR) (pc : Nat) (ls : AL) (st : List AV) (Z : ZZ) (M : MM), wpl C X mc ms J Rt [] pc ls st Z M = J pc ls st Z M) :=
  ⟨by intros; rfl,
   by intros; rfl,
   by intros; rfl,
   by intros; rfl,
   by intros; rfl,
   by intros; rfl,
   by intros; rfl,
   by intros; rfl,
   by intros; rfl,
   by intros; exact propext ⟨fun h => ⟨⟨h.1, h.2.1⟩, h.2.2.1, fun z => h.2.2.2 (by have := z; unfold cnd; omega)⟩, fun h => ⟨h.1.1, h.1.2, h.2.1, fun z => h.2.2 (by have := z; unfold cnd at this; omega)⟩⟩,
   by intros; exact propext ⟨fun h => ⟨h.1, h.2.1, fun z => h.2.2 (by have := z; unfold cnd; omega)⟩, fun h => ⟨h.1, h.2.1, fun z => h.2.2 (by have := z; unfold cnd at this; omega)⟩⟩,
   by intros; exact propext ⟨fun h => ⟨⟨h.1, h.2.1⟩, h.2.2.1, fun z => h.2.2.2 (by have := z; unfold cnd; omega)⟩, fun h => ⟨h.1.1, h.1.2, h.2.1, fun z => h.2.2 (by have := z; unfold cnd at this; omega)⟩⟩,
   by intros; exact propext ⟨fun h => ⟨h.1, h.2.1, fun z => h.2.2 (by have := z; unfold cnd; omega)⟩, fun h => ⟨h.1, h.2.1, fun z => h.2.2 (by have := z; unfold cnd at this; omega)⟩⟩,
   by intros; exact propext ⟨fun h => ⟨⟨h.1, h.2.1⟩, h.2.2.1, fun z => h.2.2.2 (by have := z; unfold cnd; omega)⟩, fun h => ⟨h.1.1, h.1.2, h.2.1, fun z => h.2.2 (by have := z; unfold cnd at this; omega)⟩⟩,
   by intros; exact propext ⟨fun h => ⟨h.1, h.2.1, fun z => h.2.2 (by have := z; unfold cnd; omega)⟩, fun h => ⟨h.1, h.2.1, fun z => h.2.2 (by have := z; unfold cnd at this; omega)⟩⟩,
   by intros; exact propext ⟨fun h => ⟨⟨h.1, h.2.1⟩, h.2.2.1, fun z => h.2.2.2 (by have := z; unfold cnd; omega)⟩, fun h => ⟨h.1.1, h.1.2, h.2.1, fun z => h.2.2 (by have := z; unfold cnd at this; omega)⟩⟩,
   by intros; exact propext ⟨fun h => ⟨h.1, h.2.1, fun z => h.2.2 (by have := z; unfold cnd; omega)⟩, fun h => ⟨h.1, h.2.1, fun z => h.2.2 (by have := z; unfold cnd at this; omega)⟩⟩,
   by intros; exact propext ⟨fun h => ⟨⟨h.1, h.2.1⟩, h.2.2.1, fun z => h.2.2.2 (by have := z; unfold cnd; omega)⟩, fun h => ⟨h.1.1, h.1.2, h.2.1, fun z => h.2.2 (by have := z; unfold cnd at this; omega)⟩⟩,
   by intros; exact propext ⟨fun h => ⟨h.1, h.2.1, fun z => h.2.2 (by have := z; unfold cnd; omega)⟩, fun h => ⟨h.1, h.2.1, fun z => h.2.2 (by have := z; unfold cnd at this; omega)⟩⟩,
   by intros; exact propext ⟨fun h => ⟨⟨h.1, h.2.1⟩, h.2.2.1, fun z => h.2.2.2 (by have := z; unfold cnd; omega)⟩, fun h => ⟨h.1.1, h.1.2, h.2.1, fun z => h.2.2 (by have := z; unfold cnd at this; omega)⟩⟩,
   by intros; exact propext ⟨fun h => ⟨h.1, h.2.1, fun z => h.2.2 (by have := z; unfold cnd; omega)⟩, fun h => ⟨h.1, h.2.1, fun z => h.2.2 (by have := z; unfold cnd at this; omega)⟩⟩,
   by intros; rfl,
   by intros; rfl,
   by intros; rfl,
   by intros; rfl,
   by intros; rfl,
   by intros; rfl,
   by intros; rfl,
   by intros; rfl,
   by intros; rfl,
   by intros; rfl,
   by intros; rfl,
   by intros; rfl,
   by intros; rfl,
   by intros; rfl,
   by intros; exact propext ⟨fun h => ⟨trivial, h.2⟩, fun h => ⟨rfl, h.2⟩⟩,
   by intros; exact propext ⟨fun h => ⟨trivial, h.2⟩, fun h => ⟨rfl, h.2⟩⟩,
   by intros; exact propext ⟨fun h => ⟨trivial, h.2⟩, fun h => ⟨rfl, h.2⟩⟩,
   by intros; rfl⟩
theorem blk_if {y pc k : Nat} {a b : BL} (ha : blk y k a = true) (hb : blk y pc b = true) : blk y pc (if pc = k then a else b) = true := by
  by_cases h : pc = k
  · subst h; rw [if_pos rfl]; exact ha
  · rw [if_neg h]; exact hb
theorem WX (C : CC) (X : XX) (mc ms : Nat) (S : Nat → KK) (Rt : RR) (bt : Nat → BL) (sp : Nat → Bool) (f pc : Nat) (ls : AL) (st : List AV) (Z : ZZ) (M : MM) : wpx C X mc ms S Rt bt sp (f + 1) pc ls st Z M = wpl C X mc ms (fun t => cond (sp t) (S t) (wpx C X mc ms S Rt bt sp f t)) Rt (bt pc) pc ls st Z M := rfl
theorem GS : (∀ (a : Int) (k : Int → Prop), gI (some (Sum.inl a)) k = k a) ∧ (∀ (a : Int) (k : Int → Prop), gL (some (Sum.inr (Sum.inl a))) k = k a) ∧ (∀ (a : Nat) (k : Nat → Prop), gR (some (Sum.inr (Sum.inr a))) k = k a) ∧ (∀ (kn : Prop) (kr : Nat → Prop), gF (some none) kn kr = kn) ∧ (∀ (q : Nat) (kn : Prop) (kr : Nat → Prop), gF (some (some (some q))) kn kr = kr q) ∧
    (∀ (t n : Nat) (f : Nat → Option Nat) (j : Int) (k : Nat → (Nat → Option Nat) → Prop), gA (some (t, n, f)) j k = ((0 ≤ j ∧ j < n) ∧ n ≤ 100000 ∧ k t f)) ∧ (∀ (q : Nat) (k : Nat → Prop), gQ (some q) k = k q) ∧
    (∀ (a : Int) (t : List AV) (k : Int → List AV → Prop), pI (Sum.inl a :: t) k = k a t) ∧ (∀ (a : Nat) (t : List AV) (k : Nat → List AV → Prop), pR (Sum.inr (Sum.inr a) :: t) k = k a t) :=
  ⟨fun _ _ => rfl, fun _ _ => rfl, fun _ _ => rfl, fun _ _ => rfl, fun _ _ _ => rfl, fun _ _ _ _ _ => rfl, fun _ _ => rfl, fun _ _ _ => rfl, fun _ _ _ => rfl⟩
theorem LOC : (∀ (x : Option AV) (t : AL), lget (x :: t) 0 = x) ∧ (∀ (x : Option AV) (t : AL) (i : Nat), lget (x :: t) (i + 1) = lget t i) ∧ (∀ (x : Option AV) (t : AL) (v : AV), lst1 (x :: t) 0 v = some v :: t) ∧ (∀ (x : Option AV) (t : AL) (v : AV), lst1 (x :: t) 1 v = lclr x :: lst1 t 0 v) ∧ (∀ (x : Option AV) (t : AL) (i : Nat) (v : AV), lst1 (x :: t) (i + 2) v = x :: lst1 t (i + 1) v) ∧
    (∀ (x y : Option AV) (t : AL) (v : AV), lst2 (x :: y :: t) 0 v = some v :: none :: t) ∧ (∀ (x y : Option AV) (t : AL) (v : AV), lst2 (x :: y :: t) 1 v = lclr x :: lst2 (y :: t) 0 v) ∧ (∀ (x : Option AV) (t : AL) (i : Nat) (v : AV), lst2 (x :: t) (i + 2) v = x :: lst2 t (i + 1) v) ∧
    lclr none = none ∧ (∀ a : Int, lclr (some (Sum.inl a)) = some (Sum.inl a)) ∧ (∀ a : Nat, lclr (some (Sum.inr (Sum.inr a))) = some (Sum.inr (Sum.inr a))) ∧ (∀ a : Int, lclr (some (Sum.inr (Sum.inl a))) = none) :=
  ⟨fun _ _ => rfl, fun _ _ _ => rfl, fun _ _ _ => rfl, fun _ _ _ => rfl, fun _ _ _ _ => rfl, fun _ _ _ _ => rfl, fun _ _ _ _ => by simp [lst2], fun x t i v => by cases t <;> simp [lst2], rfl, fun _ => rfl, fun _ => rfl, fun _ => rfl⟩

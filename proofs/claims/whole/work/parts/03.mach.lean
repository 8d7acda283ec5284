/-! THE SMALL MACHINE: ints and longs as whole numbers, references as numbers of cells, the heap as a list of shapes and one table of numbers -/
abbrev AV : Type := Int ⊕ Int ⊕ Nat
abbrev AL : Type := List (Option AV)
abbrev SC : Type := (Nat × Nat × (Nat → Option Nat)) ⊕ (Nat × List (Option (Option Nat)))
abbrev MM : Type := Nat → Nat → Int
abbrev ZZ : Type := List SC × Nat × Nat
def mz_nul : Nat → Option Nat := fun _ => none
abbrev vI (a : Int) : AV := Sum.inl a
abbrev vL (a : Int) : AV := Sum.inr (Sum.inl a)
abbrev vR (k : Nat) : AV := Sum.inr (Sum.inr k)
def iN (a : Int) : Int32 := Int32.ofInt a
def jN (a : Int) : Int64 := Int64.ofInt a
def rgI (a : Int) : Prop := -2147483648 ≤ a ∧ a ≤ 2147483647
def rgL (a : Int) : Prop := -9223372036854775808 ≤ a ∧ a ≤ 9223372036854775807
def mset (M : MM) (k j : Nat) (a : Int) : MM := fun k' j' => if k' = k ∧ j' = j then a else M k' j'
def mnew (M : MM) (k : Nat) : MM := fun k' j' => if k' = k then 0 else M k' j'
def mcpy (M : MM) (sk dk sp dp n : Nat) : MM := fun k j => if k = dk ∧ dp ≤ j ∧ j < dp + n then M sk (sp + (j - dp)) else M k j
def fld (sh : List SC) (r k : Nat) : Option (Option (Option Nat)) := match sh[r]? with
  | some (Sum.inr q) => q.2[k]?
  | _ => none
def arr (sh : List SC) (r : Nat) : Option (Nat × Nat × (Nat → Option Nat)) := match sh[r]? with
  | some (Sum.inl a) => some a
  | _ => none
def cls (sh : List SC) (r : Nat) : Option Nat := match sh[r]? with
  | some (Sum.inr q) => some q.1
  | _ => none
def is2 (v : AV) : Bool := match v with
  | Sum.inr (Sum.inl _) => true
  | _ => false
def lget : AL → Nat → Option AV
  | [], _ => none
  | x :: _, 0 => x
  | _ :: t, i + 1 => lget t i
def lclr (x : Option AV) : Option AV := match x with
  | some (Sum.inr (Sum.inl _)) => none
  | x => x
def lst1 : AL → Nat → AV → AL
  | [], _, _ => []
  | _ :: t, 0, v => some v :: t
  | x :: t, 1, v => lclr x :: lst1 t 0 v
  | x :: t, i + 2, v => x :: lst1 t (i + 1) v
def lst2 : AL → Nat → AV → AL
  | [], _, _ => []
  | [_], 0, v => [some v]
  | _ :: _ :: t, 0, v => some v :: none :: t
  | x :: t, 1, v => lclr x :: lst2 t 0 v
  | x :: t, i + 2, v => x :: lst2 t (i + 1) v
def cat (v : AV) : Nat := if is2 v then 2 else 1
def cats : List AV → Nat
  | [] => 0
  | v :: t => cat v + cats t
def sls : List AV → AL
  | [] => []
  | v :: t => if is2 v then some v :: none :: sls t else some v :: sls t
def entL (n : Nat) (args : List AV) : AL := sls args ++ List.replicate (n - (sls args).length) none
/-- a reference that a making of the cells n .. n' - 1 leaves as it is -/
def rfv (n n' : Nat) (v : AV) : Prop := match v with
  | Sum.inr (Sum.inr k) => k < n ∨ n' ≤ k
  | _ => True
def rfs : List AV → Nat → Nat → Prop
  | [], _, _ => True
  | v :: t, n, n' => rfv n n' v ∧ rfs t n n'
def rfq : AL → Nat → Nat → Prop
  | [], _, _ => True
  | none :: t, n, n' => rfq t n n'
  | some v :: t, n, n' => rfv n n' v ∧ rfq t n n'
def bAnd (x y : Int) : Int := (iN x &&& iN y).toInt
def bOr (x y : Int) : Int := (iN x ||| iN y).toInt
def bXor (x y : Int) : Int := (iN x ^^^ iN y).toInt
def bShl (x y : Int) : Int := (iN x <<< (iN y &&& 31)).toInt
def bShr (x y : Int) : Int := (iN x >>> (iN y &&& 31)).toInt
def bUsr (x y : Int) : Int := ((iN x).toUInt32 >>> ((iN y).toUInt32 &&& Int32.toUInt32 31)).toInt32.toInt
def bByt (x : Int) : Int := (iN x).toInt8.toInt32.toInt
def lAnd (x y : Int) : Int := (jN x &&& jN y).toInt
def lOr (x y : Int) : Int := (jN x ||| jN y).toInt
def lShl (x y : Int) : Int := (jN x <<< ((iN y).toInt64 &&& 63)).toInt
def lShr (x y : Int) : Int := (jN x >>> ((iN y).toInt64 &&& 63)).toInt
def lUsr (x y : Int) : Int := ((jN x).toUInt64 >>> ((iN y).toInt64.toUInt64 &&& Int64.toUInt64 63)).toInt64.toInt
abbrev PP : Type := Option AV → List SC → MM → Prop
abbrev CC : Type := Nat → List AV → List SC → MM → Nat → Nat → PP → Prop
abbrev KK : Type := AL → List AV → ZZ → MM → Prop
abbrev RR : Type := Option AV → ZZ → MM → Prop
abbrev XX : Type := Option (Nat × (Nat → Int))
def scr : Nat := 1000000
def pI (st : List AV) (k : Int → List AV → Prop) : Prop := match st with
  | Sum.inl a :: t => k a t
  | _ => False
def pL (st : List AV) (k : Int → List AV → Prop) : Prop := match st with
  | Sum.inr (Sum.inl a) :: t => k a t
  | _ => False
def pR (st : List AV) (k : Nat → List AV → Prop) : Prop := match st with
  | Sum.inr (Sum.inr a) :: t => k a t
  | _ => False
/-- a value of one slot -/
def pV (st : List AV) (k : AV → List AV → Prop) : Prop := match st with
  | Sum.inl a :: t => k (Sum.inl a) t
  | Sum.inr (Sum.inr a) :: t => k (Sum.inr (Sum.inr a)) t
  | _ => False
def gI (x : Option AV) (k : Int → Prop) : Prop := match x with
  | some (Sum.inl a) => k a
  | _ => False
def gL (x : Option AV) (k : Int → Prop) : Prop := match x with
  | some (Sum.inr (Sum.inl a)) => k a
  | _ => False
def gR (x : Option AV) (k : Nat → Prop) : Prop := match x with
  | some (Sum.inr (Sum.inr a)) => k a
  | _ => False
def gF (x : Option (Option (Option Nat))) (kn : Prop) (kr : Nat → Prop) : Prop := match x with
  | some none => kn
  | some (some (some q)) => kr q
  | _ => False
/-- an array of a kind, the index in it -/
def gA (x : Option (Nat × Nat × (Nat → Option Nat))) (j : Int) (k : Nat → (Nat → Option Nat) → Prop) : Prop := match x with
  | some (t, n, f) => (0 ≤ j ∧ j < n) ∧ n ≤ 100000 ∧ k t f
  | none => False
def gQ (x : Option Nat) (k : Nat → Prop) : Prop := match x with
  | some q => k q
  | none => False
def swl (J : Nat → KK) (a : Int) (ls : AL) (st : List AV) (Z : ZZ) (M : MM) : List Int → Int → Prop
  | [], _ => True
  | o :: t, v => (a = v → J o.toNat ls st Z M) ∧ swl J a ls st Z M t (v + 1)
def lkl (J : Nat → KK) (a : Int) (ls : AL) (st : List AV) (Z : ZZ) (M : MM) (d : Int) : List (Int × Int) → Prop
  | [] => J d.toNat ls st Z M
  | q :: t => (a = q.1 → J q.2.toNat ls st Z M) ∧ (a ≠ q.1 → lkl J a ls st Z M d t)
def cnd (c : Jvm.ClassFile.Cond) (x y : Int) : Prop := match c with
  | .eq => x = y
  | .ne => x ≠ y
  | .lt => x < y
  | .ge => y ≤ x
  | .gt => y < x
  | .le => x ≤ y
/-- the fields of a new object of a class: none a number, some none a reference that is null -/
def newF (ci : Nat) : List (Option (Option Nat)) := match ci with
  | 0 => [some none, some none, none, none, some none, some none, none]
  | 1 => [some none, some none]
  | 2 => [some none, some none, none]
  | 3 => [some none, none, some none, some none, some none, none, some none, some none, some none, none]
  | 4 => [none, some none, some none, some none, some none, none, none, none, some none, some none]
  | 5 => [some none, none, some none, some none, some none, some none, some none, some none, none, some none, some none, some none]
  | 6 => [none, some none, none, some none, some none, some none, some none, some none, some none, some none, some none, none, some none, some none, some none, none, some none, some none, some none, some none, some none, some none, some none, some none, some none, none, none, some none, some none, none]
  | _ => []
def newT (t : ArrayType) : Nat := match t with
  | .int => 0
  | .byte => 1
  | .boolean => 2
  | .long => 3
  | _ => 9
/-- a call: what it takes off the stack, whom it asks, how it goes on -/
def wpc (C : CC) (mc ms : Nat) (y n : Nat) (K : KK) (ls : AL) (st : List AV) (Z : ZZ) (M : MM) : Prop :=
  n ≤ st.length ∧ cats (st.drop n) ≤ 8 ∧ ∃ c s : Nat, Z.2.1 + c ≤ mc ∧ Z.2.2 + s ≤ ms ∧
    C y (st.take n).reverse Z.1 M c s (fun r sh M' => (sh.length = Z.1.length ∨ (rfs (st.drop n) Z.1.length sh.length ∧ rfq ls Z.1.length sh.length)) ∧ K ls (r.toList ++ st.drop n) (sh, Z.2.1 + c, Z.2.2 + s) M')
/-- the class of the receiver: the n-th below the top -/
def rcv (sh : List SC) (st : List AV) (n y : Nat) : Prop := gR st[n]? (fun r => match mz_T[y]? with
  | some e => cls sh r = some e.2.2.2.2.2.1
  | none => False)
/-- one instruction: J goes to a place, K to the next, Rt ends -/
def wpi (C : CC) (X : XX) (mc ms : Nat) (J : Nat → KK) (Rt : RR) (i : Instr) (x : Int) (K : KK) (ls : AL) (st : List AV) (Z : ZZ) (M : MM) : Prop := match i with
  | .iconst n => K ls (vI n :: st) Z M
  | .ldc2_w _ => K ls (vL x :: st) Z M
  | .iload k => gI (lget ls k) fun a => K ls (vI a :: st) Z M
  | .lload k => gL (lget ls k) fun a => K ls (vL a :: st) Z M
  | .aload k => gR (lget ls k) fun a => K ls (vR a :: st) Z M
  | .istore k => pI st fun a st => k < ls.length ∧ K (lst1 ls k (vI a)) st Z M
  | .astore k => pR st fun a st => k < ls.length ∧ K (lst1 ls k (vR a)) st Z M
  | .lstore k => pL st fun a st => k + 1 < ls.length ∧ K (lst2 ls k (vL a)) st Z M
  | .iinc k n => gI (lget ls k) fun a => k < ls.length ∧ K (lst1 ls k (vI (a + n))) st Z M
  | .iadd => pI st fun b st => pI st fun a st => K ls (vI (a + b) :: st) Z M
  | .isub => pI st fun b st => pI st fun a st => K ls (vI (a - b) :: st) Z M
  | .imul => pI st fun b st => pI st fun a st => K ls (vI (a * b) :: st) Z M
  | .idiv => pI st fun b st => pI st fun a st => (0 ≤ a ∧ a ≤ 2147483647 ∧ 0 < b ∧ b ≤ 2147483647) ∧ K ls (vI (a / b) :: st) Z M
  | .irem => pI st fun b st => pI st fun a st => (0 ≤ a ∧ a ≤ 2147483647 ∧ 0 < b ∧ b ≤ 2147483647) ∧ K ls (vI (a % b) :: st) Z M
  | .iand => pI st fun b st => pI st fun a st => K ls (vI (bAnd a b) :: st) Z M
  | .ior => pI st fun b st => pI st fun a st => K ls (vI (bOr a b) :: st) Z M
  | .ixor => pI st fun b st => pI st fun a st => K ls (vI (bXor a b) :: st) Z M
  | .ishl => pI st fun b st => pI st fun a st => K ls (vI (bShl a b) :: st) Z M
  | .ishr => pI st fun b st => pI st fun a st => K ls (vI (bShr a b) :: st) Z M
  | .iushr => pI st fun b st => pI st fun a st => K ls (vI (bUsr a b) :: st) Z M
  | .ladd => pL st fun b st => pL st fun a st => K ls (vL (a + b) :: st) Z M
  | .lsub => pL st fun b st => pL st fun a st => K ls (vL (a - b) :: st) Z M
  | .lmul => pL st fun b st => pL st fun a st => K ls (vL (a * b) :: st) Z M
  | .ldiv => pL st fun b st => pL st fun a st => (0 ≤ a ∧ a ≤ 9223372036854775807 ∧ 0 < b ∧ b ≤ 9223372036854775807) ∧ K ls (vL (a / b) :: st) Z M
  | .lrem => pL st fun b st => pL st fun a st => (0 ≤ a ∧ a ≤ 9223372036854775807 ∧ 0 < b ∧ b ≤ 9223372036854775807) ∧ K ls (vL (a % b) :: st) Z M
  | .land => pL st fun b st => pL st fun a st => K ls (vL (lAnd a b) :: st) Z M
  | .lor => pL st fun b st => pL st fun a st => K ls (vL (lOr a b) :: st) Z M
  | .lshl => pI st fun b st => pL st fun a st => K ls (vL (lShl a b) :: st) Z M
  | .lshr => pI st fun b st => pL st fun a st => K ls (vL (lShr a b) :: st) Z M
  | .lushr => pI st fun b st => pL st fun a st => K ls (vL (lUsr a b) :: st) Z M
  | .lcmp => pL st fun b st => pL st fun a st => rgL a ∧ rgL b ∧ K ls (vI (if a < b then -1 else if a = b then 0 else 1) :: st) Z M
  | .i2l => pI st fun a st => rgI a ∧ K ls (vL a :: st) Z M
  | .l2i => pL st fun a st => K ls (vI a :: st) Z M
  | .i2b => pI st fun a st => K ls (vI (bByt a) :: st) Z M
  | .dup => pV st fun v st => K ls (v :: v :: st) Z M
  | .dup2 => pV st fun v st => pV st fun w st => K ls (v :: w :: v :: w :: st) Z M
  | .pop => pV st fun _ st => K ls st Z M
  | .goto t => J t.toNat ls st Z M
  | .if_icmp c t => pI st fun b st => pI st fun a st => rgI a ∧ rgI b ∧ (cnd c a b → J t.toNat ls st Z M) ∧ (¬ cnd c a b → K ls st Z M)
  | .ifCond c t => pI st fun a st => rgI a ∧ (cnd c a 0 → J t.toNat ls st Z M) ∧ (¬ cnd c a 0 → K ls st Z M)
  | .tableswitch d lo hi os => pI st fun a st => rgI a ∧ (a < lo ∨ hi < a → J d.toNat ls st Z M) ∧ swl J a ls st Z M os.toList lo
  | .lookupswitch d ps => pI st fun a st => rgI a ∧ lkl J a ls st Z M d ps.toList
  | .getfield k => pR st fun r st => cls Z.1 r = some x.toNat ∧ gF (fld Z.1 r k) (K ls (vI (M r k) :: st) Z M) (fun q => K ls (vR q :: st) Z M)
  | .putfield k => pI st fun a st => pR st fun r st => cls Z.1 r = some x.toNat ∧ gF (fld Z.1 r k) (K ls st Z (mset M r k a)) (fun _ => False)
  | .putstatic k => pR st fun q st => pR st fun r st => (match Z.1[r]? with
      | some (Sum.inr o) => o.1 = x.toNat ∧ (∃ z, o.2[k]? = some (some z)) ∧ q < Z.1.length ∧ K ls st (Z.1.set r (Sum.inr (o.1, o.2.set k (some (some q)))), Z.2.1, Z.2.2) M
      | _ => False)
  | .iaload => pI st fun j st => pR st fun r st => if r = scr then (match X with | some q => (0 ≤ j ∧ j < q.1) ∧ q.1 ≤ 100000 ∧ K ls (vI (q.2 j.toNat) :: st) Z M | none => False) else gA (arr Z.1 r) j fun t _ => t = 0 ∧ K ls (vI (M r j.toNat) :: st) Z M
  | .baload => pI st fun j st => pR st fun r st => gA (arr Z.1 r) j fun t _ => (t = 1 ∨ t = 2) ∧ K ls (vI (M r j.toNat) :: st) Z M
  | .laload => pI st fun j st => pR st fun r st => gA (arr Z.1 r) j fun t _ => t = 3 ∧ K ls (vL (M r j.toNat) :: st) Z M
  | .aaload => pI st fun j st => pR st fun r st => gA (arr Z.1 r) j fun t f => (t = 4 ∨ t = 5) ∧ gQ (f j.toNat) fun q => K ls (vR q :: st) Z M
  | .iastore => pI st fun a st => pI st fun j st => pR st fun r st => gA (arr Z.1 r) j fun t _ => t = 0 ∧ K ls st Z (mset M r j.toNat a)
  | .bastore => pI st fun a st => pI st fun j st => pR st fun r st => gA (arr Z.1 r) j fun t _ => (t = 1 ∨ (t = 2 ∧ (a = 0 ∨ a = 1))) ∧ K ls st Z (mset M r j.toNat (if t = 1 then bByt a else a))
  | .lastore => pL st fun a st => pI st fun j st => pR st fun r st => gA (arr Z.1 r) j fun t _ => t = 3 ∧ K ls st Z (mset M r j.toNat a)
  | .aastore => pR st fun q st => pI st fun j st => pR st fun r st => (match arr Z.1 r with
      | some (t, n, f) => t = 4 ∧ (0 ≤ j ∧ j < n) ∧ n ≤ 100000 ∧ cls Z.1 q = some 0 ∧ K ls st (Z.1.set r (Sum.inl (4, n, fun z => if z = j.toNat then some q else f z)), Z.2.1, Z.2.2) M
      | _ => False)
  | .arraylength => pR st fun r st => if r = scr then (match X with | some q => q.1 ≤ 100000 ∧ K ls (vI q.1 :: st) Z M | none => False) else (match arr Z.1 r with | some (t, n, _) => t < 6 ∧ n ≤ 100000 ∧ K ls (vI n :: st) Z M | _ => False)
  | .new ci => Z.2.1 + 1 ≤ mc ∧ Z.2.2 + (newF ci).length ≤ ms ∧ rfs st Z.1.length (Z.1.length + 1) ∧ rfq ls Z.1.length (Z.1.length + 1) ∧ Z.1.length < 100000 ∧ K ls (vR Z.1.length :: st) (Z.1 ++ [Sum.inr (ci, newF ci)], Z.2.1 + 1, Z.2.2 + (newF ci).length) (mnew M Z.1.length)
  | .newarray t => pI st fun n st => newT t < 4 ∧ 0 ≤ n ∧ n ≤ 100000 ∧ Z.2.1 + 1 ≤ mc ∧ Z.2.2 + n.toNat ≤ ms ∧ rfs st Z.1.length (Z.1.length + 1) ∧ rfq ls Z.1.length (Z.1.length + 1) ∧ Z.1.length < 100000 ∧ K ls (vR Z.1.length :: st) (Z.1 ++ [Sum.inl (newT t, n.toNat, mz_nul)], Z.2.1 + 1, Z.2.2 + n.toNat) (mnew M Z.1.length)
  | .anewarray _ => pI st fun n st => 0 ≤ n ∧ n ≤ 100000 ∧ Z.2.1 + 1 ≤ mc ∧ Z.2.2 + n.toNat ≤ ms ∧ rfs st Z.1.length (Z.1.length + 1) ∧ rfq ls Z.1.length (Z.1.length + 1) ∧ Z.1.length < 100000 ∧ K ls (vR Z.1.length :: st) (Z.1 ++ [Sum.inl (4, n.toNat, mz_nul)], Z.2.1 + 1, Z.2.2 + n.toNat) (mnew M Z.1.length)
  | .multianewarray _ _ => pI st fun k st => pI st fun n st => n = 2 ∧ 0 ≤ k ∧ k ≤ 100000 ∧ Z.2.1 + 3 ≤ mc ∧ Z.2.2 + (2 + 2 * k.toNat) ≤ ms ∧ rfs st Z.1.length (Z.1.length + 3) ∧ rfq ls Z.1.length (Z.1.length + 3) ∧ Z.1.length + 3 ≤ 100000 ∧
      K ls (vR Z.1.length :: st) (Z.1 ++ [Sum.inl (5, 2, fun j => if j < 2 then some (Z.1.length + 1 + j) else none), Sum.inl (0, k.toNat, mz_nul), Sum.inl (0, k.toNat, mz_nul)], Z.2.1 + 3, Z.2.2 + (2 + 2 * k.toNat)) (mnew (mnew (mnew M Z.1.length) (Z.1.length + 1)) (Z.1.length + 2))
  | .invokestatic y => if y < 1000 then wpc C mc ms y x.toNat K ls st Z M
      else if y = 1000 then pI st fun n st => pI st fun dp st => pR st fun dk st => pI st fun sp st => pR st fun sk st => (match arr Z.1 sk, arr Z.1 dk with
          | some (t, n0, _), some (t1, n1, _) => t = t1 ∧ (t = 0 ∨ t = 3) ∧ 0 ≤ sp ∧ 0 ≤ dp ∧ 0 ≤ n ∧ sp + n ≤ n0 ∧ dp + n ≤ n1 ∧ n0 ≤ 100000 ∧ n1 ≤ 100000 ∧ st = [] ∧ K ls st Z (mcpy M sk dk sp.toNat dp.toNat n.toNat)
          | _, _ => False)
      else if y = 1002 then pI st fun b st => pI st fun a st => rgI a ∧ rgI b ∧ cats st ≤ 8 ∧ Z.2.1 ≤ mc ∧ Z.2.2 ≤ ms ∧ K ls (vI (max a b) :: st) Z M
      else if y = 1003 then pI st fun b st => pI st fun a st => rgI a ∧ rgI b ∧ cats st ≤ 8 ∧ Z.2.1 ≤ mc ∧ Z.2.2 ≤ ms ∧ K ls (vI (min a b) :: st) Z M
      else False
  | .invokevirtual y => rcv Z.1 st (x.toNat - 1) y ∧ wpc C mc ms y x.toNat K ls st Z M
  | .invokespecial y => if y = 1001 then pR st fun _ st => cats st ≤ 8 ∧ K ls st Z M
      else gR st[x.toNat - 1]? (fun _ => True) ∧ wpc C mc ms y x.toNat K ls st Z M
  | .ireturn => pI st fun a st => st = [] ∧ Rt (some (vI a)) Z M
  | .lreturn => pL st fun a st => st = [] ∧ Rt (some (vL a)) Z M
  | .return_ => st = [] ∧ Rt none Z M
  | _ => False
/-- what an instruction is in the small machine: places are absolute, pool numbers are looked up -/
def ownOf (y : Nat) : Nat := match mz_T[y]? with | some e => e.2.2.2.2.2.1 | none => 99
def nmOf (y : Nat) : String := match mz_T[y]? with | some e => e.1.name | none => ""
def npOf (y : Nat) : Nat := match mz_T[y]? with | some e => (if e.2.2.2.2.1 = 0 then e.2.2.2.2.2.2.1 else e.2.2.2.2.2.2.1 + 1) | none => 99
def kdOf (y : Nat) : Nat := match mz_T[y]? with | some e => e.2.2.2.2.1 | none => 9
def isRefD (d : String) : Bool := match parseFieldDescriptor d with
  | some (.array _) => true
  | some (.object _) => true
  | _ => false
/-- a field that is written: a number that isn't final; a reference that is, by its class's own constructor -/
def pfK (y : Nat) (q : Nat × Nat × Nat) : Option Bool := match vwCl[q.1]? with
  | some r => if (r.2.1 q.2.1).2.2.1 = "I" ∧ (r.2.1 q.2.1).2.2.2 = false then some false else if (r.2.1 q.2.1).2.2.2 = true ∧ nmOf y = "<init>" ∧ q.1 = ownOf y ∧ (r.2.1 q.2.1).1 = r.1 ∧ isRefD (r.2.1 q.2.1).2.2.1 = true then some true else none
  | none => none
def lenOK (i : Instr) (len : Nat) : Bool := match i with
  | .iload _ | .lload _ | .aload _ | .istore _ | .lstore _ | .astore _ | .bipush _ | .newarray _ => len == 2
  | .sipush _ | .ldc_w _ | .ldc2_w _ | .goto _ | .if_icmp _ _ | .ifCond _ _ | .iinc _ _ | .getfield _ | .putfield _ | .new _ | .anewarray _ | .invokestatic _ | .invokevirtual _ | .invokespecial _ => len == 3
  | .multianewarray _ _ => len == 4
  | .tableswitch _ _ _ _ | .lookupswitch _ _ => true
  | _ => len == 1
def res0 (y : Nat) (pc : Nat) (i : Instr) : Option (Instr × Int) := match i with
  | .iload_n k => some (.iload k, 0)
  | .lload_n k => some (.lload k, 0)
  | .aload_n k => some (.aload k, 0)
  | .istore_n k => some (.istore k, 0)
  | .lstore_n k => some (.lstore k, 0)
  | .astore_n k => some (.astore k, 0)
  | .iload k => some (.iload k, 0)
  | .lload k => some (.lload k, 0)
  | .aload k => some (.aload k, 0)
  | .istore k => some (.istore k, 0)
  | .lstore k => some (.lstore k, 0)
  | .astore k => some (.astore k, 0)
  | .iinc k n => some (.iinc k n, 0)
  | .iconst n => some (.iconst n, 0)
  | .bipush n => if -128 ≤ n ∧ n ≤ 127 then some (.iconst n, 0) else none
  | .sipush n => if -32768 ≤ n ∧ n ≤ 32767 then some (.iconst n, 0) else none
  | .lconst k => some (.ldc2_w 0, ((k : Nat) : Int))
  | .ldc_w ix => (match mz_K.lookup (ownOf y, ix) with | some q => if ownOf y = 8 then some (.iconst q.1, 0) else none | none => none)
  | .ldc2_w ix => (match mz_K.lookup (ownOf y, ix) with | some q => if ownOf y ≠ 8 then some (.ldc2_w 0, q.1) else none | none => none)
  | .goto o => if 0 ≤ pc + o then some (.goto (pc + o), 0) else none
  | .if_icmp c o => if 0 ≤ pc + o then some (.if_icmp c (pc + o), 0) else none
  | .ifCond c o => if 0 ≤ pc + o then some (.ifCond c (pc + o), 0) else none
  | .tableswitch d lo hi os => if (os.toList.length : Int) = hi - lo + 1 ∧ 0 ≤ pc + d ∧ (os.toList.all fun o => decide (0 ≤ pc + o)) = true then some (.tableswitch (pc + d) lo hi (os.toList.map fun o => (pc : Int) + o).toArray, 0) else none
  | .lookupswitch d ps => if (ps.toList.zip (ps.toList.drop 1)).all (fun (a, next) => a.1 < next.1) = true ∧ 0 ≤ pc + d ∧ (ps.toList.all fun o => decide (0 ≤ pc + o.2)) = true then some (.lookupswitch (pc + d) (ps.toList.map fun o => (o.1, (pc : Int) + o.2)).toArray, 0) else none
  | .getfield ix => (match mz_F.lookup (ownOf y, ix) with | some q => some (.getfield q.2.1, q.1) | none => none)
  | .putfield ix => (match mz_F.lookup (ownOf y, ix) with
      | some q => (match pfK y q with
        | some false => some (.putfield q.2.1, (q.1 : Int))
        | some true => some (.putstatic q.2.1, (q.1 : Int))
        | none => none)
      | none => none)
  | .new ix => (match mz_C.lookup (ownOf y, ix) with | some q => if q.1 < 7 then some (.new q.1, 0) else none | none => none)
  | .newarray t => some (.newarray t, 0)
  | .anewarray ix => (match mz_C.lookup (ownOf y, ix) with | some q => if q.1 = 0 then some (.anewarray 0, 0) else none | none => none)
  | .multianewarray ix n => (match mz_C.lookup (ownOf y, ix) with | some q => if q.1 = 100 ∧ n = 2 then some (.multianewarray 0 2, 0) else none | none => none)
  | .invokestatic ix => (match mz_L.lookup (ownOf y, ix) with | some q => if q.2.1 = 0 ∧ (q.1 = 1000 ∨ q.1 = 1002 ∨ q.1 = 1003 ∨ (kdOf q.1 = 0 ∧ q.1 < 163)) then some (.invokestatic q.1, (npOf q.1 : Int)) else none | none => none)
  | .invokevirtual ix => (match mz_L.lookup (ownOf y, ix) with | some q => if q.2.1 = 0 ∧ kdOf q.1 = 1 ∧ q.1 < 163 then some (.invokevirtual q.1, (npOf q.1 : Int)) else none | none => none)
  | .invokespecial ix => (match mz_L.lookup (ownOf y, ix) with | some q => if (q.1 = 1001 ∧ q.2.1 = 0) ∨ (kdOf q.1 = 2 ∧ q.1 < 163) then some (.invokespecial q.1, (npOf q.1 : Int)) else none | none => none)
  | .iadd => some (.iadd, 0)
  | .isub => some (.isub, 0)
  | .imul => some (.imul, 0)
  | .idiv => some (.idiv, 0)
  | .irem => some (.irem, 0)
  | .iand => some (.iand, 0)
  | .ior => some (.ior, 0)
  | .ixor => some (.ixor, 0)
  | .ishl => some (.ishl, 0)
  | .ishr => some (.ishr, 0)
  | .iushr => some (.iushr, 0)
  | .ladd => some (.ladd, 0)
  | .lsub => some (.lsub, 0)
  | .lmul => some (.lmul, 0)
  | .ldiv => some (.ldiv, 0)
  | .lrem => some (.lrem, 0)
  | .land => some (.land, 0)
  | .lor => some (.lor, 0)
  | .lshl => some (.lshl, 0)
  | .lshr => some (.lshr, 0)
  | .lushr => some (.lushr, 0)
  | .lcmp => some (.lcmp, 0)
  | .i2l => some (.i2l, 0)
  | .l2i => some (.l2i, 0)
  | .i2b => some (.i2b, 0)
  | .dup => some (.dup, 0)
  | .dup2 => some (.dup2, 0)
  | .pop => some (.pop, 0)
  | .iaload => some (.iaload, 0)
  | .baload => some (.baload, 0)
  | .laload => some (.laload, 0)
  | .aaload => some (.aaload, 0)
  | .iastore => some (.iastore, 0)
  | .bastore => some (.bastore, 0)
  | .lastore => some (.lastore, 0)
  | .aastore => some (.aastore, 0)
  | .arraylength => some (.arraylength, 0)
  | .ireturn => some (.ireturn, 0)
  | .lreturn => some (.lreturn, 0)
  | .return_ => some (.return_, 0)
  | _ => none
def res (y : Nat) (pc : Nat) (i : Instr) (len : Nat) : Option (Instr × Int) := if lenOK i len = true then res0 y pc i else none
def mbOf (y : Nat) : ByteArray := match mz_T[y]? with | some e => e.2.1 | none => ByteArray.empty
def mlOf (y : Nat) : Nat := match mz_T[y]? with | some e => e.2.2.1 | none => 0
def mrOf (y : Nat) : Option FieldType := match mz_T[y]? with | some e => e.2.2.2.1 | none => none
/-- an answer of the method's kind -/
def rok (t : Option FieldType) (r : Option AV) : Prop := match t, r with
  | none, none => True
  | some .int, some (Sum.inl _) => True
  | some .boolean, some (Sum.inl a) => a = 0 ∨ a = 1
  | some .long, some (Sum.inr (Sum.inl _)) => True
  | _, _ => False
def Rtn (y mc ms : Nat) (Post : PP) : RR := fun r Z M => Z.2.1 ≤ mc ∧ Z.2.2 ≤ ms ∧ rok (mrOf y) r ∧ Post r Z.1 M
/-- S holds wherever one instruction leads to it -/
def Clo (C : CC) (y : Nat) (X : XX) (mc ms : Nat) (Rt : RR) (S : Nat → KK) : Prop :=
  ∀ (C' : CC) (J : Nat → KK) (R' : RR) (K : KK) (pc : Nat) (i : Instr) (len : Nat) (i' : Instr) (x : Int) (ls : AL) (st : List AV) (Z : ZZ) (M : MM),
    (∀ z a sh M c s P, C' z a sh M c s P → C z a sh M c s P) → (∀ t ls st Z M, J t ls st Z M → S t ls st Z M) → (∀ r Z M, R' r Z M → Rt r Z M) → (∀ ls st Z M, K ls st Z M → S (pc + len) ls st Z M) →
    decode (mbOf y) pc = .ok (i, len) → res y pc i len = some (i', x) → wpi C' X mc ms J R' i' x K ls st Z M → S pc ls st Z M
/-- method y, asked with args, comes to an end with Post, by calls at most d deep, making at most mc cells of ms slots -/
def Run : Nat → CC
  | 0 => fun _ _ _ _ _ _ _ => False
  | d + 1 => fun y args sh M mc ms Post => cats args ≤ mlOf y ∧ ∀ S : Nat → KK, Clo (Run d) y none mc ms (Rtn y mc ms Post) S → S 0 (entL (mlOf y) args) [] (sh, 0, 0) M
theorem Run.mono : ∀ (d d' : Nat) {y : Nat} {a : List AV} {sh : List SC} {M : MM} {mc ms : Nat} {P Q : PP}, d ≤ d' → Run d y a sh M mc ms P → (∀ r sh M, P r sh M → Q r sh M) → Run d' y a sh M mc ms Q
  | 0, _, _, _, _, _, _, _, _, _, _, h, _ => h.elim
  | d + 1, 0, _, _, _, _, _, _, _, _, hd, _, _ => absurd hd (by omega)
  | d + 1, d' + 1, y, a, sh, M, mc, ms, P, Q, hd, h, hPQ => by
    refine ⟨h.1, fun S hS => h.2 S ?_⟩
    intro C' J R' K pc i len i' x ls st Z M hC hJ hR hK
    exact hS C' J R' K pc i len i' x ls st Z M (fun z a sh M c s P h => Run.mono d d' (by omega) (hC z a sh M c s P h) (fun _ _ _ h => h)) hJ (fun r Z M h => ⟨(hR r Z M h).1, (hR r Z M h).2.1, (hR r Z M h).2.2.1, hPQ _ _ _ (hR r Z M h).2.2.2⟩) hK
abbrev BL : Type := List (Instr × Int × Nat)
def blk (y : Nat) : Nat → BL → Bool
  | _, [] => true
  | pc, q :: t => (match decode (mbOf y) pc with
      | .ok (i, len) => decide (len = q.2.2) && decide (res y pc i len = some (q.1, q.2.1))
      | _ => false) && blk y (pc + q.2.2) t
def wpl (C : CC) (X : XX) (mc ms : Nat) (J : Nat → KK) (Rt : RR) : BL → Nat → KK
  | [], pc => J pc
  | q :: t, pc => fun ls st Z M => wpi C X mc ms J Rt q.1 q.2.1 (wpl C X mc ms J Rt t (pc + q.2.2)) ls st Z M
theorem wpl_ok {C : CC} {y : Nat} {X : XX} {mc ms : Nat} {Rt : RR} {S J : Nat → KK} (hS : Clo C y X mc ms Rt S) (hJ : ∀ t ls st Z M, J t ls st Z M → S t ls st Z M) : ∀ (b : BL) (pc : Nat) (ls : AL) (st : List AV) (Z : ZZ) (M : MM), blk y pc b = true → wpl C X mc ms J Rt b pc ls st Z M → S pc ls st Z M
  | [], pc, ls, st, Z, M, _, h => hJ pc ls st Z M h
  | q :: t, pc, ls, st, Z, M, hb, h => by
    unfold blk at hb
    rw [Bool.and_eq_true] at hb
    cases hd : decode (mbOf y) pc with
    | error e => rw [hd] at hb; exact absurd hb.1 (by simp)
    | ok p =>
      obtain ⟨i, len⟩ := p
      rw [hd] at hb
      have h1 := hb.1
      simp only [Bool.and_eq_true, decide_eq_true_eq] at h1
      obtain ⟨h1, h2⟩ := h1
      subst h1
      exact hS C J Rt _ pc i _ q.1 q.2.1 ls st Z M (fun _ _ _ _ _ _ _ h => h) hJ (fun _ _ _ h => h) (fun ls st Z M h2 => wpl_ok hS hJ t (pc + q.2.2) ls st Z M hb.2 h2) hd h2 h
/-- on from a place, through jumps, up to the places that sp names -/
def wpx (C : CC) (X : XX) (mc ms : Nat) (S : Nat → KK) (Rt : RR) (bt : Nat → BL) (sp : Nat → Bool) : Nat → Nat → KK
  | 0, pc => S pc
  | f + 1, pc => wpl C X mc ms (fun t => cond (sp t) (S t) (wpx C X mc ms S Rt bt sp f t)) Rt (bt pc) pc
theorem wpx_ok {C : CC} {y : Nat} {X : XX} {mc ms : Nat} {Rt : RR} {S : Nat → KK} (hS : Clo C y X mc ms Rt S) {bt : Nat → BL} {sp : Nat → Bool} (hb : ∀ pc, blk y pc (bt pc) = true) : ∀ (f pc : Nat) (ls : AL) (st : List AV) (Z : ZZ) (M : MM), wpx C X mc ms S Rt bt sp f pc ls st Z M → S pc ls st Z M
  | 0, _, _, _, _, _, h => h
  | f + 1, pc, ls, st, Z, M, h => wpl_ok hS (fun t ls st Z M h => by
      cases hs : sp t with
      | true => rw [hs] at h; exact h
      | false => rw [hs] at h; exact wpx_ok hS hb f t ls st Z M h) (bt pc) pc ls st Z M (hb pc) h

/-! THE SMALL MACHINE: ints and longs as whole numbers, references as numbers of cells, the heap as a list of shapes and one table of numbers -/
abbrev AV : Type := Int ⊕ Int ⊕ Nat
abbrev AL : Type := List (Option AV)
abbrev SC : Type := (Nat × Nat × (Nat → Option Nat)) ⊕ (Nat × List (Option (Option Nat)))
abbrev MM : Type := Nat → Nat → Int
abbrev ZZ : Type := List SC × Nat × Nat
def mz_nul : Nat → Option Nat := fun _ => none
abbrev vI (a : Int) : AV := Sum.inl a
abbrev vL (a : Int) : AV := Sum.inr (Sum.inl a)
abbrev vR (k : Nat) : AV := Sum.inr (Sum.inr k)
def iN (a : Int) : Int32 := Int32.ofInt a
def jN (a : Int) : Int64 := Int64.ofInt a
def rgI (a : Int) : Prop := -2147483648 ≤ a ∧ a ≤ 2147483647
def rgL (a : Int) : Prop := -9223372036854775808 ≤ a ∧ a ≤ 9223372036854775807
def mset (M : MM) (k j : Nat) (a : Int) : MM := fun k' j' => if k' = k ∧ j' = j then a else M k' j'
def mnew (M : MM) (k : Nat) : MM := fun k' j' => if k' = k then 0 else M k' j'
def mcpy (M : MM) (sk dk sp dp n : Nat) : MM := fun k j => if k = dk ∧ dp ≤ j ∧ j < dp + n then M sk (sp + (j - dp)) else M k j
def fld (sh : List SC) (r k : Nat) : Option (Option (Option Nat)) := match sh[r]? with
  | some (Sum.inr q) => q.2[k]?
  | _ => none
def arr (sh : List SC) (r : Nat) : Option (Nat × Nat × (Nat → Option Nat)) := match sh[r]? with
  | some (Sum.inl a) => some a
  | _ => none
def cls (sh : List SC) (r : Nat) : Option Nat := match sh[r]? with
  | some (Sum.inr q) => some q.1
  | _ => none
def lget (ls : AL) (i : Nat) : Option AV := match ls[i]? with
  | some (some v) => some v
  | _ => none
def is2 (v : AV) : Bool := match v with
  | Sum.inr (Sum.inl _) => true
  | _ => false
def lclr (ls : AL) (i : Nat) : AL := match i with
  | 0 => ls
  | j + 1 => match ls[j]? with
    | some (some v) => if is2 v then ls.set j none else ls
    | _ => ls
def lset1 (ls : AL) (i : Nat) (v : AV) : AL := (lclr ls i).set i (some v)
def lset2 (ls : AL) (i : Nat) (v : AV) : AL := ((lclr ls i).set i (some v)).set (i + 1) none
def cat (v : AV) : Nat := if is2 v then 2 else 1
def cats (st : List AV) : Nat := (st.map cat).sum
def sls : List AV → AL
  | [] => []
  | v :: t => if is2 v then some v :: none :: sls t else some v :: sls t
def entL (n : Nat) (args : List AV) : AL := sls args ++ List.replicate (n - (sls args).length) none
/-- a reference that a making of the cells n .. n' - 1 leaves as it is -/
def rfv (n n' : Nat) (v : AV) : Prop := match v with
  | Sum.inr (Sum.inr k) => k < n ∨ n' ≤ k
  | _ => True
def rfs : List AV → Nat → Nat → Prop
  | [], _, _ => True
  | v :: t, n, n' => rfv n n' v ∧ rfs t n n'
def rfl' : AL → Nat → Nat → Prop
  | [], _, _ => True
  | none :: t, n, n' => rfl' t n n'
  | some v :: t, n, n' => rfv n n' v ∧ rfl' t n n'
def bAnd (x y : Int) : Int := (iN x &&& iN y).toInt
def bOr (x y : Int) : Int := (iN x ||| iN y).toInt
def bXor (x y : Int) : Int := (iN x ^^^ iN y).toInt
def bShl (x y : Int) : Int := (iN x <<< (iN y &&& 31)).toInt
def bShr (x y : Int) : Int := (iN x >>> (iN y &&& 31)).toInt
def bUsr (x y : Int) : Int := ((iN x).toUInt32 >>> ((iN y).toUInt32 &&& Int32.toUInt32 31)).toInt32.toInt
def bByt (x : Int) : Int := (iN x).toInt8.toInt32.toInt
def lAnd (x y : Int) : Int := (jN x &&& jN y).toInt
def lOr (x y : Int) : Int := (jN x ||| jN y).toInt
def lShl (x y : Int) : Int := (jN x <<< ((iN y).toInt64 &&& 63)).toInt
def lShr (x y : Int) : Int := (jN x >>> ((iN y).toInt64 &&& 63)).toInt
def lUsr (x y : Int) : Int := ((jN x).toUInt64 >>> ((iN y).toInt64.toUInt64 &&& Int64.toUInt64 63)).toInt64.toInt
abbrev PP : Type := Option AV → List SC → MM → Prop
abbrev CC : Type := Nat → List AV → List SC → MM → Nat → Nat → PP → Prop
abbrev KK : Type := AL → List AV → ZZ → MM → Prop
abbrev XX : Type := Option (Nat × (Nat → Int))
def scr : Nat := 1000000
def swl (J : Nat → KK) (a : Int) (ls : AL) (st : List AV) (Z : ZZ) (M : MM) : List Int → Int → Prop
  | [], _ => True
  | o :: t, v => (a = v → J o.toNat ls st Z M) ∧ swl J a ls st Z M t (v + 1)
def lkl (J : Nat → KK) (a : Int) (ls : AL) (st : List AV) (Z : ZZ) (M : MM) (d : Int) : List (Int × Int) → Prop
  | [] => J d.toNat ls st Z M
  | q :: t => (a = q.1 → J q.2.toNat ls st Z M) ∧ (a ≠ q.1 → lkl J a ls st Z M d t)
def cnd (c : Jvm.ClassFile.Cond) (x y : Int) : Prop := match c with
  | .eq => x = y
  | .ne => x ≠ y
  | .lt => x < y
  | .ge => y ≤ x
  | .gt => y < x
  | .le => x ≤ y
/-- the fields of a new object of a class: none a number, some none a reference that is null -/
def newF (ci : Nat) : List (Option (Option Nat)) := match ci with
  | 0 => [some none, some none, none, none, some none, some none, none]
  | 1 => [some none, some none]
  | 2 => [some none, some none, none]
  | 3 => [some none, none, some none, some none, some none, none, some none, some none, some none, none]
  | 4 => [none, some none, some none, some none, some none, none, none, none, some none, some none]
  | 5 => [some none, none, some none, some none, some none, some none, some none, some none, none, some none, some none, some none]
  | 6 => [none, some none, none, some none, some none, some none, some none, some none, some none, some none, some none, none, some none, some none, some none, none, some none, some none, some none, some none, some none, some none, some none, some none, some none, none, none, some none, some none, none]
  | _ => []
def newT (t : ArrayType) : Nat := match t with
  | .int => 0
  | .byte => 1
  | .boolean => 2
  | .long => 3
  | _ => 9
/-- a call: what it takes off the stack, whom it asks, how it goes on -/
def wpc (C : CC) (mc ms : Nat) (y n : Nat) (K : KK) (ls : AL) (st : List AV) (Z : ZZ) (M : MM) : Prop :=
  n ≤ st.length ∧ cats (st.drop n) ≤ 8 ∧ ∃ c s : Nat, Z.2.1 + c ≤ mc ∧ Z.2.2 + s ≤ ms ∧
    C y (st.take n).reverse Z.1 M c s (fun r sh M' => (sh.length = Z.1.length ∨ (rfs (st.drop n) Z.1.length sh.length ∧ rfl' ls Z.1.length sh.length)) ∧ K ls (r.toList ++ st.drop n) (sh, Z.2.1 + c, Z.2.2 + s) M')
/-- one instruction: J goes to a place, K to the next, Rt ends -/
def wpi (C : CC) (X : XX) (mc ms : Nat) (J : Nat → KK) (Rt : Option AV → ZZ → MM → Prop) (i : Instr) (x : Int) (K : KK) (ls : AL) (st : List AV) (Z : ZZ) (M : MM) : Prop := match i, st with
  | .iconst n, st => K ls (vI n :: st) Z M
  | .ldc2_w _, st => K ls (vL x :: st) Z M
  | .iload k, st => (match lget ls k with | some (Sum.inl a) => K ls (vI a :: st) Z M | _ => False)
  | .lload k, st => (match lget ls k with | some (Sum.inr (Sum.inl a)) => K ls (vL a :: st) Z M | _ => False)
  | .aload k, st => (match lget ls k with | some (Sum.inr (Sum.inr a)) => K ls (vR a :: st) Z M | _ => False)
  | .istore k, Sum.inl a :: st => k < ls.length ∧ K (lset1 ls k (vI a)) st Z M
  | .astore k, Sum.inr (Sum.inr a) :: st => k < ls.length ∧ K (lset1 ls k (vR a)) st Z M
  | .lstore k, Sum.inr (Sum.inl a) :: st => k + 1 < ls.length ∧ K (lset2 ls k (vL a)) st Z M
  | .iinc k n, st => (match lget ls k with | some (Sum.inl a) => k < ls.length ∧ K (lset1 ls k (vI (a + n))) st Z M | _ => False)
  | .iadd, Sum.inl b :: Sum.inl a :: st => K ls (vI (a + b) :: st) Z M
  | .isub, Sum.inl b :: Sum.inl a :: st => K ls (vI (a - b) :: st) Z M
  | .imul, Sum.inl b :: Sum.inl a :: st => K ls (vI (a * b) :: st) Z M
  | .idiv, Sum.inl b :: Sum.inl a :: st => (0 ≤ a ∧ a ≤ 2147483647 ∧ 0 < b ∧ b ≤ 2147483647) ∧ K ls (vI (a / b) :: st) Z M
  | .irem, Sum.inl b :: Sum.inl a :: st => (0 ≤ a ∧ a ≤ 2147483647 ∧ 0 < b ∧ b ≤ 2147483647) ∧ K ls (vI (a % b) :: st) Z M
  | .iand, Sum.inl b :: Sum.inl a :: st => K ls (vI (bAnd a b) :: st) Z M
  | .ior, Sum.inl b :: Sum.inl a :: st => K ls (vI (bOr a b) :: st) Z M
  | .ixor, Sum.inl b :: Sum.inl a :: st => K ls (vI (bXor a b) :: st) Z M
  | .ishl, Sum.inl b :: Sum.inl a :: st => K ls (vI (bShl a b) :: st) Z M
  | .ishr, Sum.inl b :: Sum.inl a :: st => K ls (vI (bShr a b) :: st) Z M
  | .iushr, Sum.inl b :: Sum.inl a :: st => K ls (vI (bUsr a b) :: st) Z M
  | .ladd, Sum.inr (Sum.inl b) :: Sum.inr (Sum.inl a) :: st => K ls (vL (a + b) :: st) Z M
  | .lsub, Sum.inr (Sum.inl b) :: Sum.inr (Sum.inl a) :: st => K ls (vL (a - b) :: st) Z M
  | .lmul, Sum.inr (Sum.inl b) :: Sum.inr (Sum.inl a) :: st => K ls (vL (a * b) :: st) Z M
  | .ldiv, Sum.inr (Sum.inl b) :: Sum.inr (Sum.inl a) :: st => (0 ≤ a ∧ a ≤ 9223372036854775807 ∧ 0 < b ∧ b ≤ 9223372036854775807) ∧ K ls (vL (a / b) :: st) Z M
  | .lrem, Sum.inr (Sum.inl b) :: Sum.inr (Sum.inl a) :: st => (0 ≤ a ∧ a ≤ 9223372036854775807 ∧ 0 < b ∧ b ≤ 9223372036854775807) ∧ K ls (vL (a % b) :: st) Z M
  | .land, Sum.inr (Sum.inl b) :: Sum.inr (Sum.inl a) :: st => K ls (vL (lAnd a b) :: st) Z M
  | .lor, Sum.inr (Sum.inl b) :: Sum.inr (Sum.inl a) :: st => K ls (vL (lOr a b) :: st) Z M
  | .lshl, Sum.inl b :: Sum.inr (Sum.inl a) :: st => K ls (vL (lShl a b) :: st) Z M
  | .lshr, Sum.inl b :: Sum.inr (Sum.inl a) :: st => K ls (vL (lShr a b) :: st) Z M
  | .lushr, Sum.inl b :: Sum.inr (Sum.inl a) :: st => K ls (vL (lUsr a b) :: st) Z M
  | .lcmp, Sum.inr (Sum.inl b) :: Sum.inr (Sum.inl a) :: st => rgL a ∧ rgL b ∧ K ls (vI (if a < b then -1 else if a = b then 0 else 1) :: st) Z M
  | .i2l, Sum.inl a :: st => rgI a ∧ K ls (vL a :: st) Z M
  | .l2i, Sum.inr (Sum.inl a) :: st => K ls (vI a :: st) Z M
  | .i2b, Sum.inl a :: st => K ls (vI (bByt a) :: st) Z M
  | .dup, v :: st => is2 v = false ∧ K ls (v :: v :: st) Z M
  | .pop, v :: st => is2 v = false ∧ K ls st Z M
  | .goto t, st => J t.toNat ls st Z M
  | .if_icmp c t, Sum.inl b :: Sum.inl a :: st => rgI a ∧ rgI b ∧ (cnd c a b → J t.toNat ls st Z M) ∧ (¬ cnd c a b → K ls st Z M)
  | .ifCond c t, Sum.inl a :: st => rgI a ∧ (cnd c a 0 → J t.toNat ls st Z M) ∧ (¬ cnd c a 0 → K ls st Z M)
  | .tableswitch d lo hi os, Sum.inl a :: st => rgI a ∧ (a < lo ∨ hi < a → J d.toNat ls st Z M) ∧ swl J a ls st Z M os.toList lo
  | .lookupswitch d ps, Sum.inl a :: st => rgI a ∧ lkl J a ls st Z M d ps.toList
  | .getfield k, Sum.inr (Sum.inr r) :: st => (match fld Z.1 r k with
      | some none => K ls (vI (M r k) :: st) Z M
      | some (some (some q)) => K ls (vR q :: st) Z M
      | _ => False)
  | .putfield k, Sum.inl a :: Sum.inr (Sum.inr r) :: st => fld Z.1 r k = some none ∧ K ls st Z (mset M r k a)
  | .putfield k, Sum.inr (Sum.inr q) :: Sum.inr (Sum.inr r) :: st => (match Z.1[r]? with
      | some (Sum.inr o) => (∃ z, o.2[k]? = some (some z)) ∧ q < Z.1.length ∧ x = 1 ∧ K ls st (Z.1.set r (Sum.inr (o.1, o.2.set k (some (some q)))), Z.2.1, Z.2.2) M
      | _ => False)
  | .iaload, Sum.inl j :: Sum.inr (Sum.inr r) :: st => if r = scr then (match X with | some q => 0 ≤ j ∧ j < q.1 ∧ q.1 ≤ 100000 ∧ K ls (vI (q.2 j.toNat) :: st) Z M | none => False) else (match arr Z.1 r with | some (0, n, _) => (0 ≤ j ∧ j < n ∧ n ≤ 100000) ∧ K ls (vI (M r j.toNat) :: st) Z M | _ => False)
  | .baload, Sum.inl j :: Sum.inr (Sum.inr r) :: st => (match arr Z.1 r with | some (1, n, _) => (0 ≤ j ∧ j < n ∧ n ≤ 100000) ∧ K ls (vI (M r j.toNat) :: st) Z M | some (2, n, _) => (0 ≤ j ∧ j < n ∧ n ≤ 100000) ∧ K ls (vI (M r j.toNat) :: st) Z M | _ => False)
  | .laload, Sum.inl j :: Sum.inr (Sum.inr r) :: st => (match arr Z.1 r with | some (3, n, _) => (0 ≤ j ∧ j < n ∧ n ≤ 100000) ∧ K ls (vL (M r j.toNat) :: st) Z M | _ => False)
  | .aaload, Sum.inl j :: Sum.inr (Sum.inr r) :: st => (match arr Z.1 r with | some (4, n, f) => (0 ≤ j ∧ j < n ∧ n ≤ 100000) ∧ (match f j.toNat with | some q => K ls (vR q :: st) Z M | none => False) | some (5, n, f) => (0 ≤ j ∧ j < n ∧ n ≤ 100000) ∧ (match f j.toNat with | some q => K ls (vR q :: st) Z M | none => False) | _ => False)
  | .iastore, Sum.inl a :: Sum.inl j :: Sum.inr (Sum.inr r) :: st => (match arr Z.1 r with | some (0, n, _) => (0 ≤ j ∧ j < n ∧ n ≤ 100000) ∧ K ls st Z (mset M r j.toNat a) | _ => False)
  | .bastore, Sum.inl a :: Sum.inl j :: Sum.inr (Sum.inr r) :: st => (match arr Z.1 r with | some (1, n, _) => (0 ≤ j ∧ j < n ∧ n ≤ 100000) ∧ K ls st Z (mset M r j.toNat (bByt a)) | some (2, n, _) => (0 ≤ j ∧ j < n ∧ n ≤ 100000) ∧ (a = 0 ∨ a = 1) ∧ K ls st Z (mset M r j.toNat a) | _ => False)
  | .lastore, Sum.inr (Sum.inl a) :: Sum.inl j :: Sum.inr (Sum.inr r) :: st => (match arr Z.1 r with | some (3, n, _) => (0 ≤ j ∧ j < n ∧ n ≤ 100000) ∧ K ls st Z (mset M r j.toNat a) | _ => False)
  | .aastore, Sum.inr (Sum.inr q) :: Sum.inl j :: Sum.inr (Sum.inr r) :: st => (match arr Z.1 r with | some (4, n, f) => (0 ≤ j ∧ j < n ∧ n ≤ 100000) ∧ cls Z.1 q = some 0 ∧ K ls st (Z.1.set r (Sum.inl (4, n, fun z => if z = j.toNat then some q else f z)), Z.2.1, Z.2.2) M | _ => False)
  | .arraylength, Sum.inr (Sum.inr r) :: st => if r = scr then (match X with | some q => q.1 ≤ 100000 ∧ K ls (vI q.1 :: st) Z M | none => False) else (match arr Z.1 r with | some (_, n, _) => K ls (vI n :: st) Z M | _ => False)
  | .new ci, st => Z.2.1 + 1 ≤ mc ∧ Z.2.2 + (newF ci).length ≤ ms ∧ rfs st Z.1.length (Z.1.length + 1) ∧ rfl' ls Z.1.length (Z.1.length + 1) ∧ K ls (vR Z.1.length :: st) (Z.1 ++ [Sum.inr (ci, newF ci)], Z.2.1 + 1, Z.2.2 + (newF ci).length) (mnew M Z.1.length)
  | .newarray t, Sum.inl n :: st => newT t < 4 ∧ 0 ≤ n ∧ n ≤ 100000 ∧ Z.2.1 + 1 ≤ mc ∧ Z.2.2 + n.toNat ≤ ms ∧ rfs st Z.1.length (Z.1.length + 1) ∧ rfl' ls Z.1.length (Z.1.length + 1) ∧ K ls (vR Z.1.length :: st) (Z.1 ++ [Sum.inl (newT t, n.toNat, mz_nul)], Z.2.1 + 1, Z.2.2 + n.toNat) (mnew M Z.1.length)
  | .anewarray _, Sum.inl n :: st => 0 ≤ n ∧ n ≤ 100000 ∧ Z.2.1 + 1 ≤ mc ∧ Z.2.2 + n.toNat ≤ ms ∧ rfs st Z.1.length (Z.1.length + 1) ∧ rfl' ls Z.1.length (Z.1.length + 1) ∧ K ls (vR Z.1.length :: st) (Z.1 ++ [Sum.inl (4, n.toNat, mz_nul)], Z.2.1 + 1, Z.2.2 + n.toNat) (mnew M Z.1.length)
  | .multianewarray _ 2, Sum.inl k :: Sum.inl n :: st => n = 2 ∧ 0 ≤ k ∧ k ≤ 100000 ∧ Z.2.1 + 3 ≤ mc ∧ Z.2.2 + (2 + 2 * k.toNat) ≤ ms ∧ rfs st Z.1.length (Z.1.length + 3) ∧ rfl' ls Z.1.length (Z.1.length + 3) ∧
      K ls (vR Z.1.length :: st) (Z.1 ++ [Sum.inl (5, 2, fun j => if j < 2 then some (Z.1.length + 1 + j) else none), Sum.inl (0, k.toNat, mz_nul), Sum.inl (0, k.toNat, mz_nul)], Z.2.1 + 3, Z.2.2 + (2 + 2 * k.toNat)) (mnew (mnew (mnew M Z.1.length) (Z.1.length + 1)) (Z.1.length + 2))
  | .invokestatic y, st => if y = 1000 then (match st with
        | Sum.inl n :: Sum.inl dp :: Sum.inr (Sum.inr dk) :: Sum.inl sp :: Sum.inr (Sum.inr sk) :: st => (match arr Z.1 sk, arr Z.1 dk with
          | some (t, n0, _), some (t1, n1, _) => t = t1 ∧ (t = 0 ∨ t = 3) ∧ 0 ≤ sp ∧ 0 ≤ dp ∧ 0 ≤ n ∧ sp + n ≤ n0 ∧ dp + n ≤ n1 ∧ n0 ≤ 100000 ∧ n1 ≤ 100000 ∧ st = [] ∧ K ls st Z (mcpy M sk dk sp.toNat dp.toNat n.toNat)
          | _, _ => False)
        | _ => False)
      else if y = 1002 then (match st with
        | Sum.inl b :: Sum.inl a :: st => rgI a ∧ rgI b ∧ cats st ≤ 8 ∧ K ls (vI (max a b) :: st) Z M
        | _ => False)
      else if y = 1003 then (match st with
        | Sum.inl b :: Sum.inl a :: st => rgI a ∧ rgI b ∧ cats st ≤ 8 ∧ K ls (vI (min a b) :: st) Z M
        | _ => False)
      else wpc C mc ms y x.toNat K ls st Z M
  | .invokevirtual y, st => (match (st.take x.toNat).reverse with
      | Sum.inr (Sum.inr r) :: _ => (match mz_T[y]? with | some e => cls Z.1 r = some e.2.2.2.2.2.1 | none => False) ∧ wpc C mc ms y x.toNat K ls st Z M
      | _ => False)
  | .invokespecial y, st => if y = 1001 then (match st with
        | Sum.inr (Sum.inr _) :: st => cats st ≤ 8 ∧ K ls st Z M
        | _ => False)
      else wpc C mc ms y x.toNat K ls st Z M
  | .ireturn, [Sum.inl a] => Rt (some (vI a)) Z M
  | .lreturn, [Sum.inr (Sum.inl a)] => Rt (some (vL a)) Z M
  | .return_, [] => Rt none Z M
  | _, _ => False
/-- what an instruction is in the small machine: places are absolute, pool numbers are looked up -/
def ownOf (y : Nat) : Nat := match mz_T[y]? with | some e => e.2.2.2.2.2.1 | none => 99
def nmOf (y : Nat) : String := match mz_T[y]? with | some e => e.1.name | none => ""
def npOf (y : Nat) : Int := match mz_T[y]? with | some e => (if e.2.2.2.2.1 = 0 then (e.2.2.2.2.2.2.1 : Int) else (e.2.2.2.2.2.2.1 : Int) + 1) | none => -1
def kdOf (y : Nat) : Nat := match mz_T[y]? with | some e => e.2.2.2.2.1 | none => 9
def res (y : Nat) (pc : Nat) (i : Instr) : Option (Instr × Int) := match i with
  | .iload_n k => some (.iload k, 0)
  | .lload_n k => some (.lload k, 0)
  | .aload_n k => some (.aload k, 0)
  | .istore_n k => some (.istore k, 0)
  | .lstore_n k => some (.lstore k, 0)
  | .astore_n k => some (.astore k, 0)
  | .bipush n => if -128 ≤ n ∧ n ≤ 127 then some (.iconst n, 0) else none
  | .sipush n => if -32768 ≤ n ∧ n ≤ 32767 then some (.iconst n, 0) else none
  | .lconst k => some (.ldc2_w 0, (k : Nat))
  | .ldc_w ix => (match mz_K.lookup (ownOf y, ix) with | some q => if -2147483648 ≤ q.1 ∧ q.1 ≤ 2147483647 then some (.iconst q.1, 0) else none | none => none)
  | .ldc2_w ix => (match mz_K.lookup (ownOf y, ix) with | some q => some (.ldc2_w 0, q.1) | none => none)
  | .goto o => some (.goto (pc + o), 0)
  | .if_icmp c o => some (.if_icmp c (pc + o), 0)
  | .ifCond c o => some (.ifCond c (pc + o), 0)
  | .tableswitch d lo hi os => if (os.toList.length : Int) = hi - lo + 1 ∧ 0 ≤ pc + d ∧ (os.toList.all fun o => decide (0 ≤ pc + o)) = true then some (.tableswitch (pc + d) lo hi (os.toList.map fun o => (pc : Int) + o).toArray, 0) else none
  | .lookupswitch d ps => if (ps.toList.zip (ps.toList.drop 1)).all (fun (a, next) => a.1 < next.1) = true ∧ 0 ≤ pc + d ∧ (ps.toList.all fun o => decide (0 ≤ pc + o.2)) = true then some (.lookupswitch (pc + d) (ps.toList.map fun o => (o.1, (pc : Int) + o.2)).toArray, 0) else none
  | .getfield ix => (match mz_F.lookup (ownOf y, ix) with | some q => some (.getfield q.2.1, q.1) | none => none)
  | .putfield ix => (match mz_F.lookup (ownOf y, ix) with | some q => some (.putfield q.2.1, if nmOf y = "<init>" then 1 else 0) | none => none)
  | .new ix => (match mz_C.lookup (ownOf y, ix) with | some q => if q.1 < 7 then some (.new q.1, 0) else none | none => none)
  | .anewarray ix => (match mz_C.lookup (ownOf y, ix) with | some q => if q.1 = 0 then some (.anewarray 0, 0) else none | none => none)
  | .multianewarray ix n => (match mz_C.lookup (ownOf y, ix) with | some q => if q.1 = 100 ∧ n = 2 then some (.multianewarray 0 2, 0) else none | none => none)
  | .invokestatic ix => (match mz_L.lookup (ownOf y, ix) with | some q => if q.2.1 = 0 ∧ (q.1 = 1000 ∨ q.1 = 1002 ∨ q.1 = 1003 ∨ kdOf q.1 = 0) then some (.invokestatic q.1, if q.1 = 1000 then 5 else npOf q.1) else none | none => none)
  | .invokevirtual ix => (match mz_L.lookup (ownOf y, ix) with | some q => if q.2.1 = 0 ∧ kdOf q.1 = 1 then some (.invokevirtual q.1, npOf q.1) else none | none => none)
  | .invokespecial ix => (match mz_L.lookup (ownOf y, ix) with | some q => if (q.1 = 1001 ∧ q.2.1 = 0) ∨ kdOf q.1 = 2 then some (.invokespecial q.1, if q.1 = 1001 then 1 else npOf q.1) else none | none => none)
  | .iload k => some (.iload k, 0)
  | .lload k => some (.lload k, 0)
  | .aload k => some (.aload k, 0)
  | .istore k => some (.istore k, 0)
  | .lstore k => some (.lstore k, 0)
  | .astore k => some (.astore k, 0)
  | .iconst n => some (.iconst n, 0)
  | .iinc k n => some (.iinc k n, 0)
  | .newarray t => some (.newarray t, 0)
  | i => some (i, 0)
def mbOf (y : Nat) : ByteArray := match mz_T[y]? with | some e => e.2.1 | none => ByteArray.empty
def mlOf (y : Nat) : Nat := match mz_T[y]? with | some e => e.2.2.1 | none => 0
def mrOf (y : Nat) : Option FieldType := match mz_T[y]? with | some e => e.2.2.2.1 | none => none
/-- an answer of the method's kind -/
def rok (t : Option FieldType) (r : Option AV) : Prop := match t, r with
  | none, none => True
  | some .int, some (Sum.inl _) => True
  | some .boolean, some (Sum.inl a) => a = 0 ∨ a = 1
  | some .long, some (Sum.inr (Sum.inl _)) => True
  | _, _ => False
def Rtn (y mc ms : Nat) (Post : PP) : Option AV → ZZ → MM → Prop := fun r Z M => Z.2.1 ≤ mc ∧ Z.2.2 ≤ ms ∧ rok (mrOf y) r ∧ Post r Z.1 M
/-- S holds wherever one instruction leads to it -/
def Clo (C : CC) (y : Nat) (X : XX) (mc ms : Nat) (Rt : Option AV → ZZ → MM → Prop) (S : Nat → KK) : Prop :=
  ∀ (pc : Nat) (i : Instr) (len : Nat) (i' : Instr) (x : Int) (ls : AL) (st : List AV) (Z : ZZ) (M : MM), decode (mbOf y) pc = .ok (i, len) → res y pc i = some (i', x) → wpi C X mc ms S Rt i' x (S (pc + len)) ls st Z M → S pc ls st Z M
/-- method y, asked with args, comes to an end with Post, by calls at most d deep, making at most mc cells of ms slots -/
def Run : Nat → CC
  | 0 => fun _ _ _ _ _ _ _ => False
  | d + 1 => fun y args sh M mc ms Post => ∀ S : Nat → KK, Clo (Run d) y none mc ms (Rtn y mc ms Post) S → S 0 (entL (mlOf y) args) [] (sh, 0, 0) M
def blk (y : Nat) : Nat → List (Instr × Int × Nat) → Bool
  | _, [] => true
  | pc, q :: t => (match decode (mbOf y) pc with
      | .ok (i, len) => decide (len = q.2.2) && decide (res y pc i = some (q.1, q.2.1))
      | _ => false) && blk y (pc + q.2.2) t
def wpl (C : CC) (X : XX) (mc ms : Nat) (S : Nat → KK) (Rt : Option AV → ZZ → MM → Prop) : List (Instr × Int × Nat) → Nat → KK
  | [], pc => S pc
  | q :: t, pc => fun ls st Z M => wpi C X mc ms S Rt q.1 q.2.1 (wpl C X mc ms S Rt t (pc + q.2.2)) ls st Z M
theorem wpl_ok {C : CC} {y : Nat} {X : XX} {mc ms : Nat} {Rt : Option AV → ZZ → MM → Prop} {S : Nat → KK} (hS : Clo C y X mc ms Rt S) (mono : ∀ (i : Instr) (x : Int) (K K' : KK), (∀ ls st Z M, K ls st Z M → K' ls st Z M) → ∀ ls st Z M, wpi C X mc ms S Rt i x K ls st Z M → wpi C X mc ms S Rt i x K' ls st Z M) : ∀ (b : List (Instr × Int × Nat)) (pc : Nat) (ls : AL) (st : List AV) (Z : ZZ) (M : MM), blk y pc b = true → wpl C X mc ms S Rt b pc ls st Z M → S pc ls st Z M
  | [], pc, ls, st, Z, M, _, h => h
  | q :: t, pc, ls, st, Z, M, hb, h => by
    unfold blk at hb
    rw [Bool.and_eq_true] at hb
    cases hd : decode (mbOf y) pc with
    | error e => rw [hd] at hb; exact absurd hb.1 (by simp)
    | ok p =>
      obtain ⟨i, len⟩ := p
      rw [hd] at hb
      have h1 := hb.1
      simp only [Bool.and_eq_true, decide_eq_true_eq] at h1
      refine hS pc i len q.1 q.2.1 ls st Z M hd h1.2 ?_
      rw [h1.1]
      exact mono q.1 q.2.1 _ _ (fun ls st Z M h2 => wpl_ok hS mono t (pc + q.2.2) ls st Z M hb.2 h2) ls st Z M h

/-! straight code over shapes that are known: by reckoning -/
def rfsB : List AV → Nat → Bool
  | [], _ => true
  | Sum.inr (Sum.inr k) :: t, n => decide (k < n ∨ 1000000 ≤ k) && rfsB t n
  | Sum.inr (Sum.inl _) :: t, n => rfsB t n
  | Sum.inl _ :: t, n => rfsB t n
def rfqB : AL → Nat → Bool
  | [], _ => true
  | some (Sum.inr (Sum.inr k)) :: t, n => decide (k < n ∨ 1000000 ≤ k) && rfqB t n
  | some (Sum.inr (Sum.inl _)) :: t, n => rfqB t n
  | some (Sum.inl _) :: t, n => rfqB t n
  | none :: t, n => rfqB t n
theorem rfsB_ok {n n' : Nat} (hn : n' ≤ 1000000) : ∀ {l : List AV}, rfsB l n = true → rfs l n n'
  | [], _ => trivial
  | Sum.inl _ :: t, h => ⟨trivial, rfsB_ok hn (l := t) h⟩
  | Sum.inr (Sum.inl _) :: t, h => ⟨trivial, rfsB_ok hn (l := t) h⟩
  | Sum.inr (Sum.inr k) :: t, h => by
    have h2 : (decide (k < n ∨ 1000000 ≤ k) && rfsB t n) = true := h
    rw [Bool.and_eq_true] at h2
    exact ⟨(of_decide_eq_true h2.1).imp id (fun z => Nat.le_trans hn z), rfsB_ok hn h2.2⟩
theorem rfqB_ok {n n' : Nat} (hn : n' ≤ 1000000) : ∀ {l : AL}, rfqB l n = true → rfq l n n'
  | [], _ => trivial
  | none :: t, h => (rfqB_ok hn (l := t) h : rfq t n n')
  | some (Sum.inl _) :: t, h => ⟨trivial, rfqB_ok hn (l := t) h⟩
  | some (Sum.inr (Sum.inl _)) :: t, h => ⟨trivial, rfqB_ok hn (l := t) h⟩
  | some (Sum.inr (Sum.inr k)) :: t, h => by
    have h2 : (decide (k < n ∨ 1000000 ≤ k) && rfqB t n) = true := h
    rw [Bool.and_eq_true] at h2
    exact ⟨(of_decide_eq_true h2.1).imp id (fun z => Nat.le_trans hn z), rfqB_ok hn h2.2⟩
def st1 (mc ms : Nat) (i : Instr) (x : Int) (ls : AL) (st : List AV) (Z : ZZ) (M : MM) : Option (AL × List AV × ZZ × MM) := match i with
  | .iconst k => some (ls, vI k :: st, Z, M)
  | .aload k => (match lget ls k with
      | some (Sum.inr (Sum.inr a)) => some (ls, vR a :: st, Z, M)
      | _ => none)
  | .iload k => (match lget ls k with
      | some (Sum.inl a) => some (ls, vI a :: st, Z, M)
      | _ => none)
  | .istore k => (match st with
      | Sum.inl a :: st => if k < ls.length then some (lst1 ls k (vI a), st, Z, M) else none
      | _ => none)
  | .astore k => (match st with
      | Sum.inr (Sum.inr a) :: st => if k < ls.length then some (lst1 ls k (vR a), st, Z, M) else none
      | _ => none)
  | .iinc k n => (match lget ls k with
      | some (Sum.inl a) => if k < ls.length then some (lst1 ls k (vI (a + n)), st, Z, M) else none
      | _ => none)
  | .dup => (match st with
      | Sum.inr (Sum.inr a) :: st => some (ls, vR a :: vR a :: st, Z, M)
      | _ => none)
  | .invokespecial y => if y = 1001 then (match st with
      | Sum.inr (Sum.inr _) :: st => if cats st ≤ 8 then some (ls, st, Z, M) else none
      | _ => none) else none
  | .getfield k => (match st with
      | Sum.inr (Sum.inr r) :: st => if cls Z.1 r = some x.toNat then (match fld Z.1 r k with
          | some none => some (ls, vI (M r k) :: st, Z, M)
          | some (some (some q)) => some (ls, vR q :: st, Z, M)
          | _ => none) else none
      | _ => none)
  | .putfield k => (match st with
      | Sum.inl a :: Sum.inr (Sum.inr r) :: st => if cls Z.1 r = some x.toNat then (match fld Z.1 r k with
          | some none => some (ls, st, Z, mset M r k a)
          | _ => none) else none
      | _ => none)
  | .putstatic k => (match st with
      | Sum.inr (Sum.inr q) :: Sum.inr (Sum.inr r) :: st => (match Z.1[r]? with
          | some (Sum.inr o) => if o.1 = x.toNat ∧ q < Z.1.length then (match o.2[k]? with
              | some (some _) => some (ls, st, (Z.1.set r (Sum.inr (o.1, o.2.set k (some (some q)))), Z.2.1, Z.2.2), M)
              | _ => none) else none
          | _ => none)
      | _ => none)
  | .iastore => (match st with
      | Sum.inl a :: Sum.inl j :: Sum.inr (Sum.inr r) :: st => (match arr Z.1 r with
          | some (t, n, _) => if t = 0 ∧ (0 ≤ j ∧ j < n) ∧ n ≤ 100000 then some (ls, st, Z, mset M r j.toNat a) else none
          | none => none)
      | _ => none)
  | .aastore => (match st with
      | Sum.inr (Sum.inr q) :: Sum.inl j :: Sum.inr (Sum.inr r) :: st => (match arr Z.1 r with
          | some (t, n, f) => if t = 4 ∧ (0 ≤ j ∧ j < n) ∧ n ≤ 100000 ∧ cls Z.1 q = some 0 then some (ls, st, (Z.1.set r (Sum.inl (4, n, fun z => if z = j.toNat then some q else f z)), Z.2.1, Z.2.2), M) else none
          | none => none)
      | _ => none)
  | .new ci => if Z.2.1 + 1 ≤ mc ∧ Z.2.2 + (newF ci).length ≤ ms ∧ rfsB st Z.1.length = true ∧ rfqB ls Z.1.length = true ∧ Z.1.length < 100000 then some (ls, vR Z.1.length :: st, (Z.1 ++ [Sum.inr (ci, newF ci)], Z.2.1 + 1, Z.2.2 + (newF ci).length), mnew M Z.1.length) else none
  | .newarray t => (match st with
      | Sum.inl n :: st => if newT t < 4 ∧ 0 ≤ n ∧ n ≤ 100000 ∧ Z.2.1 + 1 ≤ mc ∧ Z.2.2 + n.toNat ≤ ms ∧ rfsB st Z.1.length = true ∧ rfqB ls Z.1.length = true ∧ Z.1.length < 100000 then some (ls, vR Z.1.length :: st, (Z.1 ++ [Sum.inl (newT t, n.toNat, mz_nul)], Z.2.1 + 1, Z.2.2 + n.toNat), mnew M Z.1.length) else none
      | _ => none)
  | .anewarray _ => (match st with
      | Sum.inl n :: st => if 0 ≤ n ∧ n ≤ 100000 ∧ Z.2.1 + 1 ≤ mc ∧ Z.2.2 + n.toNat ≤ ms ∧ rfsB st Z.1.length = true ∧ rfqB ls Z.1.length = true ∧ Z.1.length < 100000 then some (ls, vR Z.1.length :: st, (Z.1 ++ [Sum.inl (4, n.toNat, mz_nul)], Z.2.1 + 1, Z.2.2 + n.toNat), mnew M Z.1.length) else none
      | _ => none)
  | .multianewarray _ _ => (match st with
      | Sum.inl k :: Sum.inl n :: st => if n = 2 ∧ 0 ≤ k ∧ k ≤ 100000 ∧ Z.2.1 + 3 ≤ mc ∧ Z.2.2 + (2 + 2 * k.toNat) ≤ ms ∧ rfsB st Z.1.length = true ∧ rfqB ls Z.1.length = true ∧ Z.1.length + 3 ≤ 100000 then some (ls, vR Z.1.length :: st, (Z.1 ++ [Sum.inl (5, 2, fun j => if j < 2 then some (Z.1.length + 1 + j) else none), Sum.inl (0, k.toNat, mz_nul), Sum.inl (0, k.toNat, mz_nul)], Z.2.1 + 3, Z.2.2 + (2 + 2 * k.toNat)), mnew (mnew (mnew M Z.1.length) (Z.1.length + 1)) (Z.1.length + 2)) else none
      | _ => none)
  | _ => none
theorem st1_ok {C : CC} {X : XX} {mc ms : Nat} {J : Nat → KK} {Rt : RR} {i : Instr} {x : Int} {K : KK} {ls ls' : AL} {st st' : List AV} {Z Z' : ZZ} {M M' : MM} (h : st1 mc ms i x ls st Z M = some (ls', st', Z', M')) (hk : K ls' st' Z' M') : wpi C X mc ms J Rt i x K ls st Z M := by
  unfold st1 at h
  split at h
  · cases h; exact hk
  · rename_i k
    split at h
    · rename_i a ha; cases h
      show gR (lget ls k) (fun a => K ls (vR a :: st) Z M)
      rw [ha]; exact hk
    · cases h
  · rename_i k
    split at h
    · rename_i a ha; cases h
      show gI (lget ls k) (fun a => K ls (vI a :: st) Z M)
      rw [ha]; exact hk
    · cases h
  · split at h
    · split at h
      · rename_i hl; cases h; exact And.intro hl hk
      · cases h
    · cases h
  · split at h
    · split at h
      · rename_i hl; cases h; exact And.intro hl hk
      · cases h
    · cases h
  · rename_i k n
    split at h
    · rename_i a ha
      split at h
      · rename_i hl; cases h
        show gI (lget ls k) (fun a => k < ls.length ∧ K (lst1 ls k (vI (a + n))) st Z M)
        rw [ha]; exact And.intro hl hk
      · cases h
    · cases h
  · split at h
    · cases h; exact hk
    · cases h
  · rename_i y
    split at h
    · rename_i hy
      split at h
      · split at h
        · rename_i hl; cases h; subst hy; exact And.intro hl hk
        · cases h
      · cases h
    · cases h
  · rename_i k
    split at h
    · rename_i r st0
      split at h
      · rename_i hc
        split at h
        · rename_i hf; cases h
          show cls Z.1 r = some x.toNat ∧ gF (fld Z.1 r k) (K ls (vI (M r k) :: st0) Z M) (fun q => K ls (vR q :: st0) Z M)
          rw [hf]; exact And.intro hc hk
        · rename_i q hf; cases h
          show cls Z.1 r = some x.toNat ∧ gF (fld Z.1 r k) (K ls (vI (M r k) :: st0) Z M) (fun q => K ls (vR q :: st0) Z M)
          rw [hf]; exact And.intro hc hk
        · cases h
      · cases h
    · cases h
  · rename_i k
    split at h
    · rename_i a r st0
      split at h
      · rename_i hc
        split at h
        · rename_i hf; cases h
          show cls Z.1 r = some x.toNat ∧ gF (fld Z.1 r k) (K ls st' Z (mset M r k a)) (fun _ => False)
          rw [hf]; exact And.intro hc hk
        · cases h
      · cases h
    · cases h
  · rename_i k
    split at h
    · rename_i q r st0
      split at h
      · rename_i o ho
        split at h
        · rename_i hc
          split at h
          · rename_i z hz; cases h
            show (match Z.1[r]? with
              | some (Sum.inr o) => o.1 = x.toNat ∧ (∃ z, o.2[k]? = some (some z)) ∧ q < Z.1.length ∧ K ls st' (Z.1.set r (Sum.inr (o.1, o.2.set k (some (some q)))), Z.2.1, Z.2.2) M
              | _ => False)
            rw [ho]; exact ⟨hc.1, ⟨z, hz⟩, hc.2, hk⟩
          · cases h
        · cases h
      · cases h
    · cases h
  · split at h
    · rename_i a j r st0
      split at h
      · rename_i t n f hf
        split at h
        · rename_i hc; cases h
          show gA (arr Z.1 r) j (fun t _ => t = 0 ∧ K ls st' Z (mset M r j.toNat a))
          rw [hf]; exact ⟨hc.2.1, hc.2.2, hc.1, hk⟩
        · cases h
      · cases h
    · cases h
  · split at h
    · rename_i q j r st0
      split at h
      · rename_i t n f hf
        split at h
        · rename_i hc; cases h
          show (match arr Z.1 r with
            | some (t, n, f) => t = 4 ∧ (0 ≤ j ∧ j < n) ∧ n ≤ 100000 ∧ cls Z.1 q = some 0 ∧ K ls st' (Z.1.set r (Sum.inl (4, n, fun z => if z = j.toNat then some q else f z)), Z.2.1, Z.2.2) M
            | _ => False)
          rw [hf]; exact ⟨hc.1, hc.2.1, hc.2.2.1, hc.2.2.2, hk⟩
        · cases h
      · cases h
    · cases h
  · split at h
    · rename_i hc; cases h
      exact And.intro hc.1 (And.intro hc.2.1 (And.intro (rfsB_ok (by omega) hc.2.2.1) (And.intro (rfqB_ok (by omega) hc.2.2.2.1) (And.intro hc.2.2.2.2 hk))))
    · cases h
  · split at h
    · split at h
      · rename_i hc; cases h
        exact And.intro hc.1 (And.intro hc.2.1 (And.intro hc.2.2.1 (And.intro hc.2.2.2.1 (And.intro hc.2.2.2.2.1 (And.intro (rfsB_ok (by omega) hc.2.2.2.2.2.1) (And.intro (rfqB_ok (by omega) hc.2.2.2.2.2.2.1) (And.intro hc.2.2.2.2.2.2.2 hk)))))))
      · cases h
    · cases h
  · split at h
    · split at h
      · rename_i hc; cases h
        exact And.intro hc.1 (And.intro hc.2.1 (And.intro hc.2.2.1 (And.intro hc.2.2.2.1 (And.intro (rfsB_ok (by omega) hc.2.2.2.2.1) (And.intro (rfqB_ok (by omega) hc.2.2.2.2.2.1) (And.intro hc.2.2.2.2.2.2 hk))))))
      · cases h
    · cases h
  · split at h
    · split at h
      · rename_i hc; cases h
        exact And.intro hc.1 (And.intro hc.2.1 (And.intro hc.2.2.1 (And.intro hc.2.2.2.1 (And.intro hc.2.2.2.2.1 (And.intro (rfsB_ok (by omega) hc.2.2.2.2.2.1) (And.intro (rfqB_ok (by omega) hc.2.2.2.2.2.2.1) (And.intro hc.2.2.2.2.2.2.2 hk)))))))
      · cases h
    · cases h
  · cases h
def ex (mc ms : Nat) : Nat → BL → Nat → AL → List AV → ZZ → MM → BL × Nat × AL × List AV × ZZ × MM
  | 0, b, pc, ls, st, Z, M => (b, pc, ls, st, Z, M)
  | _ + 1, [], pc, ls, st, Z, M => ([], pc, ls, st, Z, M)
  | f + 1, q :: t, pc, ls, st, Z, M => match st1 mc ms q.1 q.2.1 ls st Z M with
      | some r => ex mc ms f t (pc + q.2.2) r.1 r.2.1 r.2.2.1 r.2.2.2
      | none => (q :: t, pc, ls, st, Z, M)
theorem ex_ok {C : CC} {X : XX} {mc ms : Nat} {J : Nat → KK} {Rt : RR} : ∀ (f : Nat) (b : BL) (pc : Nat) (ls : AL) (st : List AV) (Z : ZZ) (M : MM) {b' : BL} {pc' : Nat} {ls' : AL} {st' : List AV} {Z' : ZZ} {M' M2 : MM}, ex mc ms f b pc ls st Z M = (b', pc', ls', st', Z', M') → M' = M2 → wpl C X mc ms J Rt b' pc' ls' st' Z' M2 → wpl C X mc ms J Rt b pc ls st Z M
  | 0, b, pc, ls, st, Z, M, b', pc', ls', st', Z', M', M2, h, hM, hw => by
    have h2 : (b, pc, ls, st, Z, M) = (b', pc', ls', st', Z', M') := h
    cases h2; cases hM; exact hw
  | f + 1, [], pc, ls, st, Z, M, b', pc', ls', st', Z', M', M2, h, hM, hw => by
    have h2 : (([] : BL), pc, ls, st, Z, M) = (b', pc', ls', st', Z', M') := h
    cases h2; cases hM; exact hw
  | f + 1, q :: t, pc, ls, st, Z, M, b', pc', ls', st', Z', M', M2, h, hM, hw => by
    have h2 : (match st1 mc ms q.1 q.2.1 ls st Z M with
      | some r => ex mc ms f t (pc + q.2.2) r.1 r.2.1 r.2.2.1 r.2.2.2
      | none => (q :: t, pc, ls, st, Z, M)) = (b', pc', ls', st', Z', M') := h
    cases hs : st1 mc ms q.1 q.2.1 ls st Z M with
    | none =>
      rw [hs] at h2
      cases h2; cases hM; exact hw
    | some r =>
      rw [hs] at h2
      obtain ⟨l1, s1, Z1, M1⟩ := r
      exact st1_ok hs (ex_ok f t (pc + q.2.2) l1 s1 Z1 M1 h2 hM hw)
theorem WSp (C : CC) (X : XX) (mc ms : Nat) (J : Nat → KK) (Rt : RR) (t : BL) (pc n y : Nat) (x : Int) (ls : AL) (st : List AV) (Z : ZZ) (M : MM) : wpl C X mc ms J Rt ((.invokespecial y, x, n) :: t) pc ls st Z M = (if y = 1001 then pR st (fun _ st => cats st ≤ 8 ∧ wpl C X mc ms J Rt t (pc + n) ls st Z M) else gR st[x.toNat - 1]? (fun _ => True) ∧ wpc C mc ms y x.toNat (wpl C X mc ms J Rt t (pc + n)) ls st Z M) := rfl
theorem WVi (C : CC) (X : XX) (mc ms : Nat) (J : Nat → KK) (Rt : RR) (t : BL) (pc n y : Nat) (x : Int) (ls : AL) (st : List AV) (Z : ZZ) (M : MM) : wpl C X mc ms J Rt ((.invokevirtual y, x, n) :: t) pc ls st Z M = (rcv Z.1 st (x.toNat - 1) y ∧ wpc C mc ms y x.toNat (wpl C X mc ms J Rt t (pc + n)) ls st Z M) := rfl
section CT
variable {d d' y n pc c s c1 s1 c2 s2 mc ms r ci : Nat} {x g a b : Int} {X : XX} {args rest st : List AV} {ls : AL} {sh sh' : List SC} {M M' : MM} {J : Nat → KK} {Rt : RR} {t : BL} {Q : Option AV → MM → Prop} {Z : ZZ}
/-- a constructor is asked -/
theorem kNQ {q : MM → Prop} (hc : Run d' y [vR r] sh M c1 s1 (fun v sh2 M2 => sh2 = sh' ∧ v = none ∧ q M2)) (hd : d' ≤ d) (hy : y ≠ 1001) (hcat : cats rest ≤ 8) (h1 : c + c1 = c2) (h2 : s + s1 = s2) (h3 : c2 ≤ mc) (h4 : s2 ≤ ms) (hl : sh'.length ≤ 1000000) (hr : rfsB rest sh.length = true) (hq : rfqB ls sh.length = true) (hk : ∀ M2, q M2 → J (pc + n) ls rest (sh', c2, s2) M2) : wpl (Run d) X mc ms J Rt [(.invokespecial y, 1, n)] pc ls (vR r :: rest) (sh, c, s) M := by
  subst h1
  subst h2
  rw [WSp, if_neg hy]
  refine ⟨trivial, Nat.le_add_left _ _, hcat, c1, s1, h3, h4, Run.mono d' d hd hc (fun v sh2 M2 h => ?_)⟩
  obtain ⟨rfl, rfl, h⟩ := h
  exact ⟨Or.inr ⟨rfsB_ok hl hr, rfqB_ok hl hq⟩, hk M2 h⟩
theorem kN (hc : Run d' y [vR r] sh M c1 s1 (fun v sh2 M2 => sh2 = sh' ∧ v = none ∧ M2 = M')) (hd : d' ≤ d) (hy : y ≠ 1001) (hcat : cats rest ≤ 8) (h1 : c + c1 = c2) (h2 : s + s1 = s2) (h3 : c2 ≤ mc) (h4 : s2 ≤ ms) (hl : sh'.length ≤ 1000000) (hr : rfsB rest sh.length = true) (hq : rfqB ls sh.length = true) (hk : J (pc + n) ls rest (sh', c2, s2) M') : wpl (Run d) X mc ms J Rt [(.invokespecial y, 1, n)] pc ls (vR r :: rest) (sh, c, s) M :=
  kNQ hc hd hy hcat h1 h2 h3 h4 hl hr hq (fun M2 h => by rw [h]; exact hk)
theorem rcv_okG {n : Nat} (h1 : st[n]? = some (vR r)) (h2 : (mz_T[y]?).map (fun e => e.2.2.2.2.2.1) = some ci) (h3 : cls sh r = some ci) : rcv sh st n y := by
  unfold rcv
  rw [h1]
  cases hq : mz_T[y]? with
  | none => rw [hq] at h2; cases h2
  | some e => rw [hq] at h2; cases h2; exact h3
/-- a method that makes nothing is asked -/
theorem kM {m : Nat} (hc : Run d' y args sh M 0 0 (fun q sh2 M2 => sh2 = sh ∧ Q q M2)) (hd : d' ≤ d) (hargs : (st.take m).reverse = args) (hrest : st.drop m = rest) (hn : m ≤ st.length) (hcat : cats rest ≤ 8) (h3 : c ≤ mc) (h4 : s ≤ ms) (hx : x.toNat = m) (hr : st[m - 1]? = some (vR r)) (ho : (mz_T[y]?).map (fun e => e.2.2.2.2.2.1) = some ci) (hcl : cls sh r = some ci) (hk : ∀ q M2, Q q M2 → J (pc + n) ls (q.toList ++ rest) (sh, c, s) M2) : wpl (Run d) X mc ms J Rt [(.invokevirtual y, x, n)] pc ls st (sh, c, s) M := by
  subst hargs
  subst hrest
  rw [WVi, hx]
  refine ⟨rcv_okG hr ho hcl, hn, hcat, 0, 0, h3, h4, Run.mono d' d hd hc (fun q sh2 M2 h => ?_)⟩
  obtain ⟨rfl, h⟩ := h
  exact ⟨Or.inl rfl, hk q M2 h⟩
theorem w_ret (h : Rt none Z M) : wpl (Run d) X mc ms J Rt [(.return_, 0, n)] pc ls [] Z M := And.intro rfl h
theorem w_end (h : J pc ls st Z M) : wpl (Run d) X mc ms J Rt [] pc ls st Z M := h
theorem w_goto (h : J g.toNat ls st Z M) : wpl (Run d) X mc ms J Rt [(.goto g, 0, n)] pc ls st Z M := h
theorem w_ge1 (h1 : rgI a) (h2 : rgI b) (hab : b ≤ a) (h : J g.toNat ls st Z M) : wpl (Run d) X mc ms J Rt [(.if_icmp .ge g, 0, n)] pc ls (vI b :: vI a :: st) Z M := And.intro h1 (And.intro h2 (And.intro (fun _ => h) (fun z => absurd hab z)))
theorem w_ge0 (h1 : rgI a) (h2 : rgI b) (hab : ¬ b ≤ a) (h : J (pc + n) ls st Z M) : wpl (Run d) X mc ms J Rt [(.if_icmp .ge g, 0, n)] pc ls (vI b :: vI a :: st) Z M := And.intro h1 (And.intro h2 (And.intro (fun z => absurd z hab) (fun _ => h)))
end CT
def z0 : MM := fun _ _ => 0
def zR : MM := mset z0 32 2 1
theorem mn_id {M : MM} {k : Nat} (h : ∀ j, M k j = 0) : mnew M k = M := by
  funext k' j
  unfold mnew
  by_cases hk : k' = k
  · rw [if_pos hk, hk, h]
  · rw [if_neg hk]
theorem mn_z (k : Nat) : mnew z0 k = z0 := mn_id (fun _ => rfl)
theorem mn_R {k : Nat} (h : k ≠ 32) : mnew zR k = zR := mn_id (fun j => ms_ne h j)

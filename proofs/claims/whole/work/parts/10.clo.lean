/-! every instruction: S is closed; a method that runs in the small machine meets its contract -/
def mz_okK1 (q : (Nat × Nat) × (Int × Nat)) : Bool := match mz_cn[q.1.1]? with
  | some own => if q.1.1 = 8 then decide (lw_tbl[q.2.2]? = some (Cond.constant own q.1.2 (iN q.2.1))) else decide (lw_tbl[q.2.2]? = some (Cond.constantLong own q.1.2 (jN q.2.1)))
  | none => false
set_option maxRecDepth 100000 in
theorem mz_K1_ok : mz_K.all mz_okK1 = true := by decide +kernel
theorem mz_K_get1 {o ix : Nat} {q : Int × Nat} (h : mz_K.lookup (o, ix) = some q) (ho : o = 8) : Jvm.Cond.constant (cnOf o) ix (iN q.1) ∈ mz_GW := by
  have h1 := List.all_eq_true.mp mz_K1_ok _ (lk_mem h)
  unfold mz_okK1 at h1
  dsimp only at h1
  cases hc : mz_cn[o]? with
  | none => rw [hc] at h1; simp at h1
  | some own =>
    rw [hc] at h1
    dsimp only at h1
    rw [if_pos ho, decide_eq_true_eq] at h1
    rw [cnOf_of hc]
    exact mz_gw h1 rfl
theorem mz_K_get2 {o ix : Nat} {q : Int × Nat} (h : mz_K.lookup (o, ix) = some q) (ho : o ≠ 8) : Jvm.Cond.constantLong (cnOf o) ix (jN q.1) ∈ mz_GW := by
  have h1 := List.all_eq_true.mp mz_K1_ok _ (lk_mem h)
  unfold mz_okK1 at h1
  dsimp only at h1
  cases hc : mz_cn[o]? with
  | none => rw [hc] at h1; simp at h1
  | some own =>
    rw [hc] at h1
    dsimp only at h1
    rw [if_neg ho, decide_eq_true_eq] at h1
    rw [cnOf_of hc]
    exact mz_gw h1 rfl
def Inv (s : State) (D : va_G) (cT : Nat → ClassId) (A : Nat → Prop) (ad0 : Nat → Nat) (n0 : Nat) (Z : ZZ) (M : MM) (ad : Nat → Nat) (H : Heap) (locs : List Loc) : Prop :=
  (∀ k, k < n0 ∨ Z.1.length ≤ k → ad k = ad0 k) ∧ n0 ≤ Z.1.length ∧ Z.1.length ≤ 100000 ∧ wfS Z.1 ∧ va_P D vwCl (wsOf cT ad Z.1 M) H ∧ va_D A (wsOf cT ad Z.1 M) ∧ va_S A s.heap H locs
theorem lk_np {q : Nat} : ((npOf q : Int)).toNat = npOf q := Int.toNat_natCast _
set_option maxHeartbeats 4000000 in
theorem clo_ok {p : Program} {l : Launch} {e : Env} {R : Room} {s : State} {m : MethodId} {args : Array Value} {below : List Frame} {meth : Method} {c : Code} {Qf : State → Prop} {D : va_G} {cT : Nat → ClassId} {A : Nat → Prop} {ad0 : Nat → Nat} {n0 : Nat} {C : CC} {X : XX} {mc ms y d b : Nat} {Rt : RR}
    (hx : p.tables.exec = Jvm.exec) (hb : c.code = mbOf y) (hml : c.maxLocals = mlOf y) (hown : s.vm.findClass (cnOf (ownOf y)) = some m.cls) (hts : ∀ w ∈ mz_GW, w.before args s = true) (hKK : va_K D vwCl (tyL cT) s) (hA : ∀ q, s.heap.size ≤ q → A q) (hE : ExW s) (hRc : R.cells = mc) (hRs : R.slots = ms) (hR : d + 1 ≤ R.frames ∧ 33 * (d + 1) ≤ R.locals) (hmn : nmOf y = "<init>" → meth.name = "<init>")
    (hX : ∀ q, X = some q → va_X b q.1 (fun j => iN (q.2 j)) s s.heap ∧ b < s.heap.size ∧ ¬ A b ∧ ad0 scr = b) (hC : MetS l D cT d C)
    (hrI : ∀ (a : Int) (Z : ZZ) (M : MM) (pc : Nat) (ad : Nat → Nat) (H : Heap) (locs : List Loc) (als : Array Slot), Rt (some (vI a)) Z M → Inv s D cT A ad0 n0 Z M ad H locs → decode (mbOf y) pc = .ok (.ireturn, 1) → W p l e R s m args below meth c H locs Z.2.1 Z.2.2 Qf (F0 m pc als [.int (iN a)]))
    (hrL : ∀ (a : Int) (Z : ZZ) (M : MM) (pc : Nat) (ad : Nat → Nat) (H : Heap) (locs : List Loc) (als : Array Slot), Rt (some (vL a)) Z M → Inv s D cT A ad0 n0 Z M ad H locs → decode (mbOf y) pc = .ok (.lreturn, 1) → W p l e R s m args below meth c H locs Z.2.1 Z.2.2 Qf (F0 m pc als [.long (jN a)]))
    (hrV : ∀ (Z : ZZ) (M : MM) (pc : Nat) (ad : Nat → Nat) (H : Heap) (locs : List Loc) (als : Array Slot), Rt none Z M → Inv s D cT A ad0 n0 Z M ad H locs → decode (mbOf y) pc = .ok (.return_, 1) → W p l e R s m args below meth c H locs Z.2.1 Z.2.2 Qf (F0 m pc als [])) :
    Clo C y X mc ms Rt (SimS p l e R s m args below meth c Qf D cT A (mlOf y) ad0 n0) := by
  intro C' J R' K pc i len i' x ls st Z M hCC hJ hR2 hK hdec hres hw
  have hC' : MetS l D cT d C' := fun z a sh M k n P h => hC z a sh M k n P (hCC _ _ _ _ _ _ _ h)
  have hR1 : 1 ≤ R.frames ∧ 33 ≤ R.locals := ⟨by omega, by omega⟩
  unfold res at hres
  split at hres
  case isFalse => cases hres
  rename_i hlen
  unfold res0 at hres
  split at hres
  · cases hres
    obtain rfl : len = 1 := by simpa [lenOK] using hlen
    exact sn_iload_n hx hb hdec hJ hK hw
  · cases hres
    obtain rfl : len = 1 := by simpa [lenOK] using hlen
    exact sn_lload_n hx hb hdec hJ hK hw
  · cases hres
    obtain rfl : len = 1 := by simpa [lenOK] using hlen
    exact sn_aload_n hx hb hdec hJ hK hw
  · cases hres
    obtain rfl : len = 1 := by simpa [lenOK] using hlen
    exact sn_istore_n hx hb hdec hJ hK hw
  · cases hres
    obtain rfl : len = 1 := by simpa [lenOK] using hlen
    exact sn_lstore_n hx hb hdec hJ hK hw
  · cases hres
    obtain rfl : len = 1 := by simpa [lenOK] using hlen
    exact sn_astore_n hx hb hdec hJ hK hw
  · cases hres
    obtain rfl : len = 2 := by simpa [lenOK] using hlen
    exact sn_iload hx hb hdec hJ hK hw
  · cases hres
    obtain rfl : len = 2 := by simpa [lenOK] using hlen
    exact sn_lload hx hb hdec hJ hK hw
  · cases hres
    obtain rfl : len = 2 := by simpa [lenOK] using hlen
    exact sn_aload hx hb hdec hJ hK hw
  · cases hres
    obtain rfl : len = 2 := by simpa [lenOK] using hlen
    exact sn_istore hx hb hdec hJ hK hw
  · cases hres
    obtain rfl : len = 2 := by simpa [lenOK] using hlen
    exact sn_lstore hx hb hdec hJ hK hw
  · cases hres
    obtain rfl : len = 2 := by simpa [lenOK] using hlen
    exact sn_astore hx hb hdec hJ hK hw
  · cases hres
    obtain rfl : len = 3 := by simpa [lenOK] using hlen
    exact sn_iinc hx hb hdec hJ hK hw
  · cases hres
    obtain rfl : len = 1 := by simpa [lenOK] using hlen
    exact sn_iconst hx hb hdec hJ hK hw
  · split at hres
    · rename_i hh
      cases hres
      obtain rfl : len = 2 := by simpa [lenOK] using hlen
      exact sn_bipush hh hx hb hdec hJ hK hw
    · cases hres
  · split at hres
    · rename_i hh
      cases hres
      obtain rfl : len = 3 := by simpa [lenOK] using hlen
      exact sn_sipush hh hx hb hdec hJ hK hw
    · cases hres
  · cases hres
    obtain rfl : len = 1 := by simpa [lenOK] using hlen
    exact sn_lconst rfl hx hb hdec hJ hK hw
  · split at hres
    · rename_i q hq
      split at hres
      · rename_i hh
        cases hres
        obtain rfl : len = 3 := by simpa [lenOK] using hlen
        exact sn_ldcw hown (hts _ (mz_K_get1 hq hh)) hx hb hdec hJ hK hw
      · cases hres
    · cases hres
  · split at hres
    · rename_i q hq
      split at hres
      · rename_i hh
        cases hres
        obtain rfl : len = 3 := by simpa [lenOK] using hlen
        exact sn_ldc2 hown (hts _ (mz_K_get2 hq hh)) hx hb hdec hJ hK hw
      · cases hres
    · cases hres
  · split at hres
    · rename_i hh
      cases hres
      obtain rfl : len = 3 := by simpa [lenOK] using hlen
      exact sn_goto hh hx hb hdec hJ hK hw
    · cases hres
  · split at hres
    · rename_i hh
      cases hres
      obtain rfl : len = 3 := by simpa [lenOK] using hlen
      exact sn_icmp hh hx hb hdec hJ hK hw
    · cases hres
  · split at hres
    · rename_i hh
      cases hres
      obtain rfl : len = 3 := by simpa [lenOK] using hlen
      exact sn_ifc hh hx hb hdec hJ hK hw
    · cases hres
  · split at hres
    · rename_i hh
      cases hres
      exact sn_table hh.1 hh.2.1 hh.2.2 hx hb hdec hJ hK hw
    · cases hres
  · split at hres
    · rename_i hh
      cases hres
      exact sn_lookup hh.1 hh.2.1 hh.2.2 hx hb hdec hJ hK hw
    · cases hres
  · split at hres
    · rename_i q hq
      cases hres
      obtain rfl : len = 3 := by simpa [lenOK] using hlen
      exact sn_getfield hown hts hKK hq hx hb hdec hK hw
    · cases hres
  · split at hres
    · rename_i q hq
      obtain rfl : len = 3 := by simpa [lenOK] using hlen
      split at hres
      · rename_i hpf
        cases hres
        exact sn_putfield hown hts hKK hq hpf hx hb hdec hK hw
      · rename_i hpf
        cases hres
        exact sn_putref hown hmn rfl hts hKK hq hpf hx hb hdec hK hw
      · cases hres
    · cases hres
  · split at hres
    · rename_i q hq
      split at hres
      · rename_i hh
        cases hres
        obtain rfl : len = 3 := by simpa [lenOK] using hlen
        exact sn_new hown hts hKK hA hRc hRs hq hh hx hb hdec hK hw
      · cases hres
    · cases hres
  · cases hres
    obtain rfl : len = 2 := by simpa [lenOK] using hlen
    exact sn_newarray hts hKK hA hRc hRs hx hb hdec hK hw
  · split at hres
    · rename_i q hq
      split at hres
      · rename_i hh
        cases hres
        obtain rfl : len = 3 := by simpa [lenOK] using hlen
        exact sn_anewarray hE hown hts hKK hA hRc hRs hq hh hx hb hdec hK hw
      · cases hres
    · cases hres
  · split at hres
    · rename_i q hq
      split at hres
      · rename_i hh
        obtain ⟨hh1, rfl⟩ := hh
        cases hres
        obtain rfl : len = 4 := by simpa [lenOK] using hlen
        exact sn_multi hE hown hts hKK hA hRc hRs hq hh1 hx hb hdec hK hw
      · cases hres
    · cases hres
  · split at hres
    · rename_i q hq
      split at hres
      · rename_i hh
        obtain ⟨hn, hh⟩ := hh
        cases hres
        obtain rfl : len = 3 := by simpa [lenOK] using hlen
        rcases mz_L_get hq with ⟨h1, h2⟩ | ⟨h1, h2⟩ | ⟨h1, h2⟩ | ⟨h1, h2⟩ | ⟨ez, h1, h2, h3, h4⟩
        · rw [h1] at hw
          exact sn_copy h2 hml hR1 hown hts hKK hx hb hdec hK hw
        · rw [h1] at hw
          exact sn_max h2 hml hR1 hRc hRs hown hts hx hb hdec hK hw
        · rw [h1] at hw
          exact sn_min h2 hml hR1 hRc hRs hown hts hx hb hdec hK hw
        · rw [h1] at hw
          exact absurd hw (fun h => h)
        · have hw2 : wpc C' mc ms q.1 (npOf q.1) K ls st Z M := by
            have : (if q.1 < 1000 then wpc C' mc ms q.1 ((npOf q.1 : Int)).toNat K ls st Z M else _) := hw
            rw [if_pos (by omega), lk_np] at this
            exact this
          exact sn_static hC' h1 h2 (by rcases hh with hh | hh | hh | hh <;> omega) (h3 hn) hE hml hRc hRs hR hown hts hKK hA hx hb hdec hK hw2
      · cases hres
    · cases hres
  · split at hres
    · rename_i q hq
      split at hres
      · rename_i hh
        obtain ⟨hn, hh, hlt⟩ := hh
        cases hres
        obtain rfl : len = 3 := by simpa [lenOK] using hlen
        rcases mz_L_get hq with ⟨h1, h2⟩ | ⟨h1, h2⟩ | ⟨h1, h2⟩ | ⟨h1, h2⟩ | ⟨ez, h1, h2, h3, h4⟩
        · omega
        · omega
        · omega
        · omega
        · have hw2 : rcv Z.1 st (((npOf q.1 : Int)).toNat - 1) q.1 ∧ wpc C' mc ms q.1 ((npOf q.1 : Int)).toNat K ls st Z M := hw
          rw [lk_np] at hw2
          exact sn_virtual hC' h1 h2 hh (h3 hn) hE hml hRc hRs hR hown hts hKK hA hx hb hdec hK hw2.1 hw2.2
      · cases hres
    · cases hres
  · split at hres
    · rename_i q hq
      split at hres
      · rename_i hh
        cases hres
        obtain rfl : len = 3 := by simpa [lenOK] using hlen
        rcases mz_L_get hq with ⟨h1, h2⟩ | ⟨h1, h2⟩ | ⟨h1, h2⟩ | ⟨h1, h2⟩ | ⟨ez, h1, h2, h3, h4⟩
        · omega
        · omega
        · omega
        · rw [h1] at hw
          exact sn_objinit h2 hml hR1 hown hts hx hb hdec hK hw
        · have hw2 : gR st[npOf q.1 - 1]? (fun _ => True) ∧ wpc C' mc ms q.1 (npOf q.1) K ls st Z M := by
            have : (if q.1 = 1001 then _ else gR st[((npOf q.1 : Int)).toNat - 1]? (fun _ => True) ∧ wpc C' mc ms q.1 ((npOf q.1 : Int)).toNat K ls st Z M) := hw
            rw [if_neg (by omega), lk_np] at this
            exact this
          exact sn_special (qn := q.2.1) hC' h1 h2 (by omega) h3 (fun hn => hE.2.2 _ _ q ez hq hn h1) hE hml hRc hRs hR hown hts hKK hA hx hb hdec hK hw2.1 hw2.2
      · cases hres
    · cases hres
  · cases hres
    obtain rfl : len = 1 := by simpa [lenOK] using hlen
    exact sn_iadd hx hb hdec hJ hK hw
  · cases hres
    obtain rfl : len = 1 := by simpa [lenOK] using hlen
    exact sn_isub hx hb hdec hJ hK hw
  · cases hres
    obtain rfl : len = 1 := by simpa [lenOK] using hlen
    exact sn_imul hx hb hdec hJ hK hw
  · cases hres
    obtain rfl : len = 1 := by simpa [lenOK] using hlen
    exact sn_idiv hx hb hdec hJ hK hw
  · cases hres
    obtain rfl : len = 1 := by simpa [lenOK] using hlen
    exact sn_irem hx hb hdec hJ hK hw
  · cases hres
    obtain rfl : len = 1 := by simpa [lenOK] using hlen
    exact sn_iand hx hb hdec hJ hK hw
  · cases hres
    obtain rfl : len = 1 := by simpa [lenOK] using hlen
    exact sn_ior hx hb hdec hJ hK hw
  · cases hres
    obtain rfl : len = 1 := by simpa [lenOK] using hlen
    exact sn_ixor hx hb hdec hJ hK hw
  · cases hres
    obtain rfl : len = 1 := by simpa [lenOK] using hlen
    exact sn_ishl hx hb hdec hJ hK hw
  · cases hres
    obtain rfl : len = 1 := by simpa [lenOK] using hlen
    exact sn_ishr hx hb hdec hJ hK hw
  · cases hres
    obtain rfl : len = 1 := by simpa [lenOK] using hlen
    exact sn_iushr hx hb hdec hJ hK hw
  · cases hres
    obtain rfl : len = 1 := by simpa [lenOK] using hlen
    exact sn_ladd hx hb hdec hJ hK hw
  · cases hres
    obtain rfl : len = 1 := by simpa [lenOK] using hlen
    exact sn_lsub hx hb hdec hJ hK hw
  · cases hres
    obtain rfl : len = 1 := by simpa [lenOK] using hlen
    exact sn_lmul hx hb hdec hJ hK hw
  · cases hres
    obtain rfl : len = 1 := by simpa [lenOK] using hlen
    exact sn_ldiv hx hb hdec hJ hK hw
  · cases hres
    obtain rfl : len = 1 := by simpa [lenOK] using hlen
    exact sn_lrem hx hb hdec hJ hK hw
  · cases hres
    obtain rfl : len = 1 := by simpa [lenOK] using hlen
    exact sn_land hx hb hdec hJ hK hw
  · cases hres
    obtain rfl : len = 1 := by simpa [lenOK] using hlen
    exact sn_lor hx hb hdec hJ hK hw
  · cases hres
    obtain rfl : len = 1 := by simpa [lenOK] using hlen
    exact sn_lshl hx hb hdec hJ hK hw
  · cases hres
    obtain rfl : len = 1 := by simpa [lenOK] using hlen
    exact sn_lshr hx hb hdec hJ hK hw
  · cases hres
    obtain rfl : len = 1 := by simpa [lenOK] using hlen
    exact sn_lushr hx hb hdec hJ hK hw
  · cases hres
    obtain rfl : len = 1 := by simpa [lenOK] using hlen
    exact sn_lcmp hx hb hdec hJ hK hw
  · cases hres
    obtain rfl : len = 1 := by simpa [lenOK] using hlen
    exact sn_i2l hx hb hdec hJ hK hw
  · cases hres
    obtain rfl : len = 1 := by simpa [lenOK] using hlen
    exact sn_l2i hx hb hdec hJ hK hw
  · cases hres
    obtain rfl : len = 1 := by simpa [lenOK] using hlen
    exact sn_i2b hx hb hdec hJ hK hw
  · cases hres
    obtain rfl : len = 1 := by simpa [lenOK] using hlen
    exact sn_dup hx hb hdec hJ hK hw
  · cases hres
    obtain rfl : len = 1 := by simpa [lenOK] using hlen
    exact sn_dup2 hx hb hdec hJ hK hw
  · cases hres
    obtain rfl : len = 1 := by simpa [lenOK] using hlen
    exact sn_pop hx hb hdec hJ hK hw
  · cases hres
    obtain rfl : len = 1 := by simpa [lenOK] using hlen
    exact sn_iaload hKK hX hx hb hdec hK hw
  · cases hres
    obtain rfl : len = 1 := by simpa [lenOK] using hlen
    exact sn_baload hKK hx hb hdec hK hw
  · cases hres
    obtain rfl : len = 1 := by simpa [lenOK] using hlen
    exact sn_laload hKK hx hb hdec hK hw
  · cases hres
    obtain rfl : len = 1 := by simpa [lenOK] using hlen
    exact sn_aaload hKK hx hb hdec hK hw
  · cases hres
    obtain rfl : len = 1 := by simpa [lenOK] using hlen
    exact sn_iastore hKK hx hb hdec hK hw
  · cases hres
    obtain rfl : len = 1 := by simpa [lenOK] using hlen
    exact sn_bastore hKK hx hb hdec hK hw
  · cases hres
    obtain rfl : len = 1 := by simpa [lenOK] using hlen
    exact sn_lastore hKK hx hb hdec hK hw
  · cases hres
    obtain rfl : len = 1 := by simpa [lenOK] using hlen
    exact sn_aastore hKK hx hb hdec hK hw
  · cases hres
    obtain rfl : len = 1 := by simpa [lenOK] using hlen
    exact sn_alen hKK hX hx hb hdec hK hw
  · cases hres
    obtain rfl : len = 1 := by simpa [lenOK] using hlen
    obtain ⟨a, st, rfl, hq1⟩ := pI_spec hw
    clear hw
    obtain ⟨rfl, hw⟩ := hq1
    intro ad H locs als i1 i2 i3 i4 i5 i6 i7 i8 i9
    exact hrI a Z M pc ad H locs als (hR2 _ _ _ hw) ⟨i1, i2, i3, i4, i7, i8, i9⟩ hdec
  · cases hres
    obtain rfl : len = 1 := by simpa [lenOK] using hlen
    obtain ⟨a, st, rfl, hq1⟩ := pL_spec hw
    clear hw
    obtain ⟨rfl, hw⟩ := hq1
    intro ad H locs als i1 i2 i3 i4 i5 i6 i7 i8 i9
    exact hrL a Z M pc ad H locs als (hR2 _ _ _ hw) ⟨i1, i2, i3, i4, i7, i8, i9⟩ hdec
  · cases hres
    obtain rfl : len = 1 := by simpa [lenOK] using hlen
    have hw2 : st = [] ∧ R' none Z M := hw
    clear hw
    obtain ⟨rfl, hw⟩ := hw2
    intro ad H locs als i1 i2 i3 i4 i5 i6 i7 i8 i9
    exact hrV Z M pc ad H locs als (hR2 _ _ _ hw) ⟨i1, i2, i3, i4, i7, i8, i9⟩ hdec
  · cases hres

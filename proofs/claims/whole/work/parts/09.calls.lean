/-! natives, Math, Object(), calls -/
theorem mz_sys : Cond.native arraycopyName ∈ mz_GW ∧ Cond.static arraycopyName ∈ mz_GW ∧ Cond.initialized "java/lang/System" ∈ mz_GW ∧ Cond.initialized "java/lang/Math" ∈ mz_GW :=
  ⟨List.mem_filter.mpr ⟨by decide +kernel, rfl⟩, List.mem_filter.mpr ⟨by decide +kernel, rfl⟩, List.mem_filter.mpr ⟨by decide +kernel, rfl⟩, List.mem_filter.mpr ⟨by decide +kernel, rfl⟩⟩
theorem mz_math : Cond.static Lib.Math.max.name ∈ mz_GW ∧ Cond.code Lib.Math.max.name Lib.Math.max.code 2 (some .int) ∈ mz_GW ∧ Cond.static Lib.Math.min.name ∈ mz_GW ∧ Cond.code Lib.Math.min.name Lib.Math.min.code 2 (some .int) ∈ mz_GW :=
  ⟨List.mem_filter.mpr ⟨by decide +kernel, rfl⟩, List.mem_filter.mpr ⟨by decide +kernel, rfl⟩, List.mem_filter.mpr ⟨by decide +kernel, rfl⟩, List.mem_filter.mpr ⟨by decide +kernel, rfl⟩⟩
theorem mz_obj : Cond.instanceMethod objectInit ∈ mz_GW ∧ Cond.code objectInit ⟨#[0xb1]⟩ 1 none ∈ mz_GW :=
  ⟨List.mem_filter.mpr ⟨by decide +kernel, rfl⟩, List.mem_filter.mpr ⟨by decide +kernel, rfl⟩⟩
theorem mcpy_ne {M : MM} {sk dk sp dp n : Nat} (k : Nat) (h : k ≠ dk) : mcpy M sk dk sp dp n k = M k := by funext j; simp [mcpy, h]
theorem mcpy_at (M : MM) (sk dk sp dp n : Nat) : mcpy M sk dk sp dp n dk = fun j => if dp ≤ j ∧ j < dp + n then M sk (sp + (j - dp)) else M dk j := by funext j; simp [mcpy]
theorem cpy_iN (f g : Nat → Int) (sp dp n : Nat) : (fun j => iN (if dp ≤ j ∧ j < dp + n then f (sp + (j - dp)) else g j)) = va_cpy (fun j => iN (f j)) (fun j => iN (g j)) sp dp n := by
  funext j
  unfold va_cpy
  split <;> rfl
theorem cpy_jN (f g : Nat → Int) (sp dp n : Nat) : (fun j => jN (if dp ≤ j ∧ j < dp + n then f (sp + (j - dp)) else g j)) = va_cpy (fun j => jN (f j)) (fun j => jN (g j)) sp dp n := by
  funext j
  unfold va_cpy
  split <;> rfl
/-- a method's start and end in the machine itself -/
def PM (D : va_G) (cT : Nat → ClassId) (sh : List SC) (M : MM) (ad : Nat → Nat) (sz : Nat) : State → Prop := fun U =>
  U.heap.size = sz ∧ sh.length ≤ 100000 ∧ wfS sh ∧ va_P D vwCl (wsOf cT ad sh M) U.heap ∧ va_K D vwCl (tyL cT) U ∧ va_D (fun _ => True) (wsOf cT ad sh M) ∧ ExW U
def QM (D : va_G) (cT : Nat → ClassId) (ret : Option FieldType) (Post : PP) (sh : List SC) (ad : Nat → Nat) (A1 : Nat → Prop) : Array Value → State → Outcome → State → Prop := fun _ st oc t =>
  (∃ (r : Option AV) (sh' : List SC) (M' : MM) (ad' : Nat → Nat), oc = .returned (r.map (cvV ad')) ∧ rok ret r ∧ Post r sh' M' ∧ (∀ k, k < sh.length ∨ sh'.length ≤ k → ad' k = ad k) ∧ sh.length ≤ sh'.length ∧ sh'.length ≤ 100000 ∧ wfS sh' ∧ va_P D vwCl (wsOf cT ad' sh' M') t.heap ∧ va_D A1 (wsOf cT ad' sh' M')) ∧ va_F A1 st t
def MetS (l : Launch) (D : va_G) (cT : Nat → ClassId) (d : Nat) (C : CC) : Prop := ∀ (z : Nat) (a : List AV) (sh : List SC) (M : MM) (k n : Nat) (Post : PP), C z a sh M k n Post → ∀ e : mz_E, mz_T[z]? = some e → z < 163 → ∀ (ad : Nat → Nat) (sz : Nat),
  Met l e.1 (Cond.code e.1 e.2.1 e.2.2.1 e.2.2.2.1 :: mz_GW) ({ frames := d, cells := k, slots := n, locals := 33 * d }) (va_Pc (a.map (cvV ad)) (PM D cT sh M ad sz)) (QM D cT e.2.2.2.1 Post sh ad (va_A (wsOf cT ad sh M) sz)) k n (va_A (wsOf cT ad sh M) sz)
theorem PM_blind {D : va_G} {cT : Nat → ClassId} {sh : List SC} {M : MM} {ad : Nat → Nat} {sz : Nat} {av : List Value} : FrameBlind (va_Pc av (PM D cT sh M ad sz)) := by
  intro a U g mk h
  obtain ⟨q0, q1, q2, q3, qP, qK, qD, qE⟩ := h
  exact ⟨q0, q1, q2, q3, qP, va_K.moved (u := U) (U := U.calling g mk a) (Vm.Alike.refl U.vm) qK, qD, qE.same rfl⟩
theorem okM_spec {e : mz_E} (h : mz_okM e = true) : Cond.initialized e.1.cls ∈ mz_GW ∧ e.1.cls ≠ "java/lang/invoke/MethodHandle" ∧ e.1.cls ≠ "java/lang/invoke/VarHandle" ∧ (parseMethodDescriptor e.1.desc).map (fun d => d.parameters.length) = some e.2.2.2.2.2.2.1 ∧ plainName e.1.cls = true ∧ e.2.2.1 ≤ 14 ∧ mz_cn[e.2.2.2.2.2.1]? = some e.1.cls ∧
    (e.2.2.2.2.1 = 0 → Cond.static e.1 ∈ mz_GW) ∧ (e.2.2.2.2.1 = 1 → Cond.instanceMethod e.1 ∈ mz_GW ∧ Cond.selects e.1.cls e.1 e.1 ∈ mz_GW ∧ ∃ q : vw_C, vwCl[e.2.2.2.2.2.1]? = some q ∧ q.1 = e.1.cls) ∧ (e.2.2.2.2.1 = 2 → Cond.instanceMethod e.1 ∈ mz_GW ∧ e.1.name = "<init>" ∧ e.2.2.2.1 = none) := by
  obtain ⟨y, b, L, r, kd, ow, n, p1, p2, p3, p4⟩ := e
  simp only [mz_okM, Bool.and_eq_true, decide_eq_true_eq] at h
  obtain ⟨⟨⟨⟨⟨⟨⟨h1, h2⟩, h3⟩, h4⟩, h5⟩, h6⟩, h7⟩, h8⟩ := h
  refine ⟨mz_gw h1 rfl, h2, h3, h4, h5, h6, h7, fun h9 => ?_, fun h9 => ?_, fun h9 => ?_⟩
  · dsimp only at h9
    subst h9
    rw [if_pos rfl, decide_eq_true_eq] at h8
    exact mz_gw h8 rfl
  · dsimp only at h9
    subst h9
    rw [if_neg (by decide), if_pos rfl] at h8
    simp only [Bool.and_eq_true, decide_eq_true_eq] at h8
    refine ⟨mz_gw h8.1.1 rfl, mz_gw h8.1.2 rfl, ?_⟩
    have h9 := h8.2
    cases hq : vwCl[ow]? with
    | none => rw [hq] at h9; cases h9
    | some q => rw [hq] at h9; exact ⟨q, rfl, Option.some.inj h9⟩
  · dsimp only at h9
    subst h9
    rw [if_neg (by decide), if_neg (by decide)] at h8
    simp only [Bool.and_eq_true, decide_eq_true_eq] at h8
    exact ⟨mz_gw h8.1.1.2 rfl, h8.1.2, h8.2⟩
section SND4
variable {p : Program} {l : Launch} {e : Env} {R : Room} {s : State} {m : MethodId} {args : Array Value} {below : List Frame} {meth : Method} {c : Code} {Qf : State → Prop} {D : va_G} {cT : Nat → ClassId} {A : Nat → Prop} {nL : Nat} {ad0 : Nat → Nat} {n0 : Nat}
variable {cc : ByteArray} {C : CC} {X : XX} {mc ms : Nat} {J : Nat → KK} {Rt : RR} {x : Int} {K : KK} {ls : AL} {st : List AV} {Z : ZZ} {M : MM} {pc len o d : Nat}
theorem sn_copy {ix : Nat} (hlink : Cond.methodLink (cnOf o) ix arraycopyName ∈ mz_GW) (hml : c.maxLocals = nL) (hR : 1 ≤ R.frames ∧ 33 ≤ R.locals) (hown : s.vm.findClass (cnOf o) = some m.cls) (hts : ∀ w ∈ mz_GW, w.before args s = true) (hKK : va_K D vwCl (tyL cT) s) (hx : p.tables.exec = Jvm.exec) (hb : c.code = cc) (hdg : decode cc pc = .ok (.invokestatic ix, 3)) (hK : ∀ ls st Z M, K ls st Z M → SimS p l e R s m args below meth c Qf D cT A nL ad0 n0 (pc + 3) ls st Z M) (h : wpi C X mc ms J Rt (.invokestatic 1000) x K ls st Z M) : SimS p l e R s m args below meth c Qf D cT A nL ad0 n0 pc ls st Z M := by
  obtain ⟨n, st, rfl, hq1⟩ := pI_spec h
  obtain ⟨dp, st, rfl, hq2⟩ := pI_spec hq1
  obtain ⟨dk, st, rfl, hq3⟩ := pR_spec hq2
  obtain ⟨sp, st, rfl, hq4⟩ := pI_spec hq3
  obtain ⟨sk, st, rfl, hq5⟩ := pR_spec hq4
  clear hq1 hq2 hq3 hq4 h
  intro ad H locs als i1 i2 i3 i4 i5 i6 i7 i8 i9
  cases ha : arr Z.1 sk with
  | none => rw [ha] at hq5; exact hq5.elim
  | some a =>
    cases hd : arr Z.1 dk with
    | none => rw [ha, hd] at hq5; obtain ⟨_, _, _⟩ := a; exact hq5.elim
    | some b =>
      obtain ⟨t, n0', f⟩ := a
      obtain ⟨t1, n1, f1⟩ := b
      rw [ha, hd] at hq5
      obtain ⟨rfl, ht, k1, k2, k3, k4, k5, k6, k7, rfl, h⟩ := hq5
      have hsz : c.maxLocals = als.size := by rw [hml, i6.1, i5]
      have c1 := iN_nn k1 (by omega)
      have c2 := iN_nn k2 (by omega)
      have c3 := iN_nn k3 (by omega)
      have hloc : (List.map (fun v : Value => v.category) (List.map (cvV ad) [])).sum + (nativeFrameWords "java/lang/System" "arraycopy" 5 + 11) ≤ R.locals := by
        show 0 + (nativeFrameWords "java/lang/System" "arraycopy" 5 + 11) ≤ R.locals
        exact Nat.le_trans (by decide) hR.2
      rcases ht with rfl | rfl
      · refine va_copyi (ty := .int) (n0 := n0') (n1 := n1) hx hb hsz hown (hts _ hlink) (hts _ mz_sys.1) (hts _ mz_sys.2.1) (hts _ mz_sys.2.2.1) hKK i7 i8 i9 sk dk 0 0 (ws_ar ha) (ws_ar hd) rfl rfl rfl c1.1 c2.1 c3.1 (by rw [c1.2, c3.2]; omega) (by rw [c2.2, c3.2]; omega) (fun _ _ => rfl) hR.1 hloc hdg (fun H1 locs1 j7 j8 j9 => ?_)
        rw [c1.2, c2.2, c3.2, ← cpy_iN] at j7 j8
        have e1 : wsOf cT ad Z.1 (mcpy M sk dk sp.toNat dp.toNat n.toNat) = (wsOf cT ad Z.1 M).set dk (ad dk, .inl (cT 0, n1, .inl (fun j => iN (if dp.toNat ≤ j ∧ j < dp.toNat + n.toNat then M sk (sp.toNat + (j - dp.toNat)) else M dk j)))) := by
          refine wsOf_set' (arr_spec hd) (fun k hk => mcpy_ne k hk) ?_
          rw [mcpy_at]
          rfl
        rw [← e1] at j7 j8
        exact hK _ _ _ _ h ad H1 locs1 als i1 i2 i3 i4 i5 i6 j7 j8 j9
      · refine va_copyl (ty := .long) (n0 := n0') (n1 := n1) hx hb hsz hown (hts _ hlink) (hts _ mz_sys.1) (hts _ mz_sys.2.1) (hts _ mz_sys.2.2.1) hKK i7 i8 i9 sk dk 3 3 (ws_ar ha) (ws_ar hd) rfl rfl rfl c1.1 c2.1 c3.1 (by rw [c1.2, c3.2]; omega) (by rw [c2.2, c3.2]; omega) (fun _ _ => rfl) hR.1 hloc hdg (fun H1 locs1 j7 j8 j9 => ?_)
        rw [c1.2, c2.2, c3.2, ← cpy_jN] at j7 j8
        have e1 : wsOf cT ad Z.1 (mcpy M sk dk sp.toNat dp.toNat n.toNat) = (wsOf cT ad Z.1 M).set dk (ad dk, .inl (cT 3, n1, .inr (.inl (fun j => jN (if dp.toNat ≤ j ∧ j < dp.toNat + n.toNat then M sk (sp.toNat + (j - dp.toNat)) else M dk j))))) := by
          refine wsOf_set' (arr_spec hd) (fun k hk => mcpy_ne k hk) ?_
          rw [mcpy_at]
          rfl
        rw [← e1] at j7 j8
        exact hK _ _ _ _ h ad H1 locs1 als i1 i2 i3 i4 i5 i6 j7 j8 j9
theorem sn_max {ix : Nat} (hlink : Cond.methodLink (cnOf o) ix Lib.Math.max.name ∈ mz_GW) (hml : c.maxLocals = nL) (hR : 1 ≤ R.frames ∧ 33 ≤ R.locals) (hRc : R.cells = mc) (hRs : R.slots = ms) (hown : s.vm.findClass (cnOf o) = some m.cls) (hts : ∀ w ∈ mz_GW, w.before args s = true) (hx : p.tables.exec = Jvm.exec) (hb : c.code = cc) (hdg : decode cc pc = .ok (.invokestatic ix, 3)) (hK : ∀ ls st Z M, K ls st Z M → SimS p l e R s m args below meth c Qf D cT A nL ad0 n0 (pc + 3) ls st Z M) (h : wpi C X mc ms J Rt (.invokestatic 1002) x K ls st Z M) : SimS p l e R s m args below meth c Qf D cT A nL ad0 n0 pc ls st Z M := by
  have h : pI st fun b st => pI st fun a st => rgI a ∧ rgI b ∧ cats st ≤ 8 ∧ Z.2.1 ≤ mc ∧ Z.2.2 ≤ ms ∧ K ls (vI (max a b) :: st) Z M := h
  obtain ⟨b, st, rfl, hq1⟩ := pI_spec h
  obtain ⟨a, st, rfl, hq2⟩ := pI_spec hq1
  clear hq1 h
  obtain ⟨ra, rb, k1, k2, k3, h⟩ := hq2
  intro ad H locs als i1 i2 i3 i4 i5 i6 i7 i8 i9
  have hsz : c.maxLocals = als.size := by rw [hml, i6.1, i5]
  refine va_mmax hx hb hsz hown (hts _ hlink) (hts _ mz_math.1) (hts _ mz_sys.2.2.2) (hts _ mz_math.2.1) hR.1 (by rw [cvV_cats]; omega) (by rw [hRc]; exact k2) (by rw [hRs]; exact k3) hdg ?_
  have e1 : (if iN a < iN b then iN b else iN a) = iN (max a b) := by
    by_cases hab : a < b
    · rw [if_pos ((iN_lt ra rb).mpr hab), Int.max_eq_right (by omega)]
    · rw [if_neg (fun z => hab ((iN_lt ra rb).mp z)), Int.max_eq_left (by omega)]
  rw [e1]
  exact hK _ _ _ _ h ad H locs als i1 i2 i3 i4 i5 i6 i7 i8 i9
theorem sn_min {ix : Nat} (hlink : Cond.methodLink (cnOf o) ix Lib.Math.min.name ∈ mz_GW) (hml : c.maxLocals = nL) (hR : 1 ≤ R.frames ∧ 33 ≤ R.locals) (hRc : R.cells = mc) (hRs : R.slots = ms) (hown : s.vm.findClass (cnOf o) = some m.cls) (hts : ∀ w ∈ mz_GW, w.before args s = true) (hx : p.tables.exec = Jvm.exec) (hb : c.code = cc) (hdg : decode cc pc = .ok (.invokestatic ix, 3)) (hK : ∀ ls st Z M, K ls st Z M → SimS p l e R s m args below meth c Qf D cT A nL ad0 n0 (pc + 3) ls st Z M) (h : wpi C X mc ms J Rt (.invokestatic 1003) x K ls st Z M) : SimS p l e R s m args below meth c Qf D cT A nL ad0 n0 pc ls st Z M := by
  have h : pI st fun b st => pI st fun a st => rgI a ∧ rgI b ∧ cats st ≤ 8 ∧ Z.2.1 ≤ mc ∧ Z.2.2 ≤ ms ∧ K ls (vI (min a b) :: st) Z M := h
  obtain ⟨b, st, rfl, hq1⟩ := pI_spec h
  obtain ⟨a, st, rfl, hq2⟩ := pI_spec hq1
  clear hq1 h
  obtain ⟨ra, rb, k1, k2, k3, h⟩ := hq2
  intro ad H locs als i1 i2 i3 i4 i5 i6 i7 i8 i9
  have hsz : c.maxLocals = als.size := by rw [hml, i6.1, i5]
  refine va_mmin hx hb hsz hown (hts _ hlink) (hts _ mz_math.2.2.1) (hts _ mz_sys.2.2.2) (hts _ mz_math.2.2.2) hR.1 (by rw [cvV_cats]; omega) (by rw [hRc]; exact k2) (by rw [hRs]; exact k3) hdg ?_
  have e1 : (if iN b < iN a then iN b else iN a) = iN (min a b) := by
    by_cases hab : b < a
    · rw [if_pos ((iN_lt rb ra).mpr hab), Int.min_eq_right (by omega)]
    · rw [if_neg (fun z => hab ((iN_lt rb ra).mp z)), Int.min_eq_left (by omega)]
  rw [e1]
  exact hK _ _ _ _ h ad H locs als i1 i2 i3 i4 i5 i6 i7 i8 i9
theorem sn_objinit {ix : Nat} (hlink : Cond.methodLink (cnOf o) ix objectInit ∈ mz_GW) (hml : c.maxLocals = nL) (hR : 1 ≤ R.frames ∧ 33 ≤ R.locals) (hown : s.vm.findClass (cnOf o) = some m.cls) (hts : ∀ w ∈ mz_GW, w.before args s = true) (hx : p.tables.exec = Jvm.exec) (hb : c.code = cc) (hdg : decode cc pc = .ok (.invokespecial ix, 3)) (hK : ∀ ls st Z M, K ls st Z M → SimS p l e R s m args below meth c Qf D cT A nL ad0 n0 (pc + 3) ls st Z M) (h : wpi C X mc ms J Rt (.invokespecial 1001) x K ls st Z M) : SimS p l e R s m args below meth c Qf D cT A nL ad0 n0 pc ls st Z M := by
  have h : pR st fun _ st => cats st ≤ 8 ∧ K ls st Z M := h
  obtain ⟨r, st, rfl, hq1⟩ := pR_spec h
  clear h
  obtain ⟨k1, h⟩ := hq1
  intro ad H locs als i1 i2 i3 i4 i5 i6 i7 i8 i9
  refine W.objInit hx hb hown (hts _ hlink) (hts _ mz_obj.1) (hts _ mz_obj.2) rfl (by show als.size = _; rw [hml, i6.1, i5]) rfl hdg hR.1 (by show 2 * 0 + _ + 12 ≤ _; rw [cvV_cats]; omega) ?_
  exact hK _ _ _ _ h ad H locs als i1 i2 i3 i4 i5 i6 i7 i8 i9
/-- behind a call -/
theorem call_go {z n k1 n1 : Nat} {ad : Nat → Nat} {H : Heap} {locs : List Loc} {als : Array Slot} {a : Array Value} {st0 : List Value} {ret : Option FieldType} (hA : ∀ q, s.heap.size ≤ q → A q) (hK : ∀ ls st Z M, K ls st Z M → SimS p l e R s m args below meth c Qf D cT A nL ad0 n0 (pc + 3) ls st Z M)
    (hrun : va_Run p l e R s m args below meth c H locs Z.2.1 Z.2.2 k1 n1 (F0 m pc als st0) ((st.drop n).map (cvV ad)) (QM D cT ret (fun r sh M' => (sh.length = Z.1.length ∨ (rfs (st.drop n) Z.1.length sh.length ∧ rfq ls Z.1.length sh.length)) ∧ K ls (r.toList ++ st.drop n) (sh, Z.2.1 + k1, Z.2.2 + n1) M') Z.1 ad (va_A (wsOf cT ad Z.1 M) H.size) a) (va_A (wsOf cT ad Z.1 M) H.size))
    (i1 : ∀ k, k < n0 ∨ Z.1.length ≤ k → ad k = ad0 k) (i2 : n0 ≤ Z.1.length) (i5 : ls.length = nL) (i6 : LocR ad ls als) (i8 : va_D A (wsOf cT ad Z.1 M)) (i9 : va_S A s.heap H locs) : W p l e R s m args below meth c H locs Z.2.1 Z.2.2 Qf (F0 m pc als st0) := by
  intro T hT XX
  obtain ⟨v, st₀, t, T', L, h0, X', hL, e1, e2, ⟨⟨r, sh', M', ad', hv, -, ⟨hlen, hk⟩, hag, hle, hmax, hwf, hP, hD⟩, hz, hkk⟩, hst⟩ := hrun T hT XX
  have hfree : ∀ q, va_A (wsOf cT ad Z.1 M) H.size q → A q := fun q hq => by
    rcases hq with ⟨k, el, hq⟩ | hq
    · exact i8.2 k _ hq
    · exact hA q (Nat.le_trans i9.1 hq)
  cases hv
  rw [h0] at hz hkk
  have hag2 : ∀ k, k < Z.1.length ∨ sh'.length ≤ k → ad' k = ad k := hag
  have hmv : (st.drop n).map (cvV ad') = (st.drop n).map (cvV ad) ∧ LocR ad' ls als := by
    rcases hlen with hlen | ⟨h1, h2⟩
    · have : ad' = ad := funext (fun k => hag k (by omega))
      rw [this]
      exact ⟨rfl, i6⟩
    · exact ⟨rfs_mv hag2 h1, i6.mv hag2 h2⟩
  have := hK _ _ _ _ hk ad' T'.heap (locs ++ L) als (fun k hk => by
    dsimp only at hk
    rw [hag k (by omega)]
    exact i1 k (by omega)) (by dsimp only; omega) hmax hwf i5 hmv.2 (by rw [e1]; exact hP) (hD.weaken (fun k q _ h => hfree q.1 h)) ⟨Nat.le_trans i9.1 (by rw [e1]; exact hz), fun q h1 h2 => by rw [e1, hkk q (Nat.lt_of_lt_of_le h1 i9.1) (fun z => h2 (hfree q z))]; exact i9.2.1 q h1 h2, fun q hq => by
      rcases List.mem_append.mp hq with h | h
      · exact i9.2.2 q h
      · exact hfree _ (hL q h)⟩ T' rfl X'
  obtain ⟨t2, a1, b1⟩ := this
  refine ⟨t2, hst t2 ?_, b1⟩
  have hstk : (r.toList ++ st.drop n).map (cvV ad') = (r.map (cvV ad')).toList ++ (st.drop n).map (cvV ad) := by
    rw [List.map_append, hmv.1]
    cases r <;> rfl
  rw [hstk] at a1
  exact a1
/-- the stack at a call -/
theorem take_rev {n : Nat} {a : List AV} (h : (st.take n).reverse = a) : st = a.reverse ++ st.drop n := by
  rw [← h, List.reverse_reverse, List.take_append_drop]
theorem call_pre {sh : List SC} {ad : Nat → Nat} {H : Heap} {av : List Value} {a : Array Value} (hKK : va_K D vwCl (tyL cT) s) (hE : ExW s) (hav : a = av.toArray) (i3 : sh.length ≤ 100000) (i4 : wfS sh) (i7 : va_P D vwCl (wsOf cT ad sh M) H) (i8 : va_D A (wsOf cT ad sh M)) : ∀ U : State, U.heap = H → s.WarmedH U.vm → va_Pc av (PM D cT sh M ad H.size) a U := by
  intro U hU hW
  exact ⟨hav, by rw [hU], i3, i4, by rw [hU]; exact i7, va_K.moved hW.alike hKK, i8.weaken (fun _ _ _ _ => trivial), hE.warm hW⟩
theorem good_ws {e : mz_E} (h : Cond.code e.1 e.2.1 e.2.2.1 e.2.2.2.1 ∈ mz_GW) : GoodIn mz_GW (Cond.code e.1 e.2.1 e.2.2.1 e.2.2.2.1 :: mz_GW) := by
  intro w hw
  rcases List.mem_cons.mp hw with rfl | hw
  · exact ⟨h, good_of_word rfl⟩
  · exact mz_goodIn w hw
theorem np_of {z : Nat} {ez : mz_E} (h : mz_T[z]? = some ez) : npOf z = if ez.2.2.2.2.1 = 0 then ez.2.2.2.2.2.2.1 else ez.2.2.2.2.2.2.1 + 1 := by unfold npOf; rw [h]
theorem kd_of {z : Nat} {ez : mz_E} (h : mz_T[z]? = some ez) : kdOf z = ez.2.2.2.2.1 := by unfold kdOf; rw [h]
theorem sn_static {ix z : Nat} {ez : mz_E} (hC : MetS l D cT d C) (hz : mz_T[z]? = some ez) (hlt : z < 163) (hkd : kdOf z = 0) (hlink : Cond.methodLink (cnOf o) ix ez.1 ∈ mz_GW) (hE : ExW s) (hml : c.maxLocals = nL) (hRc : R.cells = mc) (hRs : R.slots = ms) (hR : d + 1 ≤ R.frames ∧ 33 * (d + 1) ≤ R.locals) (hown : s.vm.findClass (cnOf o) = some m.cls) (hts : ∀ w ∈ mz_GW, w.before args s = true) (hKK : va_K D vwCl (tyL cT) s) (hA : ∀ q, s.heap.size ≤ q → A q) (hx : p.tables.exec = Jvm.exec) (hb : c.code = cc) (hdg : decode cc pc = .ok (.invokestatic ix, 3)) (hK : ∀ ls st Z M, K ls st Z M → SimS p l e R s m args below meth c Qf D cT A nL ad0 n0 (pc + 3) ls st Z M) (h : wpc C mc ms z (npOf z) K ls st Z M) : SimS p l e R s m args below meth c Qf D cT A nL ad0 n0 pc ls st Z M := by
  obtain ⟨h1, h2, k1, n1, h3, h4, h⟩ := h
  obtain ⟨hcode, hok⟩ := mz_T_get hz hlt
  obtain ⟨w1, w2, w3, w4, w5, w6, w7, w8, w9, w10⟩ := okM_spec hok
  rw [kd_of hz] at hkd
  have hnp : npOf z = ez.2.2.2.2.2.2.1 := by rw [np_of hz, if_pos hkd]
  intro ad H locs als i1 i2 i3 i4 i5 i6 i7 i8 i9
  have hM := hC z _ Z.1 M k1 n1 _ h ez hz hlt ad H.size
  refine call_go (n := npOf z) (z := z) hA hK (va_runS (As := ((st.take (npOf z)).reverse).map (cvV ad)) (nL := nL) (Ts := mz_GW) (n := npOf z) ⟨hx, hb, hml, hown, hts⟩ hM ⟨callB_of _ hts (good_ws hcode) rfl rfl rfl (hts _ w1) (hts _ hlink) ⟨w2, w3, by rw [w4, hnp]⟩ ⟨hR.1, by dsimp only; omega⟩, hts _ (w8 hkd)⟩ ⟨PM_blind, call_pre hKK hE rfl i3 i4 i7 i8⟩ rfl (by rw [List.length_map, List.length_reverse, List.length_take]; omega) (by show als.size = nL; rw [i6.1, i5]) ?_ (by show 2 * 0 + _ ≤ 8; rw [cvV_cats]; omega) hdg ⟨by rw [hRc]; exact h3, by rw [hRs]; exact h4⟩) i1 i2 i5 i6 i8 i9
  show st.map (cvV ad) = _
  rw [← List.map_reverse, ← List.map_append, List.reverse_reverse, List.take_append_drop]
theorem rev_cons {n : Nat} (hn : 1 ≤ n) (hl : n ≤ st.length) : ∃ v as, (st.take n).reverse = v :: as ∧ as.length = n - 1 ∧ st[n - 1]? = some v ∧ st = as.reverse ++ v :: st.drop n := by
  cases hr : (st.take n).reverse with
  | nil =>
    have := congrArg List.length hr
    rw [List.length_reverse, List.length_take] at this
    have h0 : min n st.length = 0 := this
    omega
  | cons v as =>
    have hlen : as.length = n - 1 := by
      have := congrArg List.length hr
      rw [List.length_reverse, List.length_take, List.length_cons] at this
      omega
    have hst := take_rev hr
    rw [List.reverse_cons, List.append_assoc, List.singleton_append] at hst
    refine ⟨v, as, rfl, hlen, ?_, hst⟩
    rw [hst, List.getElem?_append_right (by rw [List.length_reverse]; omega), List.length_reverse, hlen, Nat.sub_self]
    rfl
theorem sn_virtual {ix z : Nat} {ez : mz_E} (hC : MetS l D cT d C) (hz : mz_T[z]? = some ez) (hlt : z < 163) (hkd : kdOf z = 1) (hlink : Cond.methodLink (cnOf o) ix ez.1 ∈ mz_GW) (hE : ExW s) (hml : c.maxLocals = nL) (hRc : R.cells = mc) (hRs : R.slots = ms) (hR : d + 1 ≤ R.frames ∧ 33 * (d + 1) ≤ R.locals) (hown : s.vm.findClass (cnOf o) = some m.cls) (hts : ∀ w ∈ mz_GW, w.before args s = true) (hKK : va_K D vwCl (tyL cT) s) (hA : ∀ q, s.heap.size ≤ q → A q) (hx : p.tables.exec = Jvm.exec) (hb : c.code = cc) (hdg : decode cc pc = .ok (.invokevirtual ix, 3)) (hK : ∀ ls st Z M, K ls st Z M → SimS p l e R s m args below meth c Qf D cT A nL ad0 n0 (pc + 3) ls st Z M) (hrc : rcv Z.1 st (npOf z - 1) z) (h : wpc C mc ms z (npOf z) K ls st Z M) : SimS p l e R s m args below meth c Qf D cT A nL ad0 n0 pc ls st Z M := by
  obtain ⟨h1, h2, k1, n1, h3, h4, h⟩ := h
  obtain ⟨hcode, hok⟩ := mz_T_get hz hlt
  obtain ⟨w1, w2, w3, w4, w5, w6, w7, w8, w9, w10⟩ := okM_spec hok
  rw [kd_of hz] at hkd
  obtain ⟨w11, w12, cq, w13, w14⟩ := w9 hkd
  have hnp : npOf z = ez.2.2.2.2.2.2.1 + 1 := by rw [np_of hz, if_neg (by omega)]
  obtain ⟨v, as, r1, r2, r3, r4⟩ := rev_cons (st := st) (n := npOf z) (by omega) h1
  unfold rcv at hrc
  rw [r3, hz] at hrc
  obtain ⟨r, hv, hcl⟩ := gR_spec hrc
  cases hv
  obtain ⟨fs, hsh⟩ := cls_spec hcl
  rw [r1] at h
  intro ad H locs als i1 i2 i3 i4 i5 i6 i7 i8 i9
  have hM := hC z _ Z.1 M k1 n1 _ h ez hz hlt ad H.size
  refine call_go (n := npOf z) (z := z) hA hK (va_runV (As := as.map (cvV ad)) (b := ad r) (C := ez.1.cls) (nL := nL) (Ts := mz_GW) (n := ez.2.2.2.2.2.2.1) ⟨hx, hb, hml, hown, hts⟩ hM ⟨callB_of _ hts (good_ws hcode) rfl rfl rfl (hts _ w1) (hts _ hlink) ⟨w2, w3, w4⟩ ⟨hR.1, by dsimp only; omega⟩, hts _ w11, hts _ w12⟩ ⟨PM_blind, ?_, call_pre hKK hE rfl i3 i4 i7 i8⟩ rfl (by rw [List.length_map]; omega) (by show als.size = nL; rw [i6.1, i5]) ?_ (by show 2 * 0 + _ ≤ 8; rw [cvV_cats]; omega) hdg ⟨by rw [hRc]; exact h3, by rw [hRs]; exact h4⟩) i1 i2 i5 i6 i8 i9
  · rw [← w14]
    exact va_recv hKK i7 w13 (ws_obj hsh)
  · show st.map (cvV ad) = _
    rw [← List.map_reverse]
    conv => lhs; rw [r4]
    rw [List.map_append]
    rfl
theorem sn_special {ix z : Nat} {ez : mz_E} {qn : Nat} (hC : MetS l D cT d C) (hz : mz_T[z]? = some ez) (hlt : z < 163) (hkd : kdOf z = 2) (hlink : qn = 0 → Cond.methodLink (cnOf o) ix ez.1 ∈ mz_GW) (hnest : qn ≠ 0 → va_Nw (.methodLinkNest (cnOf o) ix ez.1 "OwnSunday") s) (hE : ExW s) (hml : c.maxLocals = nL) (hRc : R.cells = mc) (hRs : R.slots = ms) (hR : d + 1 ≤ R.frames ∧ 33 * (d + 1) ≤ R.locals) (hown : s.vm.findClass (cnOf o) = some m.cls) (hts : ∀ w ∈ mz_GW, w.before args s = true) (hKK : va_K D vwCl (tyL cT) s) (hA : ∀ q, s.heap.size ≤ q → A q) (hx : p.tables.exec = Jvm.exec) (hb : c.code = cc) (hdg : decode cc pc = .ok (.invokespecial ix, 3)) (hK : ∀ ls st Z M, K ls st Z M → SimS p l e R s m args below meth c Qf D cT A nL ad0 n0 (pc + 3) ls st Z M) (hrc : gR st[npOf z - 1]? (fun _ => True)) (h : wpc C mc ms z (npOf z) K ls st Z M) : SimS p l e R s m args below meth c Qf D cT A nL ad0 n0 pc ls st Z M := by
  obtain ⟨h1, h2, k1, n1, h3, h4, h⟩ := h
  obtain ⟨hcode, hok⟩ := mz_T_get hz hlt
  obtain ⟨w1, w2, w3, w4, w5, w6, w7, w8, w9, w10⟩ := okM_spec hok
  rw [kd_of hz] at hkd
  obtain ⟨w11, w12, w13⟩ := w10 hkd
  have hnp : npOf z = ez.2.2.2.2.2.2.1 + 1 := by rw [np_of hz, if_neg (by omega)]
  obtain ⟨v, as, r1, r2, r3, r4⟩ := rev_cons (st := st) (n := npOf z) (by omega) h1
  rw [r3] at hrc
  obtain ⟨r, hv, -⟩ := gR_spec hrc
  cases hv
  rw [r1] at h
  intro ad H locs als i1 i2 i3 i4 i5 i6 i7 i8 i9
  have hM := hC z _ Z.1 M k1 n1 _ h ez hz hlt ad H.size
  have hg := good_ws hcode
  rw [w13] at hM hg
  have hstk : (F0 m pc als (st.map (cvV ad))).stack = (as.map (cvV ad)).reverse ++ .ref (ad r) :: (st.drop (npOf z)).map (cvV ad) := by
    show st.map (cvV ad) = _
    rw [← List.map_reverse]
    conv => lhs; rw [r4]
    rw [List.map_append]
    rfl
  by_cases hqn : qn = 0
  · exact call_go (n := npOf z) (z := z) hA hK (va_runI (As := as.map (cvV ad)) (b := ad r) (nL := nL) (Ts := mz_GW) (n := ez.2.2.2.2.2.2.1) ⟨hx, hb, hml, hown, hts⟩ hM ⟨callB_of _ hts hg rfl rfl rfl (hts _ w1) (hts _ (hlink hqn)) ⟨w2, w3, w4⟩ ⟨hR.1, by dsimp only; omega⟩, w12, hts _ w11⟩ ⟨PM_blind, call_pre hKK hE rfl i3 i4 i7 i8⟩ rfl (by rw [List.length_map]; omega) (by show als.size = nL; rw [i6.1, i5]) hstk (by show 2 * 0 + _ ≤ 8; rw [cvV_cats]; omega) hdg ⟨by rw [hRc]; exact h3, by rw [hRs]; exact h4⟩) i1 i2 i5 i6 i8 i9
  · exact call_go (n := npOf z) (z := z) hA hK (va_runIN (As := as.map (cvV ad)) (b := ad r) (nL := nL) (Ts := mz_GW) (n := ez.2.2.2.2.2.2.1) (host := "OwnSunday") ⟨hx, hb, hml, hown, hts⟩ hM ⟨va_cnB _ hts hg rfl rfl rfl (hnest hqn) (hts _ w1) ⟨w2, w3, w4⟩ ⟨hR.1, by dsimp only; omega⟩, w12, hts _ w11⟩ ⟨PM_blind, call_pre hKK hE rfl i3 i4 i7 i8⟩ rfl (by rw [List.length_map]; omega) (by show als.size = nL; rw [i6.1, i5]) hstk (by show 2 * 0 + _ ≤ 8; rw [cvV_cats]; omega) hdg ⟨by rw [hRc]; exact h3, by rw [hRs]; exact h4⟩) i1 i2 i5 i6 i8 i9
end SND4

/-! what isn't among the words that ride along -/
theorem va_AOA.moved {t : FieldType} {u U : State} (hvm : u.vm.Alike U.vm) (h : va_AOA t u) : va_AOA t U := Jvm.Stand.arrayOver_alikeB hvm h
def ExW (U : State) : Prop := va_AO "OwnSunday$Book" U ∧ va_AOA .int U ∧ ∀ (o ix : Nat) (q : Nat × Nat × Nat) (e : mz_E), mz_L.lookup (o, ix) = some q → q.2.1 ≠ 0 → mz_T[q.1]? = some e → va_Nw (.methodLinkNest (cnOf o) ix e.1 "OwnSunday") U
theorem ExW.warm {s U : State} (hW : s.WarmedH U.vm) (h : ExW s) : ExW U := ⟨h.1.moved hW.alike, h.2.1.moved hW.alike, fun o ix q e h1 h2 h3 => va_Nw.warmM hW (h.2.2 o ix q e h1 h2 h3)⟩
theorem ExW.same {s U : State} (hv : s.vm = U.vm) (h : ExW s) : ExW U := ⟨h.1.moved (by rw [hv]; exact Vm.Alike.refl _), h.2.1.moved (by rw [hv]; exact Vm.Alike.refl _), fun o ix q e h1 h2 h3 => va_Nw.same rfl hv (h.2.2 o ix q e h1 h2 h3)⟩
theorem mz_mk : ∀ {ci : Nat} {q : vw_C}, vwCl[ci]? = some q → Cond.instantiable q.1 q.2.2 ∈ mz_GW ∧ Cond.initialized q.1 ∈ mz_GW ∧ (newF ci).length = q.2.2
  | 0, _, h => by cases h; exact ⟨List.mem_filter.mpr ⟨by decide +kernel, rfl⟩, List.mem_filter.mpr ⟨by decide +kernel, rfl⟩, rfl⟩
  | 1, _, h => by cases h; exact ⟨List.mem_filter.mpr ⟨by decide +kernel, rfl⟩, List.mem_filter.mpr ⟨by decide +kernel, rfl⟩, rfl⟩
  | 2, _, h => by cases h; exact ⟨List.mem_filter.mpr ⟨by decide +kernel, rfl⟩, List.mem_filter.mpr ⟨by decide +kernel, rfl⟩, rfl⟩
  | 3, _, h => by cases h; exact ⟨List.mem_filter.mpr ⟨by decide +kernel, rfl⟩, List.mem_filter.mpr ⟨by decide +kernel, rfl⟩, rfl⟩
  | 4, _, h => by cases h; exact ⟨List.mem_filter.mpr ⟨by decide +kernel, rfl⟩, List.mem_filter.mpr ⟨by decide +kernel, rfl⟩, rfl⟩
  | 5, _, h => by cases h; exact ⟨List.mem_filter.mpr ⟨by decide +kernel, rfl⟩, List.mem_filter.mpr ⟨by decide +kernel, rfl⟩, rfl⟩
  | 6, _, h => by cases h; exact ⟨List.mem_filter.mpr ⟨by decide +kernel, rfl⟩, List.mem_filter.mpr ⟨by decide +kernel, rfl⟩, rfl⟩
  | _ + 7, _, h => by cases h
def newV (ci : Nat) : List Value := (newF ci).mapIdx (fvV id (fun _ => 0))
theorem newV_eq (ad : Nat → Nat) : ∀ ci : Nat, (newF ci).mapIdx (fvV ad (fun _ => 0)) = newV ci
  | 0 => rfl
  | 1 => rfl
  | 2 => rfl
  | 3 => rfl
  | 4 => rfl
  | 5 => rfl
  | 6 => rfl
  | _ + 7 => rfl
theorem newV_ok : ∀ {ci : Nat}, ci < 7 → ∀ j, j < (newF ci).length → defaultValue (tyN ci j) = vp_V (newV ci) j
  | 0, _ => by decide +kernel
  | 1, _ => by decide +kernel
  | 2, _ => by decide +kernel
  | 3, _ => by decide +kernel
  | 4, _ => by decide +kernel
  | 5, _ => by decide +kernel
  | 6, _ => by decide +kernel
  | _ + 7, h => absurd h (by omega)
theorem newF_ref : ∀ (ci : Nat) {j q : Nat}, (newF ci)[j]? ≠ some (some (some q))
  | 0, j, q => fun h => by have := List.mem_of_getElem? h; simp [newF] at this
  | 1, j, q => fun h => by have := List.mem_of_getElem? h; simp [newF] at this
  | 2, j, q => fun h => by have := List.mem_of_getElem? h; simp [newF] at this
  | 3, j, q => fun h => by have := List.mem_of_getElem? h; simp [newF] at this
  | 4, j, q => fun h => by have := List.mem_of_getElem? h; simp [newF] at this
  | 5, j, q => fun h => by have := List.mem_of_getElem? h; simp [newF] at this
  | 6, j, q => fun h => by have := List.mem_of_getElem? h; simp [newF] at this
  | _ + 7, j, q => fun h => by have := List.mem_of_getElem? h; simp [newF] at this
theorem elV_ad {cT : Nat → ClassId} {ad ad' : Nat → Nat} {g : Nat → Int} {n : Nat} (h : ∀ q, q < n → ad' q = ad q) {x : SC} (hx : wfC n x) : elV cT ad' g x = elV cT ad g x := by
  match x, hx with
  | Sum.inl (t, k, f), hx =>
    have e1 : (fun j => (f j).map ad') = fun j => (f j).map ad := by
      funext j
      cases hf : f j with
      | none => rfl
      | some q => simp only [Option.map_some]; rw [h q (hx j q hf)]
    show eA cT ad' g (t, k, f) = eA cT ad g (t, k, f)
    unfold eA
    dsimp only
    rw [e1]
  | Sum.inr (ci, fs), hx =>
    show Sum.inr (ci, fs.mapIdx (fvV ad' g)) = (Sum.inr (ci, fs.mapIdx (fvV ad g)) : va_E)
    congr 2
    apply List.ext_getElem?
    intro j
    rw [List.getElem?_mapIdx, List.getElem?_mapIdx]
    cases hf : fs[j]? with
    | none => rfl
    | some z =>
      match z, hf with
      | none, _ => rfl
      | some none, _ => rfl
      | some (some q), hf => simp only [Option.map_some, fvV]; rw [h q (hx j q hf)]
theorem wfC_mono {n n' : Nat} (h : n ≤ n') {x : SC} (hx : wfC n x) : wfC n' x := by
  match x, hx with
  | Sum.inl a, hx => exact fun j q hq => Nat.lt_of_lt_of_le (hx j q hq) h
  | Sum.inr a, hx => exact fun j q hq => Nat.lt_of_lt_of_le (hx j q hq) h
theorem wfS_app {sh : List SC} {xs : List SC} (h : wfS sh) (hx : ∀ x ∈ xs, wfC (sh.length + xs.length) x) : wfS (sh ++ xs) := by
  intro k x hk
  rw [List.length_append]
  by_cases hl : k < sh.length
  · rw [List.getElem?_append_left hl] at hk
    exact wfC_mono (by omega) (h k x hk)
  · rw [List.getElem?_append_right (by omega)] at hk
    exact hx x (List.mem_of_getElem? hk)
def adN (ad : Nat → Nat) (n q : Nat) : Nat → Nat := fun k => if k = n then q else ad k
theorem adN_ne (ad : Nat → Nat) {n q k : Nat} (h : k ≠ n) : adN ad n q k = ad k := if_neg h
theorem adN_eq (ad : Nat → Nat) (n q : Nat) : adN ad n q n = q := if_pos rfl
theorem mnew_ne {M : MM} {n k : Nat} (h : k ≠ n) : mnew M n k = M k := by funext j; simp [mnew, h]
theorem mnew_at (M : MM) (n : Nat) : mnew M n n = fun _ => 0 := by funext j; simp [mnew]
section SND3
variable {p : Program} {l : Launch} {e : Env} {R : Room} {s : State} {m : MethodId} {args : Array Value} {below : List Frame} {meth : Method} {c : Code} {Qf : State → Prop} {D : va_G} {cT : Nat → ClassId} {A : Nat → Prop} {nL : Nat} {ad0 : Nat → Nat} {n0 : Nat}
variable {cc : ByteArray} {C : CC} {X : XX} {mc ms : Nat} {J : Nat → KK} {Rt : RR} {x : Int} {K : KK} {ls : AL} {st : List AV} {Z : ZZ} {M : MM} {pc len o : Nat}
/-- one cell more -/
theorem grow1 {ad : Nat → Nat} {sh : List SC} {y : SC} {el : va_E} {q : Nat} (hwf : wfS sh) (he : elV cT (adN ad sh.length q) (fun _ => 0) y = el) : wsOf cT (adN ad sh.length q) (sh ++ [y]) (mnew M sh.length) = wsOf cT ad sh M ++ [(q, el)] :=
  wsOf_app (fun k hk => mnew_ne (by omega)) (fun k hk => adN_ne ad (by omega)) (adN_eq ad _ q) (by rw [mnew_at]; exact he) (fun k x hx => elV_ad (n := sh.length) (fun z hz => adN_ne ad (by omega)) (hwf k x hx))
/-- on with one cell more -/
theorem on1 {k' : Nat} {y : SC} {el : va_E} {ad : Nat → Nat} {H1 : Heap} {locs : List Loc} {als : Array Slot} {q a b : Nat} (hK : ∀ ls st Z M, K ls st Z M → SimS p l e R s m args below meth c Qf D cT A nL ad0 n0 (pc + k') ls st Z M) (h : K ls (vR Z.1.length :: st) (Z.1 ++ [y], a, b) (mnew M Z.1.length))
    (i1 : ∀ k, k < n0 ∨ Z.1.length ≤ k → ad k = ad0 k) (i2 : n0 ≤ Z.1.length) (i3 : Z.1.length < 100000) (i4 : wfS Z.1) (i5 : ls.length = nL) (i6 : LocR ad ls als) (hrs : rfs st Z.1.length (Z.1.length + 1)) (hrl : rfq ls Z.1.length (Z.1.length + 1)) (hy : wfC (Z.1.length + 1) y)
    (he : elV cT (adN ad Z.1.length q) (fun _ => 0) y = el) (j7 : va_P D vwCl (wsOf cT ad Z.1 M ++ [(q, el)]) H1) (j8 : va_D A (wsOf cT ad Z.1 M ++ [(q, el)])) (j9 : va_S A s.heap H1 locs) :
    W p l e R s m args below meth c H1 locs a b Qf (F0 m (pc + k') als (.ref q :: st.map (cvV ad))) := by
  rw [← grow1 i4 he] at j7 j8
  have hag : ∀ k, k < Z.1.length ∨ Z.1.length + 1 ≤ k → adN ad Z.1.length q k = ad k := fun k hk => adN_ne ad (by omega)
  have := hK _ _ _ _ h (adN ad Z.1.length q) H1 locs als (fun k hk => by
    dsimp only at hk
    rw [List.length_append, List.length_singleton] at hk
    rw [adN_ne ad (by omega)]
    exact i1 k (by omega)) (by dsimp only; rw [List.length_append]; omega) (by dsimp only; rw [List.length_append, List.length_singleton]; omega) (wfS_app i4 (fun x hx => by rw [List.mem_singleton.mp hx]; exact hy)) i5 (i6.mv hag hrl) j7 j8 j9
  rw [List.map_cons, rfs_mv hag hrs] at this
  simp only [cvV, adN_eq] at this
  exact this
theorem sn_new {ix : Nat} {q : Nat × Nat} (hown : s.vm.findClass (cnOf o) = some m.cls) (hts : ∀ w ∈ mz_GW, w.before args s = true) (hKK : va_K D vwCl (tyL cT) s) (hA : ∀ q, s.heap.size ≤ q → A q) (hRc : R.cells = mc) (hRs : R.slots = ms) (hq : mz_C.lookup (o, ix) = some q) (hlt : q.1 < 7) (hx : p.tables.exec = Jvm.exec) (hb : c.code = cc) (hdg : decode cc pc = .ok (.new ix, 3)) (hK : ∀ ls st Z M, K ls st Z M → SimS p l e R s m args below meth c Qf D cT A nL ad0 n0 (pc + 3) ls st Z M) (h : wpi C X mc ms J Rt (.new q.1) x K ls st Z M) : SimS p l e R s m args below meth c Qf D cT A nL ad0 n0 pc ls st Z M := by
  obtain ⟨h1, h2, h3, h4, h5, hk⟩ := h
  rcases mz_C_get hq with ⟨h6, -⟩ | ⟨r, hr, hlink⟩
  · omega
  obtain ⟨m1, m2, m3⟩ := mz_mk hr
  intro ad H locs als i1 i2 i3 i4 i5 i6 i7 i8 i9
  rw [m3] at h2 hk
  refine va_new (ci := q.1) (fs := newV q.1) hx hb hts (mz_in hr) (tyN q.1) (mz_cl hr).1 hown (hts _ hlink) (hts _ m1) (hts _ m2) hKK i7 i8 i9 hA hr (fun j hj => newV_ok hlt j (by rw [m3]; exact hj)) (by rw [hRc]; exact h1) (by rw [hRs]; exact h2) hdg (fun q5 H1 j7 j8 j9 => ?_)
  refine on1 hK hk i1 i2 h5 i4 i5 i6 h3 h4 ?_ ?_ j7 j8 j9
  · exact fun j z hz => absurd hz (newF_ref q.1)
  · show eO _ _ _ = _
    unfold eO
    rw [newV_eq]
theorem arr_cls {cA : ClassId} {t : Nat} {ty : FieldType} (hKK : va_K D vwCl (tyL cT) s) (hty : (tyL cT)[t]? = some (cT t, ty)) (hK2 : va_K D vwCl (tyL cT ++ [(cA, ty)]) s) : cA = cT t := by
  have h1 := (hKK.2 t _ hty).2
  have h2 := (hK2.2 6 (cA, ty) rfl).2
  unfold va_RA at h1 h2
  cases ty with
  | object C =>
    obtain ⟨_, _, _, _, _, h1⟩ := h1
    obtain ⟨_, _, _, _, _, h2⟩ := h2
    exact Option.some.inj (h2.symm.trans h1)
  | _ => exact Option.some.inj (h2.symm.trans h1)
theorem iN_nn {n : Int} (h0 : 0 ≤ n) (h1 : n ≤ 100000) : ¬ iN n < 0 ∧ (iN n).toNatClampNeg = n.toNat := by
  refine ⟨fun h => ?_, Int32.toNatClampNeg_ofInt_of_le (by omega) (by omega)⟩
  rw [← iN_0, iN_lt ⟨by omega, by omega⟩ rgI_0] at h
  omega
theorem mz_ac : Cond.arrayClass .int ∈ mz_GW ∧ Cond.arrayClass .byte ∈ mz_GW ∧ Cond.arrayClass .boolean ∈ mz_GW ∧ Cond.arrayClass .long ∈ mz_GW :=
  ⟨List.mem_filter.mpr ⟨by decide +kernel, rfl⟩, List.mem_filter.mpr ⟨by decide +kernel, rfl⟩, List.mem_filter.mpr ⟨by decide +kernel, rfl⟩, List.mem_filter.mpr ⟨by decide +kernel, rfl⟩⟩
theorem sn_newarray {t : ArrayType} (hts : ∀ w ∈ mz_GW, w.before args s = true) (hKK : va_K D vwCl (tyL cT) s) (hA : ∀ q, s.heap.size ≤ q → A q) (hRc : R.cells = mc) (hRs : R.slots = ms) (hx : p.tables.exec = Jvm.exec) (hb : c.code = cc) (hdg : decode cc pc = .ok (.newarray t, 2)) (hK : ∀ ls st Z M, K ls st Z M → SimS p l e R s m args below meth c Qf D cT A nL ad0 n0 (pc + 2) ls st Z M) (h : wpi C X mc ms J Rt (.newarray t) x K ls st Z M) : SimS p l e R s m args below meth c Qf D cT A nL ad0 n0 pc ls st Z M := by
  obtain ⟨n, st, rfl, hq1⟩ := pI_spec h
  replace h := hq1
  obtain ⟨h0, hn0, hn1, h1, h2, h3, h4, h5, hk⟩ := h
  obtain ⟨hm1, hm2, hm3, hm4⟩ := mz_ac
  intro ad H locs als i1 i2 i3 i4 i5 i6 i7 i8 i9
  obtain ⟨hnn, hcl⟩ := iN_nn hn0 hn1
  have hsub : n.toNat ≤ 100000 := by omega
  cases t with
  | int =>
    refine va_newa (atype := .int) (a0 := (n.toNat, .inl (fun _ => 0))) hx hb (hts _ hm1) rfl hKK i7 i8 i9 hA (fun _ => rfl) hnn hcl (by show n.toNat * 4 ≤ _; omega) (by rw [hRc]; exact h1) (by rw [hRs]; exact h2) hdg (fun q cA H1 hK2 j7 j8 j9 => ?_)
    rw [arr_cls (t := 0) hKK rfl hK2] at j7 j8
    exact on1 hK hk i1 i2 h5 i4 i5 i6 h3 h4 (fun j z hz => by cases hz) rfl j7 j8 j9
  | byte =>
    refine va_newa (atype := .byte) (a0 := (n.toNat, .inl (fun _ => 0))) hx hb (hts _ hm2) rfl hKK i7 i8 i9 hA (fun _ => rfl) hnn hcl (by show n.toNat * 1 ≤ _; omega) (by rw [hRc]; exact h1) (by rw [hRs]; exact h2) hdg (fun q cA H1 hK2 j7 j8 j9 => ?_)
    rw [arr_cls (t := 1) hKK rfl hK2] at j7 j8
    exact on1 hK hk i1 i2 h5 i4 i5 i6 h3 h4 (fun j z hz => by cases hz) rfl j7 j8 j9
  | boolean =>
    refine va_newa (atype := .boolean) (a0 := (n.toNat, .inl (fun _ => 0))) hx hb (hts _ hm3) rfl hKK i7 i8 i9 hA (fun _ => rfl) hnn hcl (by show n.toNat * 1 ≤ _; omega) (by rw [hRc]; exact h1) (by rw [hRs]; exact h2) hdg (fun q cA H1 hK2 j7 j8 j9 => ?_)
    rw [arr_cls (t := 2) hKK rfl hK2] at j7 j8
    exact on1 hK hk i1 i2 h5 i4 i5 i6 h3 h4 (fun j z hz => by cases hz) rfl j7 j8 j9
  | long =>
    refine va_newa (atype := .long) (a0 := (n.toNat, .inr (.inl (fun _ => 0)))) hx hb (hts _ hm4) rfl hKK i7 i8 i9 hA (fun _ => rfl) hnn hcl (by show n.toNat * 8 ≤ _; omega) (by rw [hRc]; exact h1) (by rw [hRs]; exact h2) hdg (fun q cA H1 hK2 j7 j8 j9 => ?_)
    rw [arr_cls (t := 3) hKK rfl hK2] at j7 j8
    exact on1 hK hk i1 i2 h5 i4 i5 i6 h3 h4 (fun j z hz => by cases hz) rfl j7 j8 j9
  | _ => exact absurd h0 (by decide)
theorem sn_anewarray {ix k0 : Nat} {q : Nat × Nat} (hE : ExW s) (hown : s.vm.findClass (cnOf o) = some m.cls) (hts : ∀ w ∈ mz_GW, w.before args s = true) (hKK : va_K D vwCl (tyL cT) s) (hA : ∀ q, s.heap.size ≤ q → A q) (hRc : R.cells = mc) (hRs : R.slots = ms) (hq : mz_C.lookup (o, ix) = some q) (hlt : q.1 = 0) (hx : p.tables.exec = Jvm.exec) (hb : c.code = cc) (hdg : decode cc pc = .ok (.anewarray ix, 3)) (hK : ∀ ls st Z M, K ls st Z M → SimS p l e R s m args below meth c Qf D cT A nL ad0 n0 (pc + 3) ls st Z M) (h : wpi C X mc ms J Rt (.anewarray k0) x K ls st Z M) : SimS p l e R s m args below meth c Qf D cT A nL ad0 n0 pc ls st Z M := by
  obtain ⟨n, st, rfl, hq1⟩ := pI_spec h
  replace h := hq1
  obtain ⟨hn0, hn1, h1, h2, h3, h4, h5, hk⟩ := h
  rcases mz_C_get hq with ⟨h6, -⟩ | ⟨r, hr, hlink⟩
  · omega
  rw [hlt] at hr
  cases hr
  intro ad H locs als i1 i2 i3 i4 i5 i6 i7 i8 i9
  obtain ⟨hnn, hcl⟩ := iN_nn hn0 hn1
  refine va_newq (C := "OwnSunday$Book") hx hb hown (hts _ hlink) hE.1 hKK i7 i8 i9 hA hnn hcl (by omega) (by rw [hRc]; exact h1) (by rw [hRs]; exact h2) hdg (fun q cA H1 hK2 j7 j8 j9 => ?_)
  rw [arr_cls (t := 4) hKK rfl hK2] at j7 j8
  exact on1 hK hk i1 i2 h5 i4 i5 i6 h3 h4 (fun j z hz => by cases hz) rfl j7 j8 j9
theorem sn_multi {ix k0 k1 : Nat} {q : Nat × Nat} (hE : ExW s) (hown : s.vm.findClass (cnOf o) = some m.cls) (hts : ∀ w ∈ mz_GW, w.before args s = true) (hKK : va_K D vwCl (tyL cT) s) (hA : ∀ q, s.heap.size ≤ q → A q) (hRc : R.cells = mc) (hRs : R.slots = ms) (hq : mz_C.lookup (o, ix) = some q) (hlt : q.1 = 100) (hx : p.tables.exec = Jvm.exec) (hb : c.code = cc) (hdg : decode cc pc = .ok (.multianewarray ix 2, 4)) (hK : ∀ ls st Z M, K ls st Z M → SimS p l e R s m args below meth c Qf D cT A nL ad0 n0 (pc + 4) ls st Z M) (h : wpi C X mc ms J Rt (.multianewarray k0 k1) x K ls st Z M) : SimS p l e R s m args below meth c Qf D cT A nL ad0 n0 pc ls st Z M := by
  obtain ⟨k, st, rfl, hq1⟩ := pI_spec h
  obtain ⟨n, st, rfl, hq2⟩ := pI_spec hq1
  replace h := hq2
  obtain ⟨rfl, hn0, hn1, h1, h2, h3, h4, h5, hk⟩ := h
  have hlink : Cond.classLink (cnOf o) ix ("[" ++ (FieldType.array .int).toString) ∈ mz_GW := by
    rcases mz_C_get hq with ⟨h6, h7⟩ | ⟨r, hr, -⟩
    · exact h7
    · rw [hlt] at hr; cases hr
  intro ad H locs als i1 i2 i3 i4 i5 i6 i7 i8 i9
  obtain ⟨hnn, hcl⟩ := iN_nn hn0 hn1
  have hcy : s.vm.findClass (FieldType.array .int).toString = some (cT 0) := (hKK.2 0 _ rfl).2
  refine va_mna (X := wsOf cT ad Z.1 M) (L := []) (f := fun _ => .inl (cT 0, 0, .inl (fun _ => 0))) (ty := .int) (cy := cT 0) (N' := 2) (K' := k.toNat) (z := (k.toNat, .inl (fun _ => 0))) hx hb hown (hts _ hlink) hE.2.1 (hts _ mz_ac.1) hcy hKK (by rw [show va_pl [] _ = [] from rfl, List.append_nil]; exact i7) (by rw [show va_pl [] _ = [] from rfl, List.append_nil]; exact i8) i9 hA (by decide) hnn (by decide) hcl (by omega) (by show k.toNat * 4 ≤ _; omega) (by omega) rfl rfl (by rw [hRc]; exact h1) (by rw [hRs]; exact h2) (fun c => arrV_new _ _ _) hdg (fun q r cA H1 hr1 hr2 hK2 j7 j8 j9 => ?_)
  rw [arr_cls (t := 5) hKK rfl hK2] at j7 j8
  have hw : (wsOf cT ad Z.1 M ++ [(q, .inl (cT 5, 2, .inr (.inr (.inr (.inr (fun i => if i < 2 then some (r i) else none))))))]) ++ va_pl ([] ++ (List.range 2).map r) (vr_up (fun _ => .inl (cT 0, 0, .inl (fun _ => 0))) ((List.range 2).map r) (.inl (cT 0, k.toNat, .inl (fun _ => 0))))
      = wsOf cT (adN (adN (adN ad Z.1.length q) (Z.1.length + 1) (r 0)) (Z.1.length + 2) (r 1)) (Z.1 ++ [Sum.inl (5, 2, fun j => if j < 2 then some (Z.1.length + 1 + j) else none), Sum.inl (0, k.toNat, mz_nul), Sum.inl (0, k.toNat, mz_nul)]) (mnew (mnew (mnew M Z.1.length) (Z.1.length + 1)) (Z.1.length + 2)) := by
    have hpl : va_pl ([] ++ (List.range 2).map r) (vr_up (fun _ => .inl (cT 0, 0, .inl (fun _ => 0))) ((List.range 2).map r) (.inl (cT 0, k.toNat, .inl (fun _ => 0)))) = [(r 0, (.inl (cT 0, k.toNat, .inl (fun _ => 0)) : va_E)), (r 1, .inl (cT 0, k.toNat, .inl (fun _ => 0)))] := by
      simp [va_pl, List.range, List.range.loop, vr_up]
    rw [hpl]
    generalize hA2 : adN (adN (adN ad Z.1.length q) (Z.1.length + 1) (r 0)) (Z.1.length + 2) (r 1) = ad2
    have b0 : ∀ z, z < Z.1.length → ad2 z = ad z := fun z hz => by rw [← hA2, adN_ne _ (by omega), adN_ne _ (by omega), adN_ne _ (by omega)]
    have b1 : ad2 Z.1.length = q := by rw [← hA2, adN_ne _ (by omega), adN_ne _ (by omega), adN_eq]
    have b2 : ad2 (Z.1.length + 1) = r 0 := by rw [← hA2, adN_ne _ (by omega), adN_eq]
    have b3 : ad2 (Z.1.length + 2) = r 1 := by rw [← hA2, adN_eq]
    apply List.ext_getElem?
    intro z
    rw [wsOf_get, List.append_assoc, List.singleton_append]
    by_cases hz : z < Z.1.length
    · rw [List.getElem?_append_left (by rw [wsOf_len]; exact hz), List.getElem?_append_left hz, wsOf_get, mnew_ne (by omega), mnew_ne (by omega), mnew_ne (by omega), b0 z hz]
      cases hzx : Z.1[z]? with
      | none => rfl
      | some y => simp only [Option.map_some]; rw [elV_ad (n := Z.1.length) b0 (i4 z y hzx)]
    · rw [List.getElem?_append_right (by rw [wsOf_len]; omega), List.getElem?_append_right (by omega), wsOf_len]
      by_cases z0 : z = Z.1.length
      · subst z0
        rw [Nat.sub_self, b1]
        show some (q, _) = some (q, _)
        congr 2
        show (Sum.inl _ : va_E) = eA cT ad2 _ _
        unfold eA
        dsimp only
        rw [if_neg (by decide), if_neg (by decide)]
        congr 7
        funext i
        by_cases hi : i < 2
        · rw [if_pos hi, if_pos hi]
          match i, hi with
          | 0, _ => show _ = some (ad2 (Z.1.length + 1)); rw [b2]
          | 1, _ => show _ = some (ad2 (Z.1.length + 2)); rw [b3]
        · rw [if_neg hi, if_neg hi]; rfl
      · by_cases z1 : z = Z.1.length + 1
        · subst z1
          rw [show Z.1.length + 1 - Z.1.length = 1 by omega, b2, mnew_ne (by omega), mnew_at]
          rfl
        · by_cases z2 : z = Z.1.length + 2
          · subst z2
            rw [show Z.1.length + 2 - Z.1.length = 2 by omega, b3, mnew_at]
            rfl
          · rw [List.getElem?_eq_none (by simp; omega), List.getElem?_eq_none (by simp; omega)]
            rfl
  rw [hw] at j7 j8
  have hag : ∀ z, z < Z.1.length ∨ Z.1.length + 3 ≤ z → (adN (adN (adN ad Z.1.length q) (Z.1.length + 1) (r 0)) (Z.1.length + 2) (r 1)) z = ad z := fun z hz => by rw [adN_ne _ (by omega), adN_ne _ (by omega), adN_ne _ (by omega)]
  have := hK _ _ _ _ hk _ H1 locs als (fun z hz => by
    dsimp only at hz
    rw [List.length_append] at hz
    rw [hag z (by simp at hz; omega)]
    exact i1 z (by simp at hz; omega)) (by dsimp only; rw [List.length_append]; omega) (by dsimp only; rw [List.length_append]; exact h5) (wfS_app i4 (fun x hx => by
      rcases List.mem_cons.mp hx with rfl | hx
      · intro j z hz
        have hz : (if j < 2 then some (Z.1.length + 1 + j) else none) = some z := hz
        split at hz
        · cases hz; simp; omega
        · cases hz
      · rcases List.mem_cons.mp hx with rfl | hx
        · exact fun j z hz => by cases hz
        · rw [List.mem_singleton.mp hx]
          exact fun j z hz => by cases hz)) i5 (i6.mv hag h4) j7 j8 j9
  rw [List.map_cons, rfs_mv hag h3] at this
  have hq0 : cvV (adN (adN (adN ad Z.1.length q) (Z.1.length + 1) (r 0)) (Z.1.length + 2) (r 1)) (vR Z.1.length) = .ref q := by
    show Value.ref _ = _
    rw [adN_ne _ (by omega), adN_ne _ (by omega), adN_eq]
  rw [hq0] at this
  rw [show Z.2.2 + 2 + 2 * k.toNat = Z.2.2 + (2 + 2 * k.toNat) by omega]
  exact this
end SND3

/-! what the tables give -/
theorem lk_mem {β : Type} : ∀ {l : List ((Nat × Nat) × β)} {k : Nat × Nat} {v : β}, l.lookup k = some v → (k, v) ∈ l
  | [], _, _, h => by simp at h
  | (a, b) :: t, k, v, h => by
    rw [List.lookup_cons] at h
    by_cases hk : (k == a) = true
    · rw [hk] at h
      have hka : k = a := by simpa using hk
      cases h
      rw [hka]
      exact List.mem_cons_self
    · have hk2 : (k == a) = false := by simpa using hk
      rw [hk2] at h
      exact List.mem_cons_of_mem _ (lk_mem h)
theorem mz_in : ∀ {ci : Nat} {q : vw_C}, vwCl[ci]? = some q → ∀ w ∈ u_ws q.1 q.2.1 q.2.2, w ∈ mz_GW
  | 0, _, h => by cases h; exact fun w hw => List.mem_filter.mpr (mz_inX0 w hw)
  | 1, _, h => by cases h; exact fun w hw => List.mem_filter.mpr (mz_inX1 w hw)
  | 2, _, h => by cases h; exact fun w hw => List.mem_filter.mpr (mz_inX2 w hw)
  | 3, _, h => by cases h; exact fun w hw => List.mem_filter.mpr (mz_inX3 w hw)
  | 4, _, h => by cases h; exact fun w hw => List.mem_filter.mpr (mz_inX4 w hw)
  | 5, _, h => by cases h; exact fun w hw => List.mem_filter.mpr (mz_inX5 w hw)
  | 6, _, h => by cases h; exact fun w hw => List.mem_filter.mpr (mz_inX6 w hw)
  | _ + 7, _, h => by cases h
def tyN (ci : Nat) : Nat → FieldType := match ci with
  | 0 => tyX0
  | 1 => tyX1
  | 2 => tyX2
  | 3 => tyX3
  | 4 => tyX4
  | 5 => tyX5
  | _ => tyX6
theorem mz_cl : ∀ {ci : Nat} {q : vw_C}, vwCl[ci]? = some q → (∀ k, k < q.2.2 → parseFieldDescriptor (q.2.1 k).2.2.1 = some (tyN ci k)) ∧ (∀ a, a < q.2.2 → ∀ b, b < q.2.2 → a ≠ b → (q.2.1 a).2.1 ≠ (q.2.1 b).2.1)
  | 0, _, h => by cases h; exact ⟨tyX0_ok, nmX0⟩
  | 1, _, h => by cases h; exact ⟨tyX1_ok, nmX1⟩
  | 2, _, h => by cases h; exact ⟨tyX2_ok, nmX2⟩
  | 3, _, h => by cases h; exact ⟨tyX3_ok, nmX3⟩
  | 4, _, h => by cases h; exact ⟨tyX4_ok, nmX4⟩
  | 5, _, h => by cases h; exact ⟨tyX5_ok, nmX5⟩
  | 6, _, h => by cases h; exact ⟨tyX6_ok, nmX6⟩
  | _ + 7, _, h => by cases h
theorem mz_cn_cl : ∀ {ci : Nat} {q : vw_C}, vwCl[ci]? = some q → cnOf ci = q.1
  | 0, _, h => by cases h; rfl
  | 1, _, h => by cases h; rfl
  | 2, _, h => by cases h; rfl
  | 3, _, h => by cases h; rfl
  | 4, _, h => by cases h; rfl
  | 5, _, h => by cases h; rfl
  | 6, _, h => by cases h; rfl
  | _ + 7, _, h => by cases h
theorem cnOf_of {k : Nat} {own : String} (h : mz_cn[k]? = some own) : cnOf k = own := by unfold cnOf; rw [h]; rfl
theorem mz_F_get {o ix : Nat} {q : Nat × Nat × Nat} (h : mz_F.lookup (o, ix) = some q) : ∃ r : vw_C, vwCl[q.1]? = some r ∧ q.2.1 < r.2.2 ∧ Cond.fieldLink (cnOf o) ix (r.2.1 q.2.1).1 (r.2.1 q.2.1).2.1 (r.2.1 q.2.1).2.2.1 ∈ mz_GW := by
  have h1 := List.all_eq_true.mp mz_F_ok _ (lk_mem h)
  unfold mz_okF at h1
  dsimp only at h1
  cases ho : mz_cn[o]? with
  | none => rw [ho] at h1; simp at h1
  | some own =>
    cases hr : vwCl[q.1]? with
    | none => rw [ho, hr] at h1; simp at h1
    | some r =>
      rw [ho, hr] at h1
      obtain ⟨C, T, N⟩ := r
      dsimp only at h1
      rw [Bool.and_eq_true, decide_eq_true_eq, decide_eq_true_eq] at h1
      refine ⟨_, rfl, h1.1, ?_⟩
      rw [cnOf_of ho]
      exact mz_gw h1.2 rfl
theorem mz_C_get {o ix : Nat} {q : Nat × Nat} (h : mz_C.lookup (o, ix) = some q) : (q.1 = 100 ∧ Cond.classLink (cnOf o) ix ("[" ++ (FieldType.array .int).toString) ∈ mz_GW) ∨ ∃ r : vw_C, vwCl[q.1]? = some r ∧ Cond.classLink (cnOf o) ix r.1 ∈ mz_GW := by
  have h1 := List.all_eq_true.mp mz_C_ok _ (lk_mem h)
  unfold mz_okC at h1
  dsimp only at h1
  cases ho : mz_cn[o]? with
  | none => rw [ho] at h1; simp at h1
  | some own =>
    rw [ho] at h1
    dsimp only at h1
    rw [cnOf_of ho]
    by_cases h2 : q.1 = 100
    · rw [if_pos h2, decide_eq_true_eq] at h1
      exact Or.inl ⟨h2, mz_gw h1 rfl⟩
    · rw [if_neg h2] at h1
      cases hr : vwCl[q.1]? with
      | none => rw [hr] at h1; simp at h1
      | some r =>
        rw [hr] at h1
        dsimp only at h1
        rw [decide_eq_true_eq] at h1
        exact Or.inr ⟨r, rfl, mz_gw h1 rfl⟩
set_option maxRecDepth 100000 in
theorem mz_T_len : mz_T.length = 164 := rfl
theorem mz_T_get {y : Nat} {e : mz_E} (h : mz_T[y]? = some e) (hy : y < 163) : Cond.code e.1 e.2.1 e.2.2.1 e.2.2.2.1 ∈ mz_GW ∧ mz_okM e = true := by
  have h1 : mz_T.dropLast[y]? = some e := by
    rw [List.getElem?_dropLast, if_pos (by rw [mz_T_len]; exact hy)]
    exact h
  refine ⟨?_, List.all_eq_true.mp mz_T_ok e (List.mem_of_getElem? h1)⟩
  have h2 := congrArg (fun l => l[y]?) mz_T_code
  rw [List.getElem?_map, List.getElem?_map, h1] at h2
  exact mz_gw (Option.some.inj h2) rfl
theorem mz_L_get {o ix : Nat} {q : Nat × Nat × Nat} (h : mz_L.lookup (o, ix) = some q) : (q.1 = 1000 ∧ Cond.methodLink (cnOf o) ix arraycopyName ∈ mz_GW) ∨ (q.1 = 1002 ∧ Cond.methodLink (cnOf o) ix Lib.Math.max.name ∈ mz_GW) ∨ (q.1 = 1003 ∧ Cond.methodLink (cnOf o) ix Lib.Math.min.name ∈ mz_GW) ∨ (q.1 = 1001 ∧ Cond.methodLink (cnOf o) ix objectInit ∈ mz_GW) ∨
    ∃ e, mz_T[q.1]? = some e ∧ q.1 < 163 ∧ (q.2.1 = 0 → Cond.methodLink (cnOf o) ix e.1 ∈ mz_GW) ∧ (q.2.1 ≠ 0 → Cond.methodLinkNest (cnOf o) ix e.1 "OwnSunday" ∈ lw_tbl) := by
  have h1 := List.all_eq_true.mp mz_L_ok _ (lk_mem h)
  unfold mz_okL at h1
  dsimp only at h1
  cases ho : mz_cn[o]? with
  | none => rw [ho] at h1; simp at h1
  | some own =>
    rw [ho] at h1
    dsimp only at h1
    rw [cnOf_of ho]
    by_cases h2 : q.1 = 1000
    · rw [if_pos h2, Bool.and_eq_true, decide_eq_true_eq, decide_eq_true_eq] at h1
      exact Or.inl ⟨h2, mz_gw h1.2 rfl⟩
    rw [if_neg h2] at h1
    by_cases h3 : q.1 = 1002
    · rw [if_pos h3, Bool.and_eq_true, decide_eq_true_eq, decide_eq_true_eq] at h1
      exact Or.inr (Or.inl ⟨h3, mz_gw h1.2 rfl⟩)
    rw [if_neg h3] at h1
    by_cases h4 : q.1 = 1003
    · rw [if_pos h4, Bool.and_eq_true, decide_eq_true_eq, decide_eq_true_eq] at h1
      exact Or.inr (Or.inr (Or.inl ⟨h4, mz_gw h1.2 rfl⟩))
    rw [if_neg h4] at h1
    by_cases h5 : q.1 = 1001
    · rw [if_pos h5, Bool.and_eq_true, decide_eq_true_eq, decide_eq_true_eq] at h1
      exact Or.inr (Or.inr (Or.inr (Or.inl ⟨h5, mz_gw h1.2 rfl⟩)))
    rw [if_neg h5] at h1
    cases hr : mz_T[q.1]? with
    | none => rw [hr] at h1; simp at h1
    | some e =>
      rw [hr] at h1
      dsimp only at h1
      rw [Bool.and_eq_true, decide_eq_true_eq] at h1
      refine Or.inr (Or.inr (Or.inr (Or.inr ⟨e, rfl, h1.1, fun h6 => ?_, fun h6 => ?_⟩)))
      · have h7 := h1.2
        rw [if_pos h6, decide_eq_true_eq] at h7
        exact mz_gw h7 rfl
      · have h7 := h1.2
        rw [if_neg h6, decide_eq_true_eq] at h7
        exact List.mem_of_getElem? h7
section SND2
variable {p : Program} {l : Launch} {e : Env} {R : Room} {s : State} {m : MethodId} {args : Array Value} {below : List Frame} {meth : Method} {c : Code} {Qf : State → Prop} {D : va_G} {cT : Nat → ClassId} {A : Nat → Prop} {nL : Nat} {ad0 : Nat → Nat} {n0 : Nat}
variable {cc : ByteArray} {C : CC} {X : XX} {mc ms : Nat} {J : Nat → KK} {Rt : RR} {x : Int} {K : KK} {ls : AL} {st : List AV} {Z : ZZ} {M : MM} {pc len o : Nat}
theorem fld_at {sh : List SC} {r k ci : Nat} {fs : List (Option (Option Nat))} (h : sh[r]? = some (Sum.inr (ci, fs))) : fld sh r k = fs[k]? := by unfold fld; rw [h]
theorem ws_obj {ad : Nat → Nat} {sh : List SC} {r ci : Nat} {fs : List (Option (Option Nat))} (h : sh[r]? = some (Sum.inr (ci, fs))) : (wsOf cT ad sh M)[r]? = some (ad r, .inr (ci, fs.mapIdx (fvV ad (M r)))) := wsOf_at h
theorem sn_getfield {ix : Nat} {q : Nat × Nat × Nat} (hown : s.vm.findClass (cnOf o) = some m.cls) (hts : ∀ w ∈ mz_GW, w.before args s = true) (hKK : va_K D vwCl (tyL cT) s) (hq : mz_F.lookup (o, ix) = some q) (hx : p.tables.exec = Jvm.exec) (hb : c.code = cc) (hdg : decode cc pc = .ok (.getfield ix, 3)) (hK : ∀ ls st Z M, K ls st Z M → SimS p l e R s m args below meth c Qf D cT A nL ad0 n0 (pc + 3) ls st Z M) (h : wpi C X mc ms J Rt (.getfield q.2.1) (q.1 : Int) K ls st Z M) : SimS p l e R s m args below meth c Qf D cT A nL ad0 n0 pc ls st Z M := by
  obtain ⟨r, st, rfl, h⟩ := pR_spec h
  obtain ⟨hc, h⟩ := h
  obtain ⟨fs, hsh⟩ := cls_spec hc
  rw [Int.toNat_natCast] at hsh
  obtain ⟨w, hw, hk, hlink⟩ := mz_F_get hq
  rw [fld_at hsh] at h
  intro ad H locs als i1 i2 i3 i4 i5 i6 i7 i8 i9
  rcases gF_spec h with ⟨hf, h⟩ | ⟨z, hf, h⟩
  · exact va_get hx hb hts (mz_in hw) hown hKK i7 r (ws_obj hsh) hw q.2.1 hk (hts _ hlink) (fun _ h => h) (v := .int (iN (M r q.2.1))) (by rw [List.getElem?_mapIdx, hf]; rfl) hdg (hK _ _ _ _ h ad H locs als i1 i2 i3 i4 i5 i6 i7 i8 i9)
  · exact va_get hx hb hts (mz_in hw) hown hKK i7 r (ws_obj hsh) hw q.2.1 hk (hts _ hlink) (fun _ h => h) (v := .ref (ad z)) (by rw [List.getElem?_mapIdx, hf]; rfl) hdg (hK _ _ _ _ h ad H locs als i1 i2 i3 i4 i5 i6 i7 i8 i9)
theorem map_set {ad : Nat → Nat} {g : Nat → Int} {fs : List (Option (Option Nat))} {k : Nat} {a : Int} (hf : fs[k]? = some none) : fs.mapIdx (fvV ad (fun i => if i = k then a else g i)) = (fs.mapIdx (fvV ad g)).set k (.int (iN a)) := by
  apply List.ext_getElem?
  intro j
  rw [List.getElem?_mapIdx, List.getElem?_set, List.getElem?_mapIdx, List.length_mapIdx]
  by_cases hj : k = j
  · subst hj
    rw [hf, if_pos rfl, if_pos (List.getElem?_eq_some_iff.mp hf).1]
    simp [fvV]
  · rw [if_neg hj]
    congr 1
    funext z
    rcases z with _ | _ | z
    · simp [fvV, Ne.symm hj]
    · rfl
    · rfl
theorem sn_putfield {ix y : Nat} {q : Nat × Nat × Nat} (hown : s.vm.findClass (cnOf o) = some m.cls) (hts : ∀ w ∈ mz_GW, w.before args s = true) (hKK : va_K D vwCl (tyL cT) s) (hq : mz_F.lookup (o, ix) = some q) (hpf : pfK y q = some false) (hx : p.tables.exec = Jvm.exec) (hb : c.code = cc) (hdg : decode cc pc = .ok (.putfield ix, 3)) (hK : ∀ ls st Z M, K ls st Z M → SimS p l e R s m args below meth c Qf D cT A nL ad0 n0 (pc + 3) ls st Z M) (h : wpi C X mc ms J Rt (.putfield q.2.1) (q.1 : Int) K ls st Z M) : SimS p l e R s m args below meth c Qf D cT A nL ad0 n0 pc ls st Z M := by
  obtain ⟨a, st, rfl, h⟩ := pI_spec h
  obtain ⟨r, st, rfl, h⟩ := pR_spec h
  obtain ⟨hc, h⟩ := h
  obtain ⟨fs, hsh⟩ := cls_spec hc
  rw [Int.toNat_natCast] at hsh
  obtain ⟨w, hw, hk, hlink⟩ := mz_F_get hq
  rw [fld_at hsh] at h
  unfold pfK at hpf
  rw [hw] at hpf
  dsimp only at hpf
  split at hpf
  · rename_i hfin
    intro ad H locs als i1 i2 i3 i4 i5 i6 i7 i8 i9
    rcases gF_spec h with ⟨hf, h⟩ | ⟨z, hf, h⟩
    · refine va_put (v := .int (iN a)) (ty := .int) hx hb hts (mz_in hw) (tyN q.1) (mz_cl hw).1 (mz_cl hw).2 hown hKK i7 i8 i9 r (ws_obj hsh) hw q.2.1 hk (hts _ hlink) (fun _ h => h) hfin.2 (by rw [hfin.1]; decide +kernel) rfl rfl (by rw [List.length_mapIdx]; exact (List.getElem?_eq_some_iff.mp hf).1) hdg (fun H1 locs1 j7 j8 j9 => ?_)
      have e1 : wsOf cT ad Z.1 (mset M r q.2.1 a) = (wsOf cT ad Z.1 M).set r (ad r, .inr (q.1, (fs.mapIdx (fvV ad (M r))).set q.2.1 (.int (iN a)))) := by
        refine wsOf_set' hsh (fun k hk => mset_ne k hk) ?_

        rw [← map_set hf]
        show elV cT ad (mset M r q.2.1 a r) (Sum.inr (q.1, fs)) = _
        have : mset M r q.2.1 a r = fun i => if i = q.2.1 then a else M r i := funext (fun i => mset_at M r q.2.1 a i)
        rw [this]
        rfl
      rw [← e1] at j7 j8
      exact hK _ _ _ _ h ad H1 locs1 als i1 i2 i3 i4 i5 i6 j7 j8 j9
    · exact h.elim
  · split at hpf <;> cases hpf
theorem map_setR {ad : Nat → Nat} {g : Nat → Int} {fs : List (Option (Option Nat))} {k z : Nat} : (fs.set k (some (some z))).mapIdx (fvV ad g) = (fs.mapIdx (fvV ad g)).set k (.ref (ad z)) := by
  apply List.ext_getElem?
  intro j
  rw [List.getElem?_mapIdx, List.getElem?_set, List.getElem?_set, List.getElem?_mapIdx, List.length_mapIdx]
  by_cases hj : k = j
  · subst hj
    by_cases hl : k < fs.length
    · simp [hl, fvV]
    · simp [hl]
  · rw [if_neg hj, if_neg hj]
theorem wfS_setR {sh : List SC} (h : wfS sh) {r ci k z : Nat} {fs : List (Option (Option Nat))} (hsh : sh[r]? = some (Sum.inr (ci, fs))) (hz : z < sh.length) : wfS (sh.set r (Sum.inr (ci, fs.set k (some (some z))))) := by
  intro i x hx
  rw [List.length_set]
  rw [List.getElem?_set] at hx
  by_cases hi : r = i
  · rw [if_pos hi] at hx
    split at hx
    · cases hx
      intro j q hq
      have hq : (fs.set k (some (some z)))[j]? = some (some (some q)) := hq
      rw [List.getElem?_set] at hq
      split at hq
      · split at hq
        · cases hq; exact hz
        · cases hq
      · exact h r _ hsh j q hq
    · cases hx
  · rw [if_neg hi] at hx
    exact h i x hx
theorem sn_putref {ix y : Nat} {q : Nat × Nat × Nat} (hown : s.vm.findClass (cnOf o) = some m.cls) (hmn : nmOf y = "<init>" → meth.name = "<init>") (hyo : ownOf y = o) (hts : ∀ w ∈ mz_GW, w.before args s = true) (hKK : va_K D vwCl (tyL cT) s) (hq : mz_F.lookup (o, ix) = some q) (hpf : pfK y q = some true) (hx : p.tables.exec = Jvm.exec) (hb : c.code = cc) (hdg : decode cc pc = .ok (.putfield ix, 3)) (hK : ∀ ls st Z M, K ls st Z M → SimS p l e R s m args below meth c Qf D cT A nL ad0 n0 (pc + 3) ls st Z M) (h : wpi C X mc ms J Rt (.putstatic q.2.1) (q.1 : Int) K ls st Z M) : SimS p l e R s m args below meth c Qf D cT A nL ad0 n0 pc ls st Z M := by
  obtain ⟨z, st, rfl, hq1⟩ := pR_spec h
  obtain ⟨r, st, rfl, hq2⟩ := pR_spec hq1
  replace h := hq2
  obtain ⟨w, hw, hk, hlink⟩ := mz_F_get hq
  unfold pfK at hpf
  rw [hw] at hpf
  dsimp only at hpf
  split at hpf
  · cases hpf
  · split at hpf
    · rename_i hfin
      cases hz : Z.1[r]? with
      | none => rw [hz] at h; exact h.elim
      | some ob =>
        rw [hz] at h
        match ob, hz, h with
        | Sum.inl _, _, h => exact h.elim
        | Sum.inr (ci, fs), hz, h =>
          obtain ⟨h1, ⟨zz, h2⟩, h3, h⟩ := h
          dsimp only at h1 h2 h
          rw [Int.toNat_natCast] at h1
          subst h1
          intro ad H locs als i1 i2 i3 i4 i5 i6 i7 i8 i9
          have hro : isRefD (w.2.1 q.2.1).2.2.1 = true := hfin.2.2.2.2
          have key : ∃ ty, parseFieldDescriptor (w.2.1 q.2.1).2.2.1 = some ty ∧ narrow ty (.ref (ad z)) = .ref (ad z) ∧ fits ty (.ref (ad z)) = true := by
            unfold isRefD at hro
            split at hro
            · rename_i t ht; exact ⟨_, ht, rfl, rfl⟩
            · rename_i t ht; exact ⟨_, ht, rfl, rfl⟩
            · cases hro
          obtain ⟨ty, k1, k2, k3⟩ := key
          refine va_putF (v := .ref (ad z)) (ty := ty) hx hb hts (mz_in hw) (tyN q.1) (mz_cl hw).1 (mz_cl hw).2 hown hKK i7 i8 i9 r (ws_obj hz) hw q.2.1 hk (hts _ hlink) (fun _ h => h) hfin.1 (hmn hfin.2.1) (by rw [hfin.2.2.2.1, ← mz_cn_cl hw, hfin.2.2.1, hyo]) k1 k2 k3 (by rw [List.length_mapIdx]; exact (List.getElem?_eq_some_iff.mp h2).1) hdg (fun H1 locs1 j7 j8 j9 => ?_)
          have e1 : wsOf cT ad (Z.1.set r (Sum.inr (q.1, fs.set q.2.1 (some (some z))))) M = (wsOf cT ad Z.1 M).set r (ad r, .inr (q.1, (fs.mapIdx (fvV ad (M r))).set q.2.1 (.ref (ad z)))) := by
            refine wsOf_set hz (fun _ _ => rfl) ?_
            rw [← map_setR]
            rfl
          rw [← e1] at j7 j8
          have hl2 : (Z.1.set r (Sum.inr (q.1, fs.set q.2.1 (some (some z))) : SC)).length = Z.1.length := List.length_set
          exact hK _ _ _ _ h ad H1 locs1 als (by dsimp only; rw [hl2]; exact i1) (by dsimp only; rw [hl2]; exact i2) (by dsimp only; rw [hl2]; exact i3) (wfS_setR i4 hz h3) i5 i6 j7 j8 j9
    · cases hpf
/-! arrays -/
theorem ws_ar {ad : Nat → Nat} {sh : List SC} {r n : Nat} {f : Nat → Option Nat} {t : Nat} (h : arr sh r = some (t, n, f)) : (wsOf cT ad sh M)[r]? = some (ad r, eA cT ad (M r) (t, n, f)) := wsOf_at (arr_spec h)
theorem sn_iaload {b : Nat} (hKK : va_K D vwCl (tyL cT) s) (hX : ∀ q, X = some q → va_X b q.1 (fun j => iN (q.2 j)) s s.heap ∧ b < s.heap.size ∧ ¬ A b ∧ ad0 scr = b) (hx : p.tables.exec = Jvm.exec) (hb : c.code = cc) (hdg : decode cc pc = .ok (.iaload, 1)) (hK : ∀ ls st Z M, K ls st Z M → SimS p l e R s m args below meth c Qf D cT A nL ad0 n0 (pc + 1) ls st Z M) (h : wpi C X mc ms J Rt .iaload x K ls st Z M) : SimS p l e R s m args below meth c Qf D cT A nL ad0 n0 pc ls st Z M := by
  obtain ⟨j, st, rfl, hq1⟩ := pI_spec h
  obtain ⟨r, st, rfl, hq2⟩ := pR_spec hq1
  replace h := hq2
  intro ad H locs als i1 i2 i3 i4 i5 i6 i7 i8 i9
  by_cases hr : r = scr
  · rw [if_pos hr] at h
    subst hr
    match X, h, hX with
    | none, h, _ => exact h.elim
    | some q, h, hX =>
      obtain ⟨h1, h2, h⟩ := h
      obtain ⟨x1, x2, x3, x4⟩ := hX q rfl
      have hadb : ad scr = b := by rw [i1 scr (Or.inr (Nat.le_trans i3 (by decide))), x4]
      show W p l e R s m args below meth c H locs _ _ Qf (F0 m pc als (.int (iN j) :: .ref (ad scr) :: st.map (cvV ad)))
      rw [hadb]
      refine va_sld hx hb x1 x2 x3 i9 (iN_in h1 h2) hdg ?_
      rw [iN_clamp h1 h2]
      exact hK _ _ _ _ h ad H locs als i1 i2 i3 i4 i5 i6 i7 i8 i9
  · rw [if_neg hr] at h
    obtain ⟨t, n, f, ha, h1, h2, rfl, h⟩ := gA_spec h
    refine va_iald hx hb hKK i7 r 0 (ws_ar ha) rfl (iN_in h1 h2) hdg ?_
    rw [iN_clamp h1 h2]
    exact hK _ _ _ _ h ad H locs als i1 i2 i3 i4 i5 i6 i7 i8 i9
theorem sn_baload (hKK : va_K D vwCl (tyL cT) s) (hx : p.tables.exec = Jvm.exec) (hb : c.code = cc) (hdg : decode cc pc = .ok (.baload, 1)) (hK : ∀ ls st Z M, K ls st Z M → SimS p l e R s m args below meth c Qf D cT A nL ad0 n0 (pc + 1) ls st Z M) (h : wpi C X mc ms J Rt .baload x K ls st Z M) : SimS p l e R s m args below meth c Qf D cT A nL ad0 n0 pc ls st Z M := by
  obtain ⟨j, st, rfl, h⟩ := pI_spec h
  obtain ⟨r, st, rfl, h⟩ := pR_spec h
  intro ad H locs als i1 i2 i3 i4 i5 i6 i7 i8 i9
  obtain ⟨t, n, f, ha, h1, h2, ht, h⟩ := gA_spec h
  rcases ht with rfl | rfl
  · refine va_bald hx hb hKK i7 r 1 (ws_ar ha) rfl (iN_in h1 h2) hdg ?_
    rw [iN_clamp h1 h2]
    exact hK _ _ _ _ h ad H locs als i1 i2 i3 i4 i5 i6 i7 i8 i9
  · refine va_zald hx hb hKK i7 r 2 (ws_ar ha) rfl (iN_in h1 h2) hdg ?_
    rw [iN_clamp h1 h2]
    exact hK _ _ _ _ h ad H locs als i1 i2 i3 i4 i5 i6 i7 i8 i9
theorem sn_laload (hKK : va_K D vwCl (tyL cT) s) (hx : p.tables.exec = Jvm.exec) (hb : c.code = cc) (hdg : decode cc pc = .ok (.laload, 1)) (hK : ∀ ls st Z M, K ls st Z M → SimS p l e R s m args below meth c Qf D cT A nL ad0 n0 (pc + 1) ls st Z M) (h : wpi C X mc ms J Rt .laload x K ls st Z M) : SimS p l e R s m args below meth c Qf D cT A nL ad0 n0 pc ls st Z M := by
  obtain ⟨j, st, rfl, h⟩ := pI_spec h
  obtain ⟨r, st, rfl, h⟩ := pR_spec h
  intro ad H locs als i1 i2 i3 i4 i5 i6 i7 i8 i9
  obtain ⟨t, n, f, ha, h1, h2, rfl, h⟩ := gA_spec h
  refine va_lald hx hb hKK i7 r 3 (ws_ar ha) rfl (iN_in h1 h2) hdg ?_
  rw [iN_clamp h1 h2]
  exact hK _ _ _ _ h ad H locs als i1 i2 i3 i4 i5 i6 i7 i8 i9
theorem ald_ref {ws : va_W} {a : Nat} {H : Heap} {locs : List Loc} {cells slots : Nat} {als : Array Slot} {rest : List Value} {tys : List (ClassId × FieldType)} (hexec : p.tables.exec = Jvm.exec) (hb : c.code = cc) (hK : va_K D vwCl tys s) (hP : va_P D vwCl ws H) (q0 t0 : Nat) {cA : ClassId} {ty : FieldType} (href : ty.isReference = true) {n : Nat} {f : Nat → Option Nat} (ha : ws[q0]? = some (a, .inl (cA, n, .inr (.inr (.inr (.inr f)))))) (ht : tys[t0]? = some (cA, ty)) {i : Int32} (hin : vp_in i n) (hdg : decode cc pc = .ok (.aaload, 1))
    (kk : W p l e R s m args below meth c H locs cells slots Qf (F0 m (pc + 1) als (va_rf (f i.toNatClampNeg) :: rest))) : W p l e R s m args below meth c H locs cells slots Qf (F0 m pc als (.int i :: .ref a :: rest)) := by
  have hlt : i.toNatClampNeg < n := Nat.not_le.mp fun q => hin (Or.inr q)
  exact W.aald (v := va_rf (f i.toNatClampNeg)) (ty := ty) hexec hb (hP q0 _ ha) ((hK.2 t0 _ ht).1 n (fun j => va_rf (f j))) href (fun q => by cases q) (by show ¬ (i < 0 ∨ (arrV _ _ _).slots.size ≤ _); rw [arrV_size]; exact hin) (by show (arrV _ _ _).slots[_]? = _; rw [arrV_read _ _ hlt]) rfl rfl hdg kk
theorem sn_aaload (hKK : va_K D vwCl (tyL cT) s) (hx : p.tables.exec = Jvm.exec) (hb : c.code = cc) (hdg : decode cc pc = .ok (.aaload, 1)) (hK : ∀ ls st Z M, K ls st Z M → SimS p l e R s m args below meth c Qf D cT A nL ad0 n0 (pc + 1) ls st Z M) (h : wpi C X mc ms J Rt .aaload x K ls st Z M) : SimS p l e R s m args below meth c Qf D cT A nL ad0 n0 pc ls st Z M := by
  obtain ⟨j, st, rfl, h⟩ := pI_spec h
  obtain ⟨r, st, rfl, h⟩ := pR_spec h
  intro ad H locs als i1 i2 i3 i4 i5 i6 i7 i8 i9
  obtain ⟨t, n, f, ha, h1, h2, ht, h⟩ := gA_spec h
  obtain ⟨q, hq, h⟩ := gQ_spec h
  have hv : va_rf ((fun j => (f j).map ad) (iN j).toNatClampNeg) = .ref (ad q) := by
    show va_rf ((f (iN j).toNatClampNeg).map ad) = _
    rw [iN_clamp h1 h2, hq]
    rfl
  rcases ht with rfl | rfl
  · refine ald_ref hx hb hKK i7 r 4 (ty := .object "OwnSunday$Book") rfl (ws_ar ha) rfl (iN_in h1 h2) hdg ?_
    rw [hv]
    exact hK _ _ _ _ h ad H locs als i1 i2 i3 i4 i5 i6 i7 i8 i9
  · refine ald_ref hx hb hKK i7 r 5 (ty := .array .int) rfl (ws_ar ha) rfl (iN_in h1 h2) hdg ?_
    rw [hv]
    exact hK _ _ _ _ h ad H locs als i1 i2 i3 i4 i5 i6 i7 i8 i9
theorem mset_fun (M : MM) (r j : Nat) (a : Int) : mset M r j a r = fun i => if i = j then a else M r i := funext (fun i => mset_at M r j a i)
theorem upd_iN (g : Nat → Int) (j : Nat) (a : Int) : (fun i => iN (if i = j then a else g i)) = upd (fun i => iN (g i)) j (iN a) := by
  funext i
  unfold upd
  split <;> rfl
theorem upd_jN (g : Nat → Int) (j : Nat) (a : Int) : (fun i => jN (if i = j then a else g i)) = vp_updL (fun i => jN (g i)) j (jN a) := by
  funext i
  unfold vp_updL
  split <;> rfl
theorem sn_iastore (hKK : va_K D vwCl (tyL cT) s) (hx : p.tables.exec = Jvm.exec) (hb : c.code = cc) (hdg : decode cc pc = .ok (.iastore, 1)) (hK : ∀ ls st Z M, K ls st Z M → SimS p l e R s m args below meth c Qf D cT A nL ad0 n0 (pc + 1) ls st Z M) (h : wpi C X mc ms J Rt .iastore x K ls st Z M) : SimS p l e R s m args below meth c Qf D cT A nL ad0 n0 pc ls st Z M := by
  obtain ⟨a, st, rfl, h⟩ := pI_spec h
  obtain ⟨j, st, rfl, h⟩ := pI_spec h
  obtain ⟨r, st, rfl, h⟩ := pR_spec h
  intro ad H locs als i1 i2 i3 i4 i5 i6 i7 i8 i9
  obtain ⟨t, n, f, ha, h1, h2, rfl, h⟩ := gA_spec h
  refine va_iast hx hb hKK i7 i8 i9 r 0 (ws_ar ha) rfl (iN_in h1 h2) hdg (fun H1 locs1 j7 j8 j9 => ?_)
  rw [iN_clamp h1 h2, ← upd_iN] at j7 j8
  have e1 : wsOf cT ad Z.1 (mset M r j.toNat a) = (wsOf cT ad Z.1 M).set r (ad r, .inl (cT 0, n, .inl (fun i => iN (if i = j.toNat then a else M r i)))) := by
    refine wsOf_set' (arr_spec ha) (fun k hk => mset_ne k hk) ?_
    rw [mset_fun]
    rfl
  rw [← e1] at j7 j8
  exact hK _ _ _ _ h ad H1 locs1 als i1 i2 i3 i4 i5 i6 j7 j8 j9
theorem sn_bastore (hKK : va_K D vwCl (tyL cT) s) (hx : p.tables.exec = Jvm.exec) (hb : c.code = cc) (hdg : decode cc pc = .ok (.bastore, 1)) (hK : ∀ ls st Z M, K ls st Z M → SimS p l e R s m args below meth c Qf D cT A nL ad0 n0 (pc + 1) ls st Z M) (h : wpi C X mc ms J Rt .bastore x K ls st Z M) : SimS p l e R s m args below meth c Qf D cT A nL ad0 n0 pc ls st Z M := by
  obtain ⟨a, st, rfl, h⟩ := pI_spec h
  obtain ⟨j, st, rfl, h⟩ := pI_spec h
  obtain ⟨r, st, rfl, h⟩ := pR_spec h
  intro ad H locs als i1 i2 i3 i4 i5 i6 i7 i8 i9
  obtain ⟨t, n, f, ha, h1, h2, ht, h⟩ := gA_spec h
  rcases ht with rfl | ⟨rfl, hz⟩
  · rw [if_pos rfl] at h
    refine va_bast hx hb hKK i7 i8 i9 r 1 (ws_ar ha) rfl (iN_in h1 h2) hdg (fun H1 locs1 j7 j8 j9 => ?_)
    have hbb : vp_nar .byte (iN a) = iN (bByt a) := by rw [vp_nar_byte, bByt, iN_of]
    rw [iN_clamp h1 h2, hbb, ← upd_iN] at j7 j8
    have e1 : wsOf cT ad Z.1 (mset M r j.toNat (bByt a)) = (wsOf cT ad Z.1 M).set r (ad r, .inl (cT 1, n, .inl (fun i => iN (if i = j.toNat then bByt a else M r i)))) := by
      refine wsOf_set' (arr_spec ha) (fun k hk => mset_ne k hk) ?_
      rw [mset_fun]
      rfl
    rw [← e1] at j7 j8
    exact hK _ _ _ _ h ad H1 locs1 als i1 i2 i3 i4 i5 i6 j7 j8 j9
  · rw [if_neg (by decide)] at h
    refine va_zast hx hb hKK i7 i8 i9 r 2 (ws_ar ha) rfl (iN_in h1 h2) hdg (fun H1 locs1 j7 j8 j9 => ?_)
    have hbb : vp_nar .boolean (iN a) = iN a := by rcases hz with rfl | rfl <;> decide
    rw [iN_clamp h1 h2, hbb, ← upd_iN] at j7 j8
    have e1 : wsOf cT ad Z.1 (mset M r j.toNat a) = (wsOf cT ad Z.1 M).set r (ad r, .inl (cT 2, n, .inl (fun i => iN (if i = j.toNat then a else M r i)))) := by
      refine wsOf_set' (arr_spec ha) (fun k hk => mset_ne k hk) ?_
      rw [mset_fun]
      rfl
    rw [← e1] at j7 j8
    exact hK _ _ _ _ h ad H1 locs1 als i1 i2 i3 i4 i5 i6 j7 j8 j9
theorem sn_lastore (hKK : va_K D vwCl (tyL cT) s) (hx : p.tables.exec = Jvm.exec) (hb : c.code = cc) (hdg : decode cc pc = .ok (.lastore, 1)) (hK : ∀ ls st Z M, K ls st Z M → SimS p l e R s m args below meth c Qf D cT A nL ad0 n0 (pc + 1) ls st Z M) (h : wpi C X mc ms J Rt .lastore x K ls st Z M) : SimS p l e R s m args below meth c Qf D cT A nL ad0 n0 pc ls st Z M := by
  obtain ⟨a, st, rfl, h⟩ := pL_spec h
  obtain ⟨j, st, rfl, h⟩ := pI_spec h
  obtain ⟨r, st, rfl, h⟩ := pR_spec h
  intro ad H locs als i1 i2 i3 i4 i5 i6 i7 i8 i9
  obtain ⟨t, n, f, ha, h1, h2, rfl, h⟩ := gA_spec h
  refine va_last hx hb hKK i7 i8 i9 r 3 (ws_ar ha) rfl (iN_in h1 h2) hdg (fun H1 locs1 j7 j8 j9 => ?_)
  rw [iN_clamp h1 h2, ← upd_jN] at j7 j8
  have e1 : wsOf cT ad Z.1 (mset M r j.toNat a) = (wsOf cT ad Z.1 M).set r (ad r, .inl (cT 3, n, .inr (.inl (fun i => jN (if i = j.toNat then a else M r i))))) := by
    refine wsOf_set' (arr_spec ha) (fun k hk => mset_ne k hk) ?_
    rw [mset_fun]
    rfl
  rw [← e1] at j7 j8
  exact hK _ _ _ _ h ad H1 locs1 als i1 i2 i3 i4 i5 i6 j7 j8 j9
theorem wfS_setA {sh : List SC} (h : wfS sh) {r n z j : Nat} {f : Nat → Option Nat} (hsh : sh[r]? = some (Sum.inl (4, n, f))) (hz : z < sh.length) : wfS (sh.set r (Sum.inl (4, n, fun i => if i = j then some z else f i))) := by
  intro i x hx
  rw [List.length_set]
  rw [List.getElem?_set] at hx
  by_cases hi : r = i
  · rw [if_pos hi] at hx
    split at hx
    · cases hx
      intro i2 q hq
      have hq : (if i2 = j then some z else f i2) = some q := hq
      split at hq
      · cases hq; exact hz
      · exact h r _ hsh i2 q hq
    · cases hx
  · rw [if_neg hi] at hx
    exact h i x hx
theorem sn_aastore (hKK : va_K D vwCl (tyL cT) s) (hx : p.tables.exec = Jvm.exec) (hb : c.code = cc) (hdg : decode cc pc = .ok (.aastore, 1)) (hK : ∀ ls st Z M, K ls st Z M → SimS p l e R s m args below meth c Qf D cT A nL ad0 n0 (pc + 1) ls st Z M) (h : wpi C X mc ms J Rt .aastore x K ls st Z M) : SimS p l e R s m args below meth c Qf D cT A nL ad0 n0 pc ls st Z M := by
  obtain ⟨z, st, rfl, hq1⟩ := pR_spec h
  obtain ⟨j, st, rfl, hq2⟩ := pI_spec hq1
  obtain ⟨r, st, rfl, hq3⟩ := pR_spec hq2
  replace h := hq3
  intro ad H locs als i1 i2 i3 i4 i5 i6 i7 i8 i9
  cases ha : arr Z.1 r with
  | none => rw [ha] at h; exact h.elim
  | some q =>
    obtain ⟨t, n, f⟩ := q
    rw [ha] at h
    obtain ⟨rfl, h1, h2, hz, h⟩ := h
    obtain ⟨fs, hzs⟩ := cls_spec hz
    refine va_astq (r := (RX0, TX0, 7)) hx hb hKK i7 i8 i9 r 4 z 0 (ws_ar ha) rfl (ws_obj hzs) rfl (iN_in h1 h2) hdg (fun H1 locs1 j7 j8 j9 => ?_)
    rw [iN_clamp h1 h2] at j7 j8
    have e1 : wsOf cT ad (Z.1.set r (Sum.inl (4, n, fun z1 => if z1 = j.toNat then some z else f z1))) M = (wsOf cT ad Z.1 M).set r (ad r, .inl (cT 4, n, .inr (.inr (.inr (.inr (va_up (fun i => (f i).map ad) j.toNat (some (ad z)))))))) := by
      refine wsOf_set (arr_spec ha) (fun _ _ => rfl) ?_
      have : (fun i => (if i = j.toNat then some z else f i).map ad) = va_up (fun i => (f i).map ad) j.toNat (some (ad z)) := by
        funext i
        unfold va_up
        split <;> rfl
      rw [← this]
      rfl
    rw [← e1] at j7 j8
    have hl2 : (Z.1.set r (Sum.inl (4, n, fun z1 => if z1 = j.toNat then some z else f z1) : SC)).length = Z.1.length := List.length_set
    exact hK _ _ _ _ h ad H1 locs1 als (by dsimp only; rw [hl2]; exact i1) (by dsimp only; rw [hl2]; exact i2) (by dsimp only; rw [hl2]; exact i3) (wfS_setA i4 (arr_spec ha) (List.getElem?_eq_some_iff.mp hzs).1) i5 i6 j7 j8 j9
theorem tyL_at {t : Nat} (h : t < 6) : ∃ ty, (tyL cT)[t]? = some (cT t, ty) := by
  match t, h with
  | 0, _ => exact ⟨_, rfl⟩
  | 1, _ => exact ⟨_, rfl⟩
  | 2, _ => exact ⟨_, rfl⟩
  | 3, _ => exact ⟨_, rfl⟩
  | 4, _ => exact ⟨_, rfl⟩
  | 5, _ => exact ⟨_, rfl⟩
  | n + 6, h => omega
theorem sn_alen {b : Nat} (hKK : va_K D vwCl (tyL cT) s) (hX : ∀ q, X = some q → va_X b q.1 (fun j => iN (q.2 j)) s s.heap ∧ b < s.heap.size ∧ ¬ A b ∧ ad0 scr = b) (hx : p.tables.exec = Jvm.exec) (hb : c.code = cc) (hdg : decode cc pc = .ok (.arraylength, 1)) (hK : ∀ ls st Z M, K ls st Z M → SimS p l e R s m args below meth c Qf D cT A nL ad0 n0 (pc + 1) ls st Z M) (h : wpi C X mc ms J Rt .arraylength x K ls st Z M) : SimS p l e R s m args below meth c Qf D cT A nL ad0 n0 pc ls st Z M := by
  obtain ⟨r, st, rfl, hq1⟩ := pR_spec h
  replace h := hq1
  intro ad H locs als i1 i2 i3 i4 i5 i6 i7 i8 i9
  by_cases hr : r = scr
  · rw [if_pos hr] at h
    subst hr
    match X, h, hX with
    | none, h, _ => exact h.elim
    | some q, h, hX =>
      obtain ⟨h2, h⟩ := h
      obtain ⟨x1, x2, x3, x4⟩ := hX q rfl
      have hadb : ad scr = b := by rw [i1 scr (Or.inr (Nat.le_trans i3 (by decide))), x4]
      show W p l e R s m args below meth c H locs _ _ Qf (F0 m pc als (.ref (ad scr) :: st.map (cvV ad)))
      rw [hadb]
      refine va_slen hx hb x1 x2 x3 i9 hdg ?_
      rw [← Int32.ofInt_eq_ofNat]
      exact hK _ _ _ _ h ad H locs als i1 i2 i3 i4 i5 i6 i7 i8 i9
  · rw [if_neg hr] at h
    cases ha : arr Z.1 r with
    | none => rw [ha] at h; exact h.elim
    | some q =>
      obtain ⟨t, n, f⟩ := q
      rw [ha] at h
      obtain ⟨ht, h2, h⟩ := h
      obtain ⟨ty, hty⟩ := tyL_at (cT := cT) ht
      refine va_alen hx hb hKK i7 r t (ws_ar ha) hty (v := iN n) (Int32.ofInt_eq_ofNat).symm hdg ?_
      exact hK _ _ _ _ h ad H locs als i1 i2 i3 i4 i5 i6 i7 i8 i9
end SND2

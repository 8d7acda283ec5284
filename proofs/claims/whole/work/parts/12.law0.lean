/-! THE CLAIM OUT OF ONE WALK OF THE LAW'S BODY. Your part is whole_start (and what it stands on); all else here is the same for every law, but numbers. -/
def R_law : String := "OwnSundayLaw"
def lw_P (b : Addr) (xs : List Int32) (args : Array Value) (s : State) : Prop := args = #[.ref b] ∧ s.IntsAt b xs ∧ xs.length ≤ 3072 ∧ (Jvm.Cond.and given_1 narrow_1).before args s = true
def lw_Q (_ : Array Value) (s : State) (o : Outcome) (t : State) : Prop := o = .returned (some (.int 1)) ∧ Framed s o t [] 600000 7302250
def lw_Z (below : List Frame) (a : Array Value) (s : State) : State → Prop := fun t => ∃ o, t.status = .running ∧ Ended t below o ∧ lw_Q a s o t
/-- the law's own end, with 1 on the stack, nothing written that was there before, its room as the claim has it -/
theorem lw_ret {p : Program} {l : Launch} {e : Env} {s : State} {m : MethodId} {below : List Frame} {meth : Method} {c : Code} {b : Nat} (hx : p.tables.exec = Jvm.exec) (hb : c.code = code) (hr : meth.sig.returnType = ret) (hlocks : meth.locks = false) {pc : Nat} {H : Heap} {ls : Array Slot} (hdg : decode code pc = .ok (.ireturn, 1)) : W p l e room_1 s m #[Value.ref b] below meth c H [] 600000 7302250 (lw_Z below #[Value.ref b] s) (F0 m pc ls [.int 1]) := by
  intro T hT X
  obtain ⟨fs, hret, hrun, hended, hW, hframe⟩ := X.leave (v := some (.int 1)) (hlocks := hlocks) (fun h => by rw [hr] at h; cases h)
  have hmeth' : T.vm.method? m = some meth := X.method'
  refine ⟨T.setFrames fs, ?_, .returned (some (.int 1)), hrun, hended, rfl, ⟨_, rfl⟩, hW, hframe⟩
  jvm_step X.here [X.here.top, hx, hb, hdg, hmeth', hr, ret, narrow_b1]
  (try refine ⟨rfl, ?_⟩); (try refine ⟨rfl, ?_⟩)
  first | (intro acts; rw [hret _ acts rfl rfl rfl]) | rw [hret _ _ rfl rfl rfl]
  exact Steps.refl _
/-- what holds at the law's entry: the machine, the code, the tables' words (any of lw_tbl by 'hts w (by decide +kernel)'), the script of L ints xs at the cell b, what the Statement gives of the start (any of its parts by flat_of_before) -/
def lw_At (p : Program) (s : State) (m : MethodId) (meth : Method) (c : Code) (b L : Nat) (xs : Nat → Int32) : Prop :=
  p.tables.exec = Jvm.exec ∧ c.code = code ∧ meth.sig.returnType = ret ∧ c.maxLocals = 4 ∧ s.vm.findClass R_law = some m.cls ∧ (∀ w ∈ lw_tbl, w.before #[Value.ref b] s = true) ∧ va_X b L xs s s.heap ∧ b < s.heap.size ∧ meth.locks = false ∧ (Jvm.Cond.and given_1 narrow_1).before #[Value.ref b] s = true
def RtL : RR := fun r Z _ => r = some (vI 1) ∧ Z.2.1 ≤ 600000 ∧ Z.2.2 ≤ 7302250
/-- the law in the small machine, from its entry -/
def LawOK (L : Nat) (xs : Nat → Int) : Prop := ∀ S : Nat → KK, Clo (Run 9) 163 (some (L, xs)) 600000 7302250 RtL S → S 0 [some (vR scr), none, none, none] [] ([], 0, 0) (fun _ _ => 0)
set_option maxRecDepth 100000 in
theorem mz_law : mz_T[163]? = some (yL_law, cL_law, 4, some .boolean, 0, 7, 1, 0, 0, 0, 61) := rfl
theorem cn_7 : cnOf 7 = R_law := rfl
set_option maxHeartbeats 4000000 in
set_option maxRecDepth 100000 in
theorem start_of {p : Program} {e : Env} {s : State} {m : MethodId} {below : List Frame} {meth : Method} {c : Code} (l : Launch) {b L : Nat} {xs : Nat → Int32} (hrun : LawOK L (fun j => (xs j).toInt)) (C0 : lw_At p s m meth c b L xs) : W p l e room_1 s m #[Value.ref b] below meth c s.heap [] 0 0 (lw_Z below #[Value.ref b] s) (entryFrame m ([Value.ref b] : List Value).toArray 4) := by
  obtain ⟨hx, hb, hr, hml, hown, hts0, hX, hbl, hlocks, hgv⟩ := id C0
  have hts : ∀ w ∈ mz_GW, w.before #[Value.ref b] s = true := fun w hw => hts0 w (List.mem_filter.mp hw).1
  have hA : ∀ q : Nat, s.heap.size ≤ q → (fun q : Nat => s.heap.size ≤ q) q := fun _ h => h
  have hbA : ¬ (fun q : Nat => s.heap.size ≤ q) b := Nat.not_le.mpr hbl
  have hKn : ∀ (ci : Nat), ∃ (cC : ClassId) (iS : Nat → Nat), ∀ q : vw_C, vwCl[ci]? = some q → u_Kn s q.1 q.2.1 q.2.2 cC iS := by
    intro ci
    cases hq : vwCl[ci]? with
    | none => exact ⟨0, fun _ => 0, fun q h => by cases h⟩
    | some q =>
      obtain ⟨cC, iS, h⟩ := u_known (C := q.1) (T := q.2.1) (N := q.2.2) (n := q.2.2) hts (mz_in hq) (hts _ (mz_mk hq).1)
      exact ⟨cC, iS, fun q2 h2 => by cases h2; exact h⟩
  have hArr : ∀ (k : Nat), ∃ cA : ClassId, ∀ ty : FieldType, (tyL (fun _ => 0))[k]? = some (0, ty) → ArrOfT s cA ty ∧ va_RA s cA ty := by
    intro k
    match k with
    | 0 =>
      obtain ⟨cA, kA, comp, h1, h2, h3⟩ := Cond.arrayClass_spec (hts _ mz_ac.1)
      exact ⟨cA, fun ty h => by cases h; exact ⟨fun n z => ⟨fun k h => (by cases h), kA, h2, comp, h3⟩, h1⟩⟩
    | 1 =>
      obtain ⟨cA, kA, comp, h1, h2, h3⟩ := Cond.arrayClass_spec (hts _ mz_ac.2.1)
      exact ⟨cA, fun ty h => by cases h; exact ⟨fun n z => ⟨fun k h => (by cases h), kA, h2, comp, h3⟩, h1⟩⟩
    | 2 =>
      obtain ⟨cA, kA, comp, h1, h2, h3⟩ := Cond.arrayClass_spec (hts _ mz_ac.2.2.1)
      exact ⟨cA, fun ty h => by cases h; exact ⟨fun n z => ⟨fun k h => (by cases h), kA, h2, comp, h3⟩, h1⟩⟩
    | 3 =>
      obtain ⟨cA, kA, comp, h1, h2, h3⟩ := Cond.arrayClass_spec (hts _ mz_ac.2.2.2)
      exact ⟨cA, fun ty h => by cases h; exact ⟨fun n z => ⟨fun k h => (by cases h), kA, h2, comp, h3⟩, h1⟩⟩
    | 4 =>
      obtain ⟨comp, cA, kA, h1, h2, h3, h4, h5⟩ := Cond.arrayOver_spec (hts0 (Cond.arrayOver (.object "OwnSunday$Book")) (by decide +kernel))
      exact ⟨cA, fun ty h => by cases h; exact ⟨fun n z => ⟨fun k h => (by cases h), kA, h3, comp, h4⟩, kA, comp, h3, h4, h1, h5⟩⟩
    | 5 =>
      obtain ⟨comp, cA, kA, h1, h2, h3, h4, h5⟩ := Jvm.Stand.arrayOver_specB (hts0 (Cond.arrayOver (.array .int)) (by decide +kernel))
      exact ⟨cA, fun ty h => by cases h; exact ⟨fun n z => ⟨fun k h => (by cases h), kA, h3, comp, h4⟩, h5⟩⟩
    | k + 6 => exact ⟨0, fun ty h => by cases h⟩
  obtain ⟨D, hD1⟩ : ∃ D : va_G, ∀ (ci : Nat) (q : vw_C), vwCl[ci]? = some q → u_Kn s q.1 q.2.1 q.2.2 (D.1 ci) (D.2 ci) :=
    ⟨(fun ci => Classical.choose (hKn ci), fun ci => Classical.choose (Classical.choose_spec (hKn ci))), fun ci q hq => Classical.choose_spec (Classical.choose_spec (hKn ci)) q hq⟩
  obtain ⟨cT, hcT⟩ : ∃ cT : Nat → ClassId, ∀ (k : Nat) (ty : FieldType), (tyL (fun _ => 0))[k]? = some (0, ty) → ArrOfT s (cT k) ty ∧ va_RA s (cT k) ty :=
    ⟨fun k => Classical.choose (hArr k), fun k ty h => Classical.choose_spec (hArr k) ty h⟩
  have hKK : va_K D vwCl (tyL cT) s := by
    refine ⟨hD1, fun k q hq => ?_⟩
    match k, hq with
    | 0, hq => cases hq; exact hcT 0 _ rfl
    | 1, hq => cases hq; exact hcT 1 _ rfl
    | 2, hq => cases hq; exact hcT 2 _ rfl
    | 3, hq => cases hq; exact hcT 3 _ rfl
    | 4, hq => cases hq; exact hcT 4 _ rfl
    | 5, hq => cases hq; exact hcT 5 _ rfl
    | k + 6, hq => cases hq
  have hE : ExW s := ⟨va_AO.of (hts0 (Cond.arrayOver (.object "OwnSunday$Book")) (by decide +kernel)), va_AOA.of (hts0 (Cond.arrayOver (.array .int)) (by decide +kernel)), fun o ix q e h1 h2 h3 => by
    rcases mz_L_get h1 with ⟨g1, g2⟩ | ⟨g1, g2⟩ | ⟨g1, g2⟩ | ⟨g1, g2⟩ | ⟨ez, g1, g2, g3, g4⟩
    · rw [g1] at h3; cases h3
    · rw [g1] at h3; cases h3
    · rw [g1] at h3; cases h3
    · rw [g1] at h3; cases h3
    · rw [g1] at h3
      cases h3
      exact va_Nw.of rfl (hts0 _ (g4 h2))⟩
  have hmb : mbOf 163 = code := by unfold mbOf; rw [mz_law]
  have hml0 : mlOf 163 = 4 := by unfold mlOf; rw [mz_law]
  have hmo : ownOf 163 = 7 := by unfold ownOf; rw [mz_law]
  have hclo : Clo (Run 9) 163 (some (L, fun j => (xs j).toInt)) 600000 7302250 RtL (SimS p l e room_1 s m #[Value.ref b] below meth c (lw_Z below #[Value.ref b] s) D cT (fun q : Nat => s.heap.size ≤ q) (mlOf 163) (fun _ => b) 0) := by
    refine clo_ok (b := b) (d := 9) hx (by rw [hmb]; exact hb) (by rw [hml0]; exact hml) (by rw [hmo, cn_7]; exact hown) hts hKK hA hE rfl rfl ⟨by decide, by decide⟩ (fun h => by
      unfold nmOf at h
      rw [mz_law] at h
      exact absurd h (by decide)) (fun q hq => by
      cases hq
      refine ⟨?_, hbl, hbA, rfl⟩
      have : (fun j => iN ((xs j).toInt)) = xs := funext (fun j => iN_of _)
      show va_X b L (fun j => iN ((xs j).toInt)) s s.heap
      rw [this]
      exact hX) (met_run l D cT 9) ?_ ?_ ?_
    · intro v Z M' pc ad' H locs als hR hI hdg
      obtain ⟨g1, g2, g3⟩ := hR
      cases g1
      obtain ⟨j1, j2, j3, j4, j7, j8, j9⟩ := hI
      refine va_forget (fun q hq => j9.2.2 q hq) ?_
      refine W.widen g2 g3 ?_
      rw [hmb] at hdg
      exact lw_ret hx hb hr hlocks hdg
    · intro v Z M' pc ad' H locs als hR
      cases hR.1
    · intro Z M' pc ad' H locs als hR
      cases hR.1
  have hS0 := hrun _ hclo (fun _ => b) s.heap [] ((lg_sl [Value.ref b] ++ List.replicate (4 - (lg_sl [Value.ref b]).length) Slot.unset).toArray) (fun k _ => rfl) (Nat.le_refl _) (by decide) (fun k x h => by simp at h) (by rw [hml0]; rfl) (ent_loc (fun _ => b) [vR scr] (n := 4) (by decide)) (fun k q h => by simp [wsOf] at h) ⟨fun i j p q h => by simp [wsOf] at h, fun k q h => by simp [wsOf] at h⟩ va_S.rf
  rw [lg_entry_eq]
  exact hS0

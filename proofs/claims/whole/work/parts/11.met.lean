/-! a method that runs in the small machine meets its contract in the machine itself -/
theorem lg_len (ad : Nat → Nat) : ∀ a : List AV, (lg_sl (a.map (cvV ad))).length = cats a
  | [] => rfl
  | v :: t => by
    have := lg_len ad t
    unfold lg_sl at this ⊢
    rw [List.map_cons, List.flatMap_cons, List.length_append, this, cats]
    congr 1
    rcases v with a | a | a <;> rfl
theorem sls_len : ∀ a : List AV, (sls a).length = cats a
  | [] => rfl
  | v :: t => by
    have := sls_len t
    rcases v with a | a | a <;> simp [sls, cats, cat, is2, this] <;> omega
theorem sls_args (ad : Nat → Nat) : ∀ (a : List AV) (n i k : Nat) (u : AV), lget (sls a ++ List.replicate n none) k = some u → (i + k, cvV ad u) ∈ lv_args i (a.map (cvV ad))
  | [], n, i, k, u, h => by
    exfalso
    have : ∀ (n k : Nat), lget (List.replicate n none) k = none := by
      intro n
      induction n with
      | zero => intro k; rfl
      | succ n ih => intro k; cases k with
        | zero => rfl
        | succ k => exact ih k
    rw [show sls [] = [] from rfl, List.nil_append, this] at h
    cases h
  | Sum.inl a :: t, n, i, 0, u, h => by cases h; exact List.mem_cons_self
  | Sum.inl a :: t, n, i, k + 1, u, h => by
    have := sls_args ad t n (i + 1) k u h
    rw [show i + 1 + k = i + (k + 1) by omega] at this
    exact List.mem_cons_of_mem _ this
  | Sum.inr (Sum.inr a) :: t, n, i, 0, u, h => by cases h; exact List.mem_cons_self
  | Sum.inr (Sum.inr a) :: t, n, i, k + 1, u, h => by
    have := sls_args ad t n (i + 1) k u h
    rw [show i + 1 + k = i + (k + 1) by omega] at this
    exact List.mem_cons_of_mem _ this
  | Sum.inr (Sum.inl a) :: t, n, i, 0, u, h => by cases h; exact List.mem_cons_self
  | Sum.inr (Sum.inl a) :: t, n, i, 1, u, h => by cases h
  | Sum.inr (Sum.inl a) :: t, n, i, k + 2, u, h => by
    have := sls_args ad t n (i + 2) k u h
    rw [show i + 2 + k = i + (k + 2) by omega] at this
    exact List.mem_cons_of_mem _ this
theorem ent_loc (ad : Nat → Nat) (a : List AV) {n : Nat} (h : cats a ≤ n) : LocR ad (entL n a) ((lg_sl (a.map (cvV ad)) ++ List.replicate (n - (lg_sl (a.map (cvV ad))).length) Slot.unset).toArray) := by
  have h1 := lv_entry (a.map (cvV ad)) (n := n) (by rw [lg_len]; exact h)
  refine ⟨?_, h1.2.1, fun q hq => ?_⟩
  · rw [h1.1]
    unfold entL
    rw [List.length_append, List.length_replicate, sls_len]
    omega
  · obtain ⟨k, u, h2, rfl⟩ := (llst_mem ad _ 0 q).mp hq
    exact h1.2.2 _ (sls_args ad a _ 0 k u h2)
theorem ent_len (a : List AV) {n : Nat} (h : cats a ≤ n) : (entL n a).length = n := by
  unfold entL
  rw [List.length_append, List.length_replicate, sls_len]
  omega
theorem rok_I {t : Option FieldType} {a : Int} (h : rok t (some (vI a))) : t = some .int ∨ (t = some .boolean ∧ (a = 0 ∨ a = 1)) := by
  match t, h with
  | none, h => exact h.elim
  | some .int, h => exact Or.inl rfl
  | some .boolean, h => exact Or.inr ⟨rfl, h⟩
  | some .byte, h => exact h.elim
  | some .char, h => exact h.elim
  | some .short, h => exact h.elim
  | some .long, h => exact h.elim
  | some .float, h => exact h.elim
  | some .double, h => exact h.elim
  | some (.object _), h => exact h.elim
  | some (.array _), h => exact h.elim
theorem rok_L {t : Option FieldType} {a : Int} (h : rok t (some (vL a))) : t = some .long := by
  match t, h with
  | none, h => exact h.elim
  | some .int, h => exact h.elim
  | some .boolean, h => exact h.elim
  | some .byte, h => exact h.elim
  | some .char, h => exact h.elim
  | some .short, h => exact h.elim
  | some .long, h => rfl
  | some .float, h => exact h.elim
  | some .double, h => exact h.elim
  | some (.object _), h => exact h.elim
  | some (.array _), h => exact h.elim
theorem rok_V {t : Option FieldType} (h : rok t none) : t = none := by
  match t, h with
  | none, h => rfl
  | some .int, h => exact h.elim
  | some .boolean, h => exact h.elim
  | some .byte, h => exact h.elim
  | some .char, h => exact h.elim
  | some .short, h => exact h.elim
  | some .long, h => exact h.elim
  | some .float, h => exact h.elim
  | some .double, h => exact h.elim
  | some (.object _), h => exact h.elim
  | some (.array _), h => exact h.elim
set_option maxHeartbeats 4000000 in
theorem met_run (l : Launch) (D : va_G) (cT : Nat → ClassId) : ∀ d : Nat, MetS l D cT d (Run d)
  | 0 => fun _ _ _ _ _ _ _ h => h.elim
  | d + 1 => by
    intro z a sh M k n Post hrun e he hz ad sz
    obtain ⟨hcode, hok⟩ := mz_T_get he hz
    obtain ⟨w1, w2, w3, w4, w5, w6, w7, w8, w9, w10⟩ := okM_spec hok
    have hmb : mbOf z = e.2.1 := by unfold mbOf; rw [he]
    have hml0 : mlOf z = e.2.2.1 := by unfold mlOf; rw [he]
    have hmr : mrOf z = e.2.2.2.1 := by unfold mrOf; rw [he]
    have hmo : ownOf z = e.2.2.2.2.2.1 := by unfold ownOf; rw [he]
    have hmn : nmOf z = e.1.name := by unfold nmOf; rw [he]
    refine Met.ofW (cc := e.2.1) (maxL := e.2.2.1) (ret := e.2.2.2.1) w5 rfl ?_
    intro p en s m args below meth c s₁ B hml hv
    obtain ⟨rfl, hsz, hlen, hwf, hP, hK, hD0, hE⟩ := hv
    have hx := B.exec
    have hb := B.bytes
    have hr := B.returns
    have hts0 := atoms_spec (ws := Cond.code e.1 e.2.1 e.2.2.1 e.2.2.2.1 :: mz_GW) B.pre
    have hts : ∀ w ∈ mz_GW, w.before (a.map (cvV ad)).toArray s = true := fun w hw => hts0 w (List.mem_cons_of_mem _ hw)
    have hown : s.vm.findClass (cnOf (ownOf z)) = some m.cls := by
      rw [hmo, cnOf_of w7]
      exact findClass_of_methodNamed B.named
    have hlocks := B.notSynchronized
    have hnm : nmOf z = "<init>" → meth.name = "<init>" := fun h => by
      rw [hmn] at h
      rw [← h]
      exact (name_of_methodNamed B.named B.method).1
    subst hsz
    have hD := hD0.self (sz := s.heap.size)
    generalize hAe : va_A (wsOf cT ad sh M) s.heap.size = A at hD ⊢
    have hA : ∀ q : Nat, s.heap.size ≤ q → A q := fun q h => by rw [← hAe]; exact Or.inr h
    have hS : va_S A s.heap s.heap [] := va_S.rf
    have hr2 : meth.sig.returnType = mrOf z := by rw [hmr]; exact hr
    have hclo : Clo (Run d) z none k n (Rtn z k n Post) (SimS p l en (headSpec (Cond.code e.1 e.2.1 e.2.2.1 e.2.2.2.1 :: mz_GW) { frames := d + 1, cells := k, slots := n, locals := 33 * (d + 1) }).room s m (a.map (cvV ad)).toArray below meth c (MQ below (QM D cT e.2.2.2.1 Post sh ad A) (a.map (cvV ad)).toArray s k n A) D cT A (mlOf z) ad sh.length) := by
      refine clo_ok (b := 0) hx (by rw [hmb]; exact hb) (by rw [hml0]; exact hml) hown hts hK hA hE rfl rfl ⟨Nat.le_refl _, Nat.le_refl _⟩ hnm (fun q hq => by cases hq) (met_run l D cT d) ?_ ?_ ?_
      · intro v Z M' pc ad' H locs als hR hI hdg
        obtain ⟨g1, g2, g3, g4⟩ := hR
        obtain ⟨j1, j2, j3, j4, j7, j8, j9⟩ := hI
        refine W.widen g1 g2 ?_
        have hq : ∀ t : State, t.heap = H → s.WarmedH t.vm → QM D cT e.2.2.2.1 Post sh ad A (a.map (cvV ad)).toArray s (.returned (some (.int (iN v)))) t := fun t ht hW => ⟨⟨some (vI v), Z.1, M', ad', rfl, by rw [← hmr]; exact g3, g4, j1, j2, j3, j4, by rw [ht]; exact j7, j8⟩, j9.F ht⟩
        rcases rok_I g3 with g5 | ⟨g5, g6⟩
        · exact W.iret hx (by rw [hmb]; exact hb) (by rw [hr2, g5]) hq j9.2.2 hdg
        · exact W.zret (ty := .boolean) hx (by rw [hmb]; exact hb) (by rw [hr2, g5]) (by rcases g6 with rfl | rfl <;> decide) hq j9.2.2 hdg
      · intro v Z M' pc ad' H locs als hR hI hdg
        obtain ⟨g1, g2, g3, g4⟩ := hR
        obtain ⟨j1, j2, j3, j4, j7, j8, j9⟩ := hI
        refine W.widen g1 g2 ?_
        have hq : ∀ t : State, t.heap = H → s.WarmedH t.vm → QM D cT e.2.2.2.1 Post sh ad A (a.map (cvV ad)).toArray s (.returned (some (.long (jN v)))) t := fun t ht hW => ⟨⟨some (vL v), Z.1, M', ad', rfl, by rw [← hmr]; exact g3, g4, j1, j2, j3, j4, by rw [ht]; exact j7, j8⟩, j9.F ht⟩
        exact W.lret hx (by rw [hmb]; exact hb) (by rw [hr2, rok_L g3]) hq j9.2.2 hdg
      · intro Z M' pc ad' H locs als hR hI hdg
        obtain ⟨g1, g2, g3, g4⟩ := hR
        obtain ⟨j1, j2, j3, j4, j7, j8, j9⟩ := hI
        refine W.widen g1 g2 ?_
        have hq : ∀ t : State, t.heap = H → s.WarmedH t.vm → QM D cT e.2.2.2.1 Post sh ad A (a.map (cvV ad)).toArray s (.returned none) t := fun t ht hW => ⟨⟨none, Z.1, M', ad', rfl, by rw [← hmr]; exact g3, g4, j1, j2, j3, j4, by rw [ht]; exact j7, j8⟩, j9.F ht⟩
        exact W.vret hx (by rw [hmb]; exact hb) (by rw [hr2, rok_V g3]) hq j9.2.2 hdg
    have hS0 := hrun.2 _ hclo ad s.heap [] ((lg_sl (a.map (cvV ad)) ++ List.replicate (e.2.2.1 - (lg_sl (a.map (cvV ad))).length) Slot.unset).toArray) (fun k _ => rfl) (Nat.le_refl _) hlen hwf (ent_len a hrun.1) (by rw [← hml0]; exact ent_loc ad a hrun.1) hP hD hS
    rw [lg_entry_eq]
    exact hS0

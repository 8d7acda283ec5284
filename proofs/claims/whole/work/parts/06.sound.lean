/-! what an instruction of the small machine says of the machine itself -/
theorem pI_spec {st : List AV} {k : Int → List AV → Prop} (h : pI st k) : ∃ a t, st = vI a :: t ∧ k a t := by
  match st, h with
  | Sum.inl a :: t, h => exact ⟨a, t, rfl, h⟩
  | [], h => exact h.elim
  | Sum.inr (Sum.inl _) :: _, h => exact h.elim
  | Sum.inr (Sum.inr _) :: _, h => exact h.elim
theorem pL_spec {st : List AV} {k : Int → List AV → Prop} (h : pL st k) : ∃ a t, st = vL a :: t ∧ k a t := by
  match st, h with
  | Sum.inr (Sum.inl a) :: t, h => exact ⟨a, t, rfl, h⟩
  | [], h => exact h.elim
  | Sum.inl _ :: _, h => exact h.elim
  | Sum.inr (Sum.inr _) :: _, h => exact h.elim
theorem pR_spec {st : List AV} {k : Nat → List AV → Prop} (h : pR st k) : ∃ a t, st = vR a :: t ∧ k a t := by
  match st, h with
  | Sum.inr (Sum.inr a) :: t, h => exact ⟨a, t, rfl, h⟩
  | [], h => exact h.elim
  | Sum.inl _ :: _, h => exact h.elim
  | Sum.inr (Sum.inl _) :: _, h => exact h.elim
theorem pV_spec {st : List AV} {k : AV → List AV → Prop} (h : pV st k) : ∃ a t, st = a :: t ∧ cat a = 1 ∧ k a t := by
  match st, h with
  | Sum.inr (Sum.inr a) :: t, h => exact ⟨_, t, rfl, rfl, h⟩
  | [], h => exact h.elim
  | Sum.inl _ :: t, h => exact ⟨_, t, rfl, rfl, h⟩
  | Sum.inr (Sum.inl _) :: _, h => exact h.elim
theorem gI_spec {x : Option AV} {k : Int → Prop} (h : gI x k) : ∃ a, x = some (vI a) ∧ k a := by
  match x, h with
  | some (Sum.inl a), h => exact ⟨a, rfl, h⟩
  | none, h => exact h.elim
  | some (Sum.inr (Sum.inl _)), h => exact h.elim
  | some (Sum.inr (Sum.inr _)), h => exact h.elim
theorem gL_spec {x : Option AV} {k : Int → Prop} (h : gL x k) : ∃ a, x = some (vL a) ∧ k a := by
  match x, h with
  | some (Sum.inr (Sum.inl a)), h => exact ⟨a, rfl, h⟩
  | none, h => exact h.elim
  | some (Sum.inl _), h => exact h.elim
  | some (Sum.inr (Sum.inr _)), h => exact h.elim
theorem gR_spec {x : Option AV} {k : Nat → Prop} (h : gR x k) : ∃ a, x = some (vR a) ∧ k a := by
  match x, h with
  | some (Sum.inr (Sum.inr a)), h => exact ⟨a, rfl, h⟩
  | none, h => exact h.elim
  | some (Sum.inl _), h => exact h.elim
  | some (Sum.inr (Sum.inl _)), h => exact h.elim
theorem gA_spec {x : Option (Nat × Nat × (Nat → Option Nat))} {j : Int} {k : Nat → (Nat → Option Nat) → Prop} (h : gA x j k) : ∃ t n f, x = some (t, n, f) ∧ (0 ≤ j ∧ j < (n : Int)) ∧ n ≤ 100000 ∧ k t f := by
  match x, h with
  | some (t, n, f), h => exact ⟨t, n, f, rfl, h⟩
  | none, h => exact h.elim
theorem gQ_spec {x : Option Nat} {k : Nat → Prop} (h : gQ x k) : ∃ q, x = some q ∧ k q := by
  match x, h with
  | some q, h => exact ⟨q, rfl, h⟩
  | none, h => exact h.elim
theorem gF_spec {x : Option (Option (Option Nat))} {kn : Prop} {kr : Nat → Prop} (h : gF x kn kr) : (x = some none ∧ kn) ∨ ∃ q, x = some (some (some q)) ∧ kr q := by
  match x, h with
  | some none, h => exact Or.inl ⟨rfl, h⟩
  | some (some (some q)), h => exact Or.inr ⟨q, rfl, h⟩
  | none, h => exact h.elim
  | some (some none), h => exact h.elim
def wfC (n : Nat) (x : SC) : Prop := match x with
  | Sum.inl a => ∀ (j q : Nat), a.2.2 j = some q → q < n
  | Sum.inr o => ∀ (j q : Nat), o.2[j]? = some (some (some q)) → q < n
def wfS (sh : List SC) : Prop := ∀ (k : Nat) (x : SC), sh[k]? = some x → wfC sh.length x
def cnOf (k : Nat) : String := (mz_cn[k]?).getD ""
def tyL (cT : Nat → ClassId) : List (ClassId × FieldType) := [(cT 0, .int), (cT 1, .byte), (cT 2, .boolean), (cT 3, .long), (cT 4, .object "OwnSunday$Book"), (cT 5, .array .int)]
/-- the machine goes on well from every picture of the small one -/
def SimS (p : Program) (l : Launch) (e : Env) (R : Room) (s : State) (m : MethodId) (args : Array Value) (below : List Frame) (meth : Method) (c : Code) (Qf : State → Prop) (D : va_G) (cT : Nat → ClassId) (A : Nat → Prop) (nL : Nat) (ad0 : Nat → Nat) (n0 : Nat) : Nat → KK := fun pc ls st Z M =>
  ∀ (ad : Nat → Nat) (H : Heap) (locs : List Loc) (als : Array Slot), (∀ k, k < n0 ∨ Z.1.length ≤ k → ad k = ad0 k) → n0 ≤ Z.1.length → Z.1.length ≤ 100000 → wfS Z.1 → ls.length = nL → LocR ad ls als → va_P D vwCl (wsOf cT ad Z.1 M) H → va_D A (wsOf cT ad Z.1 M) → va_S A s.heap H locs →
    W p l e R s m args below meth c H locs Z.2.1 Z.2.2 Qf (F0 m pc als (st.map (cvV ad)))
section SND
variable {p : Program} {l : Launch} {e : Env} {R : Room} {s : State} {m : MethodId} {args : Array Value} {below : List Frame} {meth : Method} {c : Code} {Qf : State → Prop} {D : va_G} {cT : Nat → ClassId} {A : Nat → Prop} {nL : Nat} {ad0 : Nat → Nat} {n0 : Nat}
variable {cc : ByteArray} {C : CC} {X : XX} {mc ms : Nat} {J : Nat → KK} {Rt : RR} {x : Int} {K : KK} {ls : AL} {st : List AV} {Z : ZZ} {M : MM} {pc len : Nat}

theorem sn_iadd (hx : p.tables.exec = Jvm.exec) (hb : c.code = cc) (hdg : decode cc pc = .ok (.iadd, 1)) (hJ : ∀ t ls st Z M, J t ls st Z M → SimS p l e R s m args below meth c Qf D cT A nL ad0 n0 t ls st Z M) (hK : ∀ ls st Z M, K ls st Z M → SimS p l e R s m args below meth c Qf D cT A nL ad0 n0 (pc + 1) ls st Z M) (h : wpi C X mc ms J Rt (.iadd) x K ls st Z M) : SimS p l e R s m args below meth c Qf D cT A nL ad0 n0 pc ls st Z M := by
  obtain ⟨b, st, rfl, h⟩ := pI_spec h
  obtain ⟨a, st, rfl, h⟩ := pI_spec h
  intro ad H locs als i1 i2 i3 i4 i5 i6 i7 i8 i9
  refine lv_iadd hx hb hdg ?_
  rw [iN_add]
  exact hK _ _ _ _ h ad H locs als i1 i2 i3 i4 i5 i6 i7 i8 i9
theorem sn_isub (hx : p.tables.exec = Jvm.exec) (hb : c.code = cc) (hdg : decode cc pc = .ok (.isub, 1)) (hJ : ∀ t ls st Z M, J t ls st Z M → SimS p l e R s m args below meth c Qf D cT A nL ad0 n0 t ls st Z M) (hK : ∀ ls st Z M, K ls st Z M → SimS p l e R s m args below meth c Qf D cT A nL ad0 n0 (pc + 1) ls st Z M) (h : wpi C X mc ms J Rt (.isub) x K ls st Z M) : SimS p l e R s m args below meth c Qf D cT A nL ad0 n0 pc ls st Z M := by
  obtain ⟨b, st, rfl, h⟩ := pI_spec h
  obtain ⟨a, st, rfl, h⟩ := pI_spec h
  intro ad H locs als i1 i2 i3 i4 i5 i6 i7 i8 i9
  refine lv_isub hx hb hdg ?_
  rw [iN_sub]
  exact hK _ _ _ _ h ad H locs als i1 i2 i3 i4 i5 i6 i7 i8 i9
theorem sn_imul (hx : p.tables.exec = Jvm.exec) (hb : c.code = cc) (hdg : decode cc pc = .ok (.imul, 1)) (hJ : ∀ t ls st Z M, J t ls st Z M → SimS p l e R s m args below meth c Qf D cT A nL ad0 n0 t ls st Z M) (hK : ∀ ls st Z M, K ls st Z M → SimS p l e R s m args below meth c Qf D cT A nL ad0 n0 (pc + 1) ls st Z M) (h : wpi C X mc ms J Rt (.imul) x K ls st Z M) : SimS p l e R s m args below meth c Qf D cT A nL ad0 n0 pc ls st Z M := by
  obtain ⟨b, st, rfl, h⟩ := pI_spec h
  obtain ⟨a, st, rfl, h⟩ := pI_spec h
  intro ad H locs als i1 i2 i3 i4 i5 i6 i7 i8 i9
  refine lv_imul hx hb hdg ?_
  rw [iN_mul]
  exact hK _ _ _ _ h ad H locs als i1 i2 i3 i4 i5 i6 i7 i8 i9
theorem sn_idiv (hx : p.tables.exec = Jvm.exec) (hb : c.code = cc) (hdg : decode cc pc = .ok (.idiv, 1)) (hJ : ∀ t ls st Z M, J t ls st Z M → SimS p l e R s m args below meth c Qf D cT A nL ad0 n0 t ls st Z M) (hK : ∀ ls st Z M, K ls st Z M → SimS p l e R s m args below meth c Qf D cT A nL ad0 n0 (pc + 1) ls st Z M) (h : wpi C X mc ms J Rt (.idiv) x K ls st Z M) : SimS p l e R s m args below meth c Qf D cT A nL ad0 n0 pc ls st Z M := by
  obtain ⟨b, st, rfl, h⟩ := pI_spec h
  obtain ⟨a, st, rfl, h⟩ := pI_spec h
  obtain ⟨hr, h⟩ := h
  intro ad H locs als i1 i2 i3 i4 i5 i6 i7 i8 i9
  refine lv_idiv hx hb hdg (iN_ne0 hr.2.2.1 hr.2.2.2) ?_
  rw [iN_div hr]
  exact hK _ _ _ _ h ad H locs als i1 i2 i3 i4 i5 i6 i7 i8 i9
theorem sn_irem (hx : p.tables.exec = Jvm.exec) (hb : c.code = cc) (hdg : decode cc pc = .ok (.irem, 1)) (hJ : ∀ t ls st Z M, J t ls st Z M → SimS p l e R s m args below meth c Qf D cT A nL ad0 n0 t ls st Z M) (hK : ∀ ls st Z M, K ls st Z M → SimS p l e R s m args below meth c Qf D cT A nL ad0 n0 (pc + 1) ls st Z M) (h : wpi C X mc ms J Rt (.irem) x K ls st Z M) : SimS p l e R s m args below meth c Qf D cT A nL ad0 n0 pc ls st Z M := by
  obtain ⟨b, st, rfl, h⟩ := pI_spec h
  obtain ⟨a, st, rfl, h⟩ := pI_spec h
  obtain ⟨hr, h⟩ := h
  intro ad H locs als i1 i2 i3 i4 i5 i6 i7 i8 i9
  refine lv_irem hx hb hdg (iN_ne0 hr.2.2.1 hr.2.2.2) ?_
  rw [iN_rem hr]
  exact hK _ _ _ _ h ad H locs als i1 i2 i3 i4 i5 i6 i7 i8 i9
theorem sn_iand (hx : p.tables.exec = Jvm.exec) (hb : c.code = cc) (hdg : decode cc pc = .ok (.iand, 1)) (hJ : ∀ t ls st Z M, J t ls st Z M → SimS p l e R s m args below meth c Qf D cT A nL ad0 n0 t ls st Z M) (hK : ∀ ls st Z M, K ls st Z M → SimS p l e R s m args below meth c Qf D cT A nL ad0 n0 (pc + 1) ls st Z M) (h : wpi C X mc ms J Rt (.iand) x K ls st Z M) : SimS p l e R s m args below meth c Qf D cT A nL ad0 n0 pc ls st Z M := by
  obtain ⟨b, st, rfl, h⟩ := pI_spec h
  obtain ⟨a, st, rfl, h⟩ := pI_spec h
  intro ad H locs als i1 i2 i3 i4 i5 i6 i7 i8 i9
  refine lv_iand hx hb hdg ?_
  have h2 := hK _ _ _ _ h ad H locs als i1 i2 i3 i4 i5 i6 i7 i8 i9
  simp only [List.map_cons, cvV, bAnd, iN_of] at h2
  exact h2
theorem sn_ior (hx : p.tables.exec = Jvm.exec) (hb : c.code = cc) (hdg : decode cc pc = .ok (.ior, 1)) (hJ : ∀ t ls st Z M, J t ls st Z M → SimS p l e R s m args below meth c Qf D cT A nL ad0 n0 t ls st Z M) (hK : ∀ ls st Z M, K ls st Z M → SimS p l e R s m args below meth c Qf D cT A nL ad0 n0 (pc + 1) ls st Z M) (h : wpi C X mc ms J Rt (.ior) x K ls st Z M) : SimS p l e R s m args below meth c Qf D cT A nL ad0 n0 pc ls st Z M := by
  obtain ⟨b, st, rfl, h⟩ := pI_spec h
  obtain ⟨a, st, rfl, h⟩ := pI_spec h
  intro ad H locs als i1 i2 i3 i4 i5 i6 i7 i8 i9
  refine lv_ior hx hb hdg ?_
  have h2 := hK _ _ _ _ h ad H locs als i1 i2 i3 i4 i5 i6 i7 i8 i9
  simp only [List.map_cons, cvV, bOr, iN_of] at h2
  exact h2
theorem sn_ixor (hx : p.tables.exec = Jvm.exec) (hb : c.code = cc) (hdg : decode cc pc = .ok (.ixor, 1)) (hJ : ∀ t ls st Z M, J t ls st Z M → SimS p l e R s m args below meth c Qf D cT A nL ad0 n0 t ls st Z M) (hK : ∀ ls st Z M, K ls st Z M → SimS p l e R s m args below meth c Qf D cT A nL ad0 n0 (pc + 1) ls st Z M) (h : wpi C X mc ms J Rt (.ixor) x K ls st Z M) : SimS p l e R s m args below meth c Qf D cT A nL ad0 n0 pc ls st Z M := by
  obtain ⟨b, st, rfl, h⟩ := pI_spec h
  obtain ⟨a, st, rfl, h⟩ := pI_spec h
  intro ad H locs als i1 i2 i3 i4 i5 i6 i7 i8 i9
  refine lv_ixor hx hb hdg ?_
  have h2 := hK _ _ _ _ h ad H locs als i1 i2 i3 i4 i5 i6 i7 i8 i9
  simp only [List.map_cons, cvV, bXor, iN_of] at h2
  exact h2
theorem sn_ishl (hx : p.tables.exec = Jvm.exec) (hb : c.code = cc) (hdg : decode cc pc = .ok (.ishl, 1)) (hJ : ∀ t ls st Z M, J t ls st Z M → SimS p l e R s m args below meth c Qf D cT A nL ad0 n0 t ls st Z M) (hK : ∀ ls st Z M, K ls st Z M → SimS p l e R s m args below meth c Qf D cT A nL ad0 n0 (pc + 1) ls st Z M) (h : wpi C X mc ms J Rt (.ishl) x K ls st Z M) : SimS p l e R s m args below meth c Qf D cT A nL ad0 n0 pc ls st Z M := by
  obtain ⟨b, st, rfl, h⟩ := pI_spec h
  obtain ⟨a, st, rfl, h⟩ := pI_spec h
  intro ad H locs als i1 i2 i3 i4 i5 i6 i7 i8 i9
  refine lv_ishl hx hb hdg ?_
  have h2 := hK _ _ _ _ h ad H locs als i1 i2 i3 i4 i5 i6 i7 i8 i9
  simp only [List.map_cons, cvV, bShl, iN_of] at h2
  exact h2
theorem sn_ishr (hx : p.tables.exec = Jvm.exec) (hb : c.code = cc) (hdg : decode cc pc = .ok (.ishr, 1)) (hJ : ∀ t ls st Z M, J t ls st Z M → SimS p l e R s m args below meth c Qf D cT A nL ad0 n0 t ls st Z M) (hK : ∀ ls st Z M, K ls st Z M → SimS p l e R s m args below meth c Qf D cT A nL ad0 n0 (pc + 1) ls st Z M) (h : wpi C X mc ms J Rt (.ishr) x K ls st Z M) : SimS p l e R s m args below meth c Qf D cT A nL ad0 n0 pc ls st Z M := by
  obtain ⟨b, st, rfl, h⟩ := pI_spec h
  obtain ⟨a, st, rfl, h⟩ := pI_spec h
  intro ad H locs als i1 i2 i3 i4 i5 i6 i7 i8 i9
  refine lv_ishr hx hb hdg ?_
  have h2 := hK _ _ _ _ h ad H locs als i1 i2 i3 i4 i5 i6 i7 i8 i9
  simp only [List.map_cons, cvV, bShr, iN_of] at h2
  exact h2
theorem sn_iushr (hx : p.tables.exec = Jvm.exec) (hb : c.code = cc) (hdg : decode cc pc = .ok (.iushr, 1)) (hJ : ∀ t ls st Z M, J t ls st Z M → SimS p l e R s m args below meth c Qf D cT A nL ad0 n0 t ls st Z M) (hK : ∀ ls st Z M, K ls st Z M → SimS p l e R s m args below meth c Qf D cT A nL ad0 n0 (pc + 1) ls st Z M) (h : wpi C X mc ms J Rt (.iushr) x K ls st Z M) : SimS p l e R s m args below meth c Qf D cT A nL ad0 n0 pc ls st Z M := by
  obtain ⟨b, st, rfl, h⟩ := pI_spec h
  obtain ⟨a, st, rfl, h⟩ := pI_spec h
  intro ad H locs als i1 i2 i3 i4 i5 i6 i7 i8 i9
  refine lv_iushr hx hb hdg rfl ?_
  have h2 := hK _ _ _ _ h ad H locs als i1 i2 i3 i4 i5 i6 i7 i8 i9
  simp only [List.map_cons, cvV, bUsr, iN_of] at h2
  exact h2
theorem sn_ladd (hx : p.tables.exec = Jvm.exec) (hb : c.code = cc) (hdg : decode cc pc = .ok (.ladd, 1)) (hJ : ∀ t ls st Z M, J t ls st Z M → SimS p l e R s m args below meth c Qf D cT A nL ad0 n0 t ls st Z M) (hK : ∀ ls st Z M, K ls st Z M → SimS p l e R s m args below meth c Qf D cT A nL ad0 n0 (pc + 1) ls st Z M) (h : wpi C X mc ms J Rt (.ladd) x K ls st Z M) : SimS p l e R s m args below meth c Qf D cT A nL ad0 n0 pc ls st Z M := by
  obtain ⟨b, st, rfl, h⟩ := pL_spec h
  obtain ⟨a, st, rfl, h⟩ := pL_spec h
  intro ad H locs als i1 i2 i3 i4 i5 i6 i7 i8 i9
  refine lv_ladd hx hb hdg ?_
  rw [jN_add]
  exact hK _ _ _ _ h ad H locs als i1 i2 i3 i4 i5 i6 i7 i8 i9
theorem sn_lsub (hx : p.tables.exec = Jvm.exec) (hb : c.code = cc) (hdg : decode cc pc = .ok (.lsub, 1)) (hJ : ∀ t ls st Z M, J t ls st Z M → SimS p l e R s m args below meth c Qf D cT A nL ad0 n0 t ls st Z M) (hK : ∀ ls st Z M, K ls st Z M → SimS p l e R s m args below meth c Qf D cT A nL ad0 n0 (pc + 1) ls st Z M) (h : wpi C X mc ms J Rt (.lsub) x K ls st Z M) : SimS p l e R s m args below meth c Qf D cT A nL ad0 n0 pc ls st Z M := by
  obtain ⟨b, st, rfl, h⟩ := pL_spec h
  obtain ⟨a, st, rfl, h⟩ := pL_spec h
  intro ad H locs als i1 i2 i3 i4 i5 i6 i7 i8 i9
  refine lv_lsub hx hb hdg ?_
  rw [jN_sub]
  exact hK _ _ _ _ h ad H locs als i1 i2 i3 i4 i5 i6 i7 i8 i9
theorem sn_lmul (hx : p.tables.exec = Jvm.exec) (hb : c.code = cc) (hdg : decode cc pc = .ok (.lmul, 1)) (hJ : ∀ t ls st Z M, J t ls st Z M → SimS p l e R s m args below meth c Qf D cT A nL ad0 n0 t ls st Z M) (hK : ∀ ls st Z M, K ls st Z M → SimS p l e R s m args below meth c Qf D cT A nL ad0 n0 (pc + 1) ls st Z M) (h : wpi C X mc ms J Rt (.lmul) x K ls st Z M) : SimS p l e R s m args below meth c Qf D cT A nL ad0 n0 pc ls st Z M := by
  obtain ⟨b, st, rfl, h⟩ := pL_spec h
  obtain ⟨a, st, rfl, h⟩ := pL_spec h
  intro ad H locs als i1 i2 i3 i4 i5 i6 i7 i8 i9
  refine lv_lmul hx hb hdg ?_
  rw [jN_mul]
  exact hK _ _ _ _ h ad H locs als i1 i2 i3 i4 i5 i6 i7 i8 i9
theorem sn_ldiv (hx : p.tables.exec = Jvm.exec) (hb : c.code = cc) (hdg : decode cc pc = .ok (.ldiv, 1)) (hJ : ∀ t ls st Z M, J t ls st Z M → SimS p l e R s m args below meth c Qf D cT A nL ad0 n0 t ls st Z M) (hK : ∀ ls st Z M, K ls st Z M → SimS p l e R s m args below meth c Qf D cT A nL ad0 n0 (pc + 1) ls st Z M) (h : wpi C X mc ms J Rt (.ldiv) x K ls st Z M) : SimS p l e R s m args below meth c Qf D cT A nL ad0 n0 pc ls st Z M := by
  obtain ⟨b, st, rfl, h⟩ := pL_spec h
  obtain ⟨a, st, rfl, h⟩ := pL_spec h
  obtain ⟨hr, h⟩ := h
  intro ad H locs als i1 i2 i3 i4 i5 i6 i7 i8 i9
  refine lv_ldiv hx hb hdg (jN_ne0 hr.2.2.1 hr.2.2.2) ?_
  rw [jN_div hr]
  exact hK _ _ _ _ h ad H locs als i1 i2 i3 i4 i5 i6 i7 i8 i9
theorem sn_lrem (hx : p.tables.exec = Jvm.exec) (hb : c.code = cc) (hdg : decode cc pc = .ok (.lrem, 1)) (hJ : ∀ t ls st Z M, J t ls st Z M → SimS p l e R s m args below meth c Qf D cT A nL ad0 n0 t ls st Z M) (hK : ∀ ls st Z M, K ls st Z M → SimS p l e R s m args below meth c Qf D cT A nL ad0 n0 (pc + 1) ls st Z M) (h : wpi C X mc ms J Rt (.lrem) x K ls st Z M) : SimS p l e R s m args below meth c Qf D cT A nL ad0 n0 pc ls st Z M := by
  obtain ⟨b, st, rfl, h⟩ := pL_spec h
  obtain ⟨a, st, rfl, h⟩ := pL_spec h
  obtain ⟨hr, h⟩ := h
  intro ad H locs als i1 i2 i3 i4 i5 i6 i7 i8 i9
  refine lv_lrem hx hb hdg (jN_ne0 hr.2.2.1 hr.2.2.2) ?_
  rw [jN_rem hr]
  exact hK _ _ _ _ h ad H locs als i1 i2 i3 i4 i5 i6 i7 i8 i9
theorem sn_land (hx : p.tables.exec = Jvm.exec) (hb : c.code = cc) (hdg : decode cc pc = .ok (.land, 1)) (hJ : ∀ t ls st Z M, J t ls st Z M → SimS p l e R s m args below meth c Qf D cT A nL ad0 n0 t ls st Z M) (hK : ∀ ls st Z M, K ls st Z M → SimS p l e R s m args below meth c Qf D cT A nL ad0 n0 (pc + 1) ls st Z M) (h : wpi C X mc ms J Rt (.land) x K ls st Z M) : SimS p l e R s m args below meth c Qf D cT A nL ad0 n0 pc ls st Z M := by
  obtain ⟨b, st, rfl, h⟩ := pL_spec h
  obtain ⟨a, st, rfl, h⟩ := pL_spec h
  intro ad H locs als i1 i2 i3 i4 i5 i6 i7 i8 i9
  refine lv_land hx hb hdg ?_
  have h2 := hK _ _ _ _ h ad H locs als i1 i2 i3 i4 i5 i6 i7 i8 i9
  simp only [List.map_cons, cvV, lAnd, jN_of] at h2
  exact h2
theorem sn_lor (hx : p.tables.exec = Jvm.exec) (hb : c.code = cc) (hdg : decode cc pc = .ok (.lor, 1)) (hJ : ∀ t ls st Z M, J t ls st Z M → SimS p l e R s m args below meth c Qf D cT A nL ad0 n0 t ls st Z M) (hK : ∀ ls st Z M, K ls st Z M → SimS p l e R s m args below meth c Qf D cT A nL ad0 n0 (pc + 1) ls st Z M) (h : wpi C X mc ms J Rt (.lor) x K ls st Z M) : SimS p l e R s m args below meth c Qf D cT A nL ad0 n0 pc ls st Z M := by
  obtain ⟨b, st, rfl, h⟩ := pL_spec h
  obtain ⟨a, st, rfl, h⟩ := pL_spec h
  intro ad H locs als i1 i2 i3 i4 i5 i6 i7 i8 i9
  refine lv_lor hx hb hdg ?_
  have h2 := hK _ _ _ _ h ad H locs als i1 i2 i3 i4 i5 i6 i7 i8 i9
  simp only [List.map_cons, cvV, lOr, jN_of] at h2
  exact h2
theorem sn_lshl (hx : p.tables.exec = Jvm.exec) (hb : c.code = cc) (hdg : decode cc pc = .ok (.lshl, 1)) (hJ : ∀ t ls st Z M, J t ls st Z M → SimS p l e R s m args below meth c Qf D cT A nL ad0 n0 t ls st Z M) (hK : ∀ ls st Z M, K ls st Z M → SimS p l e R s m args below meth c Qf D cT A nL ad0 n0 (pc + 1) ls st Z M) (h : wpi C X mc ms J Rt (.lshl) x K ls st Z M) : SimS p l e R s m args below meth c Qf D cT A nL ad0 n0 pc ls st Z M := by
  obtain ⟨b, st, rfl, h⟩ := pI_spec h
  obtain ⟨a, st, rfl, h⟩ := pL_spec h
  intro ad H locs als i1 i2 i3 i4 i5 i6 i7 i8 i9
  refine lv_lshl hx hb hdg rfl ?_
  have h2 := hK _ _ _ _ h ad H locs als i1 i2 i3 i4 i5 i6 i7 i8 i9
  simp only [List.map_cons, cvV, lShl, jN_of] at h2
  exact h2
theorem sn_lshr (hx : p.tables.exec = Jvm.exec) (hb : c.code = cc) (hdg : decode cc pc = .ok (.lshr, 1)) (hJ : ∀ t ls st Z M, J t ls st Z M → SimS p l e R s m args below meth c Qf D cT A nL ad0 n0 t ls st Z M) (hK : ∀ ls st Z M, K ls st Z M → SimS p l e R s m args below meth c Qf D cT A nL ad0 n0 (pc + 1) ls st Z M) (h : wpi C X mc ms J Rt (.lshr) x K ls st Z M) : SimS p l e R s m args below meth c Qf D cT A nL ad0 n0 pc ls st Z M := by
  obtain ⟨b, st, rfl, h⟩ := pI_spec h
  obtain ⟨a, st, rfl, h⟩ := pL_spec h
  intro ad H locs als i1 i2 i3 i4 i5 i6 i7 i8 i9
  refine lv_lshr hx hb hdg rfl ?_
  have h2 := hK _ _ _ _ h ad H locs als i1 i2 i3 i4 i5 i6 i7 i8 i9
  simp only [List.map_cons, cvV, lShr, jN_of] at h2
  exact h2
theorem sn_lushr (hx : p.tables.exec = Jvm.exec) (hb : c.code = cc) (hdg : decode cc pc = .ok (.lushr, 1)) (hJ : ∀ t ls st Z M, J t ls st Z M → SimS p l e R s m args below meth c Qf D cT A nL ad0 n0 t ls st Z M) (hK : ∀ ls st Z M, K ls st Z M → SimS p l e R s m args below meth c Qf D cT A nL ad0 n0 (pc + 1) ls st Z M) (h : wpi C X mc ms J Rt (.lushr) x K ls st Z M) : SimS p l e R s m args below meth c Qf D cT A nL ad0 n0 pc ls st Z M := by
  obtain ⟨b, st, rfl, h⟩ := pI_spec h
  obtain ⟨a, st, rfl, h⟩ := pL_spec h
  intro ad H locs als i1 i2 i3 i4 i5 i6 i7 i8 i9
  refine lv_lushr hx hb hdg rfl ?_
  have h2 := hK _ _ _ _ h ad H locs als i1 i2 i3 i4 i5 i6 i7 i8 i9
  simp only [List.map_cons, cvV, lUsr, jN_of] at h2
  exact h2
theorem sn_lcmp (hx : p.tables.exec = Jvm.exec) (hb : c.code = cc) (hdg : decode cc pc = .ok (.lcmp, 1)) (hJ : ∀ t ls st Z M, J t ls st Z M → SimS p l e R s m args below meth c Qf D cT A nL ad0 n0 t ls st Z M) (hK : ∀ ls st Z M, K ls st Z M → SimS p l e R s m args below meth c Qf D cT A nL ad0 n0 (pc + 1) ls st Z M) (h : wpi C X mc ms J Rt (.lcmp) x K ls st Z M) : SimS p l e R s m args below meth c Qf D cT A nL ad0 n0 pc ls st Z M := by
  obtain ⟨b, st, rfl, h⟩ := pL_spec h
  obtain ⟨a, st, rfl, h⟩ := pL_spec h
  obtain ⟨ha, hb2, h⟩ := h
  intro ad H locs als i1 i2 i3 i4 i5 i6 i7 i8 i9
  refine W.lcmp hx hb hdg ?_
  have e1 : lg_cmp (jN a) (jN b) = iN (if a < b then -1 else if a = b then 0 else 1) := by
    by_cases h1 : a < b
    · have h3 : ¬ jN b < jN a := fun z => by rw [jN_lt hb2 ha] at z; omega
      have h4 : ¬ jN a = jN b := fun z => by rw [jN_eq ha hb2] at z; omega
      have h5 : jN a < jN b := (jN_lt ha hb2).mpr h1
      simp [lg_cmp, h1, h3, h4, h5]
      try decide
    · by_cases h2 : a = b
      · subst h2
        have h3 : ¬ jN a < jN a := fun z => by rw [jN_lt hb2 ha] at z; omega
        simp [lg_cmp, h3]
        try decide
      · have h3 : jN b < jN a := (jN_lt hb2 ha).mpr (by omega)
        have h4 : ¬ jN a = jN b := fun z => by rw [jN_eq ha hb2] at z; omega
        have h5 : ¬ jN a < jN b := fun z => by rw [jN_lt ha hb2] at z; omega
        simp [lg_cmp, h1, h2, h3, h4, h5]
        try decide
  rw [e1]
  exact hK _ _ _ _ h ad H locs als i1 i2 i3 i4 i5 i6 i7 i8 i9
theorem sn_i2l (hx : p.tables.exec = Jvm.exec) (hb : c.code = cc) (hdg : decode cc pc = .ok (.i2l, 1)) (hJ : ∀ t ls st Z M, J t ls st Z M → SimS p l e R s m args below meth c Qf D cT A nL ad0 n0 t ls st Z M) (hK : ∀ ls st Z M, K ls st Z M → SimS p l e R s m args below meth c Qf D cT A nL ad0 n0 (pc + 1) ls st Z M) (h : wpi C X mc ms J Rt (.i2l) x K ls st Z M) : SimS p l e R s m args below meth c Qf D cT A nL ad0 n0 pc ls st Z M := by
  obtain ⟨a, st, rfl, h⟩ := pI_spec h
  obtain ⟨hr, h⟩ := h
  intro ad H locs als i1 i2 i3 i4 i5 i6 i7 i8 i9
  refine lv_i2l hx hb hdg (iN_i2l hr) ?_
  exact hK _ _ _ _ h ad H locs als i1 i2 i3 i4 i5 i6 i7 i8 i9
theorem sn_l2i (hx : p.tables.exec = Jvm.exec) (hb : c.code = cc) (hdg : decode cc pc = .ok (.l2i, 1)) (hJ : ∀ t ls st Z M, J t ls st Z M → SimS p l e R s m args below meth c Qf D cT A nL ad0 n0 t ls st Z M) (hK : ∀ ls st Z M, K ls st Z M → SimS p l e R s m args below meth c Qf D cT A nL ad0 n0 (pc + 1) ls st Z M) (h : wpi C X mc ms J Rt (.l2i) x K ls st Z M) : SimS p l e R s m args below meth c Qf D cT A nL ad0 n0 pc ls st Z M := by
  obtain ⟨a, st, rfl, h⟩ := pL_spec h
  intro ad H locs als i1 i2 i3 i4 i5 i6 i7 i8 i9
  refine lv_l2i hx hb hdg (jN_l2i a) ?_
  exact hK _ _ _ _ h ad H locs als i1 i2 i3 i4 i5 i6 i7 i8 i9
theorem sn_i2b (hx : p.tables.exec = Jvm.exec) (hb : c.code = cc) (hdg : decode cc pc = .ok (.i2b, 1)) (hJ : ∀ t ls st Z M, J t ls st Z M → SimS p l e R s m args below meth c Qf D cT A nL ad0 n0 t ls st Z M) (hK : ∀ ls st Z M, K ls st Z M → SimS p l e R s m args below meth c Qf D cT A nL ad0 n0 (pc + 1) ls st Z M) (h : wpi C X mc ms J Rt (.i2b) x K ls st Z M) : SimS p l e R s m args below meth c Qf D cT A nL ad0 n0 pc ls st Z M := by
  obtain ⟨a, st, rfl, h⟩ := pI_spec h
  intro ad H locs als i1 i2 i3 i4 i5 i6 i7 i8 i9
  refine lv_i2b hx hb hdg rfl ?_
  have h2 := hK _ _ _ _ h ad H locs als i1 i2 i3 i4 i5 i6 i7 i8 i9
  simp only [List.map_cons, cvV, bByt, iN_of] at h2
  exact h2
theorem sn_dup (hx : p.tables.exec = Jvm.exec) (hb : c.code = cc) (hdg : decode cc pc = .ok (.dup, 1)) (hJ : ∀ t ls st Z M, J t ls st Z M → SimS p l e R s m args below meth c Qf D cT A nL ad0 n0 t ls st Z M) (hK : ∀ ls st Z M, K ls st Z M → SimS p l e R s m args below meth c Qf D cT A nL ad0 n0 (pc + 1) ls st Z M) (h : wpi C X mc ms J Rt (.dup) x K ls st Z M) : SimS p l e R s m args below meth c Qf D cT A nL ad0 n0 pc ls st Z M := by
  have h : pV st (fun v st => K ls (v :: v :: st) Z M) := h
  obtain ⟨a, st, rfl, h1, h⟩ := pV_spec h
  intro ad H locs als i1 i2 i3 i4 i5 i6 i7 i8 i9
  refine lv_dup hx hb hdg (by rw [cvV_cat]; exact h1) ?_
  exact hK _ _ _ _ h ad H locs als i1 i2 i3 i4 i5 i6 i7 i8 i9
theorem sn_dup2 (hx : p.tables.exec = Jvm.exec) (hb : c.code = cc) (hdg : decode cc pc = .ok (.dup2, 1)) (hJ : ∀ t ls st Z M, J t ls st Z M → SimS p l e R s m args below meth c Qf D cT A nL ad0 n0 t ls st Z M) (hK : ∀ ls st Z M, K ls st Z M → SimS p l e R s m args below meth c Qf D cT A nL ad0 n0 (pc + 1) ls st Z M) (h : wpi C X mc ms J Rt (.dup2) x K ls st Z M) : SimS p l e R s m args below meth c Qf D cT A nL ad0 n0 pc ls st Z M := by
  have h : pV st (fun v st => pV st fun w st => K ls (v :: w :: v :: w :: st) Z M) := h
  obtain ⟨a, st, rfl, h1, h⟩ := pV_spec h
  obtain ⟨b, st, rfl, h2, h⟩ := pV_spec h
  intro ad H locs als i1 i2 i3 i4 i5 i6 i7 i8 i9
  refine lv_dup2_11 hx hb hdg (by rw [cvV_cat]; exact h1) (by rw [cvV_cat]; exact h2) ?_
  exact hK _ _ _ _ h ad H locs als i1 i2 i3 i4 i5 i6 i7 i8 i9
theorem sn_pop (hx : p.tables.exec = Jvm.exec) (hb : c.code = cc) (hdg : decode cc pc = .ok (.pop, 1)) (hJ : ∀ t ls st Z M, J t ls st Z M → SimS p l e R s m args below meth c Qf D cT A nL ad0 n0 t ls st Z M) (hK : ∀ ls st Z M, K ls st Z M → SimS p l e R s m args below meth c Qf D cT A nL ad0 n0 (pc + 1) ls st Z M) (h : wpi C X mc ms J Rt (.pop) x K ls st Z M) : SimS p l e R s m args below meth c Qf D cT A nL ad0 n0 pc ls st Z M := by
  have h : pV st (fun _ st => K ls st Z M) := h
  obtain ⟨a, st, rfl, h1, h⟩ := pV_spec h
  intro ad H locs als i1 i2 i3 i4 i5 i6 i7 i8 i9
  refine lv_pop hx hb hdg (by rw [cvV_cat]; exact h1) ?_
  exact hK _ _ _ _ h ad H locs als i1 i2 i3 i4 i5 i6 i7 i8 i9
theorem sn_iconst {n : Int} (hx : p.tables.exec = Jvm.exec) (hb : c.code = cc) (hdg : decode cc pc = .ok (.iconst n, 1)) (hJ : ∀ t ls st Z M, J t ls st Z M → SimS p l e R s m args below meth c Qf D cT A nL ad0 n0 t ls st Z M) (hK : ∀ ls st Z M, K ls st Z M → SimS p l e R s m args below meth c Qf D cT A nL ad0 n0 (pc + 1) ls st Z M) (h : wpi C X mc ms J Rt (.iconst n) x K ls st Z M) : SimS p l e R s m args below meth c Qf D cT A nL ad0 n0 pc ls st Z M := by
  intro ad H locs als i1 i2 i3 i4 i5 i6 i7 i8 i9
  exact lv_iconst hx hb hdg rfl (hK _ _ _ _ h ad H locs als i1 i2 i3 i4 i5 i6 i7 i8 i9)
theorem sn_bipush {n : Int} (hn : -128 ≤ n ∧ n ≤ 127) (hx : p.tables.exec = Jvm.exec) (hb : c.code = cc) (hdg : decode cc pc = .ok (.bipush n, 2)) (hJ : ∀ t ls st Z M, J t ls st Z M → SimS p l e R s m args below meth c Qf D cT A nL ad0 n0 t ls st Z M) (hK : ∀ ls st Z M, K ls st Z M → SimS p l e R s m args below meth c Qf D cT A nL ad0 n0 (pc + 2) ls st Z M) (h : wpi C X mc ms J Rt (.iconst n) x K ls st Z M) : SimS p l e R s m args below meth c Qf D cT A nL ad0 n0 pc ls st Z M := by
  intro ad H locs als i1 i2 i3 i4 i5 i6 i7 i8 i9
  exact lv_bipush hx hb hdg (iN_bi hn) (hK _ _ _ _ h ad H locs als i1 i2 i3 i4 i5 i6 i7 i8 i9)
theorem sn_sipush {n : Int} (hn : -32768 ≤ n ∧ n ≤ 32767) (hx : p.tables.exec = Jvm.exec) (hb : c.code = cc) (hdg : decode cc pc = .ok (.sipush n, 3)) (hJ : ∀ t ls st Z M, J t ls st Z M → SimS p l e R s m args below meth c Qf D cT A nL ad0 n0 t ls st Z M) (hK : ∀ ls st Z M, K ls st Z M → SimS p l e R s m args below meth c Qf D cT A nL ad0 n0 (pc + 3) ls st Z M) (h : wpi C X mc ms J Rt (.iconst n) x K ls st Z M) : SimS p l e R s m args below meth c Qf D cT A nL ad0 n0 pc ls st Z M := by
  intro ad H locs als i1 i2 i3 i4 i5 i6 i7 i8 i9
  exact lv_sipush hx hb hdg (iN_si hn) (hK _ _ _ _ h ad H locs als i1 i2 i3 i4 i5 i6 i7 i8 i9)
theorem sn_lconst {n : Fin 2} (hn : x = ((n : Nat) : Int)) (hx : p.tables.exec = Jvm.exec) (hb : c.code = cc) (hdg : decode cc pc = .ok (.lconst n, 1)) (hJ : ∀ t ls st Z M, J t ls st Z M → SimS p l e R s m args below meth c Qf D cT A nL ad0 n0 t ls st Z M) (hK : ∀ ls st Z M, K ls st Z M → SimS p l e R s m args below meth c Qf D cT A nL ad0 n0 (pc + 1) ls st Z M) (h : wpi C X mc ms J Rt (.ldc2_w 0) x K ls st Z M) : SimS p l e R s m args below meth c Qf D cT A nL ad0 n0 pc ls st Z M := by
  subst hn
  intro ad H locs als i1 i2 i3 i4 i5 i6 i7 i8 i9
  exact lv_lconst hx hb hdg (show Int64.ofNat (n : Nat) = jN ((n : Nat) : Int) from Int64.ofInt_eq_ofNat.symm) (hK _ _ _ _ h ad H locs als i1 i2 i3 i4 i5 i6 i7 i8 i9)
theorem sn_ldcw {ix : Nat} {own : String} {n : Int} (hown : s.vm.findClass own = some m.cls) (hcon : (Jvm.Cond.constant own ix (iN n)).before args s = true) (hx : p.tables.exec = Jvm.exec) (hb : c.code = cc) (hdg : decode cc pc = .ok (.ldc_w ix, 3)) (hJ : ∀ t ls st Z M, J t ls st Z M → SimS p l e R s m args below meth c Qf D cT A nL ad0 n0 t ls st Z M) (hK : ∀ ls st Z M, K ls st Z M → SimS p l e R s m args below meth c Qf D cT A nL ad0 n0 (pc + 3) ls st Z M) (h : wpi C X mc ms J Rt (.iconst n) x K ls st Z M) : SimS p l e R s m args below meth c Qf D cT A nL ad0 n0 pc ls st Z M := by
  intro ad H locs als i1 i2 i3 i4 i5 i6 i7 i8 i9
  exact lv_ldcw hx hb hown hcon hdg (hK _ _ _ _ h ad H locs als i1 i2 i3 i4 i5 i6 i7 i8 i9)
theorem sn_ldc2 {ix : Nat} {own : String} (hown : s.vm.findClass own = some m.cls) (hcon : (Jvm.Cond.constantLong own ix (jN x)).before args s = true) (hx : p.tables.exec = Jvm.exec) (hb : c.code = cc) (hdg : decode cc pc = .ok (.ldc2_w ix, 3)) (hJ : ∀ t ls st Z M, J t ls st Z M → SimS p l e R s m args below meth c Qf D cT A nL ad0 n0 t ls st Z M) (hK : ∀ ls st Z M, K ls st Z M → SimS p l e R s m args below meth c Qf D cT A nL ad0 n0 (pc + 3) ls st Z M) (h : wpi C X mc ms J Rt (.ldc2_w 0) x K ls st Z M) : SimS p l e R s m args below meth c Qf D cT A nL ad0 n0 pc ls st Z M := by
  intro ad H locs als i1 i2 i3 i4 i5 i6 i7 i8 i9
  exact lv_ldc2 hx hb hown hcon hdg (hK _ _ _ _ h ad H locs als i1 i2 i3 i4 i5 i6 i7 i8 i9)
theorem sn_iload_n {k : Fin 4} (hx : p.tables.exec = Jvm.exec) (hb : c.code = cc) (hdg : decode cc pc = .ok (.iload_n k, 1)) (hJ : ∀ t ls st Z M, J t ls st Z M → SimS p l e R s m args below meth c Qf D cT A nL ad0 n0 t ls st Z M) (hK : ∀ ls st Z M, K ls st Z M → SimS p l e R s m args below meth c Qf D cT A nL ad0 n0 (pc + 1) ls st Z M) (h : wpi C X mc ms J Rt (.iload k) x K ls st Z M) : SimS p l e R s m args below meth c Qf D cT A nL ad0 n0 pc ls st Z M := by
  obtain ⟨a, hg, h⟩ := gI_spec h
  intro ad H locs als i1 i2 i3 i4 i5 i6 i7 i8 i9
  exact lv_iload_n hx hb hdg rfl (i6.get hg) (hK _ _ _ _ h ad H locs als i1 i2 i3 i4 i5 i6 i7 i8 i9)
theorem sn_iload {k : Nat} (hx : p.tables.exec = Jvm.exec) (hb : c.code = cc) (hdg : decode cc pc = .ok (.iload k, 2)) (hJ : ∀ t ls st Z M, J t ls st Z M → SimS p l e R s m args below meth c Qf D cT A nL ad0 n0 t ls st Z M) (hK : ∀ ls st Z M, K ls st Z M → SimS p l e R s m args below meth c Qf D cT A nL ad0 n0 (pc + 2) ls st Z M) (h : wpi C X mc ms J Rt (.iload k) x K ls st Z M) : SimS p l e R s m args below meth c Qf D cT A nL ad0 n0 pc ls st Z M := by
  obtain ⟨a, hg, h⟩ := gI_spec h
  intro ad H locs als i1 i2 i3 i4 i5 i6 i7 i8 i9
  exact lv_iload hx hb hdg (i6.get hg) (hK _ _ _ _ h ad H locs als i1 i2 i3 i4 i5 i6 i7 i8 i9)
theorem sn_istore_n {k : Fin 4} (hx : p.tables.exec = Jvm.exec) (hb : c.code = cc) (hdg : decode cc pc = .ok (.istore_n k, 1)) (hJ : ∀ t ls st Z M, J t ls st Z M → SimS p l e R s m args below meth c Qf D cT A nL ad0 n0 t ls st Z M) (hK : ∀ ls st Z M, K ls st Z M → SimS p l e R s m args below meth c Qf D cT A nL ad0 n0 (pc + 1) ls st Z M) (h : wpi C X mc ms J Rt (.istore k) x K ls st Z M) : SimS p l e R s m args below meth c Qf D cT A nL ad0 n0 pc ls st Z M := by
  obtain ⟨a, st, rfl, h⟩ := pI_spec h
  obtain ⟨hk, h⟩ := h
  intro ad H locs als i1 i2 i3 i4 i5 i6 i7 i8 i9
  refine lv_istore_n hx hb hdg rfl i6 hk rfl (fun als2 hl => ?_)
  have := hK _ _ _ _ h ad H locs als2 i1 i2 i3 i4 (by rw [lst1_len]; exact i5) (LocR.st1 hl) i7 i8 i9
  exact this
theorem sn_istore {k : Nat} (hx : p.tables.exec = Jvm.exec) (hb : c.code = cc) (hdg : decode cc pc = .ok (.istore k, 2)) (hJ : ∀ t ls st Z M, J t ls st Z M → SimS p l e R s m args below meth c Qf D cT A nL ad0 n0 t ls st Z M) (hK : ∀ ls st Z M, K ls st Z M → SimS p l e R s m args below meth c Qf D cT A nL ad0 n0 (pc + 2) ls st Z M) (h : wpi C X mc ms J Rt (.istore k) x K ls st Z M) : SimS p l e R s m args below meth c Qf D cT A nL ad0 n0 pc ls st Z M := by
  obtain ⟨a, st, rfl, h⟩ := pI_spec h
  obtain ⟨hk, h⟩ := h
  intro ad H locs als i1 i2 i3 i4 i5 i6 i7 i8 i9
  refine lv_istore hx hb hdg i6 hk rfl (fun als2 hl => ?_)
  have := hK _ _ _ _ h ad H locs als2 i1 i2 i3 i4 (by rw [lst1_len]; exact i5) (LocR.st1 hl) i7 i8 i9
  exact this
theorem sn_lload_n {k : Fin 4} (hx : p.tables.exec = Jvm.exec) (hb : c.code = cc) (hdg : decode cc pc = .ok (.lload_n k, 1)) (hJ : ∀ t ls st Z M, J t ls st Z M → SimS p l e R s m args below meth c Qf D cT A nL ad0 n0 t ls st Z M) (hK : ∀ ls st Z M, K ls st Z M → SimS p l e R s m args below meth c Qf D cT A nL ad0 n0 (pc + 1) ls st Z M) (h : wpi C X mc ms J Rt (.lload k) x K ls st Z M) : SimS p l e R s m args below meth c Qf D cT A nL ad0 n0 pc ls st Z M := by
  obtain ⟨a, hg, h⟩ := gL_spec h
  intro ad H locs als i1 i2 i3 i4 i5 i6 i7 i8 i9
  exact lv_lload_n hx hb hdg rfl (i6.get hg) (hK _ _ _ _ h ad H locs als i1 i2 i3 i4 i5 i6 i7 i8 i9)
theorem sn_lload {k : Nat} (hx : p.tables.exec = Jvm.exec) (hb : c.code = cc) (hdg : decode cc pc = .ok (.lload k, 2)) (hJ : ∀ t ls st Z M, J t ls st Z M → SimS p l e R s m args below meth c Qf D cT A nL ad0 n0 t ls st Z M) (hK : ∀ ls st Z M, K ls st Z M → SimS p l e R s m args below meth c Qf D cT A nL ad0 n0 (pc + 2) ls st Z M) (h : wpi C X mc ms J Rt (.lload k) x K ls st Z M) : SimS p l e R s m args below meth c Qf D cT A nL ad0 n0 pc ls st Z M := by
  obtain ⟨a, hg, h⟩ := gL_spec h
  intro ad H locs als i1 i2 i3 i4 i5 i6 i7 i8 i9
  exact lv_lload hx hb hdg (i6.get hg) (hK _ _ _ _ h ad H locs als i1 i2 i3 i4 i5 i6 i7 i8 i9)
theorem sn_lstore_n {k : Fin 4} (hx : p.tables.exec = Jvm.exec) (hb : c.code = cc) (hdg : decode cc pc = .ok (.lstore_n k, 1)) (hJ : ∀ t ls st Z M, J t ls st Z M → SimS p l e R s m args below meth c Qf D cT A nL ad0 n0 t ls st Z M) (hK : ∀ ls st Z M, K ls st Z M → SimS p l e R s m args below meth c Qf D cT A nL ad0 n0 (pc + 1) ls st Z M) (h : wpi C X mc ms J Rt (.lstore k) x K ls st Z M) : SimS p l e R s m args below meth c Qf D cT A nL ad0 n0 pc ls st Z M := by
  obtain ⟨a, st, rfl, h⟩ := pL_spec h
  obtain ⟨hk, h⟩ := h
  intro ad H locs als i1 i2 i3 i4 i5 i6 i7 i8 i9
  refine lv_lstore_n hx hb hdg rfl i6 hk rfl (fun als2 hl => ?_)
  have := hK _ _ _ _ h ad H locs als2 i1 i2 i3 i4 (by rw [lst2_len]; exact i5) (LocR.st2 hl) i7 i8 i9
  exact this
theorem sn_lstore {k : Nat} (hx : p.tables.exec = Jvm.exec) (hb : c.code = cc) (hdg : decode cc pc = .ok (.lstore k, 2)) (hJ : ∀ t ls st Z M, J t ls st Z M → SimS p l e R s m args below meth c Qf D cT A nL ad0 n0 t ls st Z M) (hK : ∀ ls st Z M, K ls st Z M → SimS p l e R s m args below meth c Qf D cT A nL ad0 n0 (pc + 2) ls st Z M) (h : wpi C X mc ms J Rt (.lstore k) x K ls st Z M) : SimS p l e R s m args below meth c Qf D cT A nL ad0 n0 pc ls st Z M := by
  obtain ⟨a, st, rfl, h⟩ := pL_spec h
  obtain ⟨hk, h⟩ := h
  intro ad H locs als i1 i2 i3 i4 i5 i6 i7 i8 i9
  refine lv_lstore hx hb hdg i6 hk rfl (fun als2 hl => ?_)
  have := hK _ _ _ _ h ad H locs als2 i1 i2 i3 i4 (by rw [lst2_len]; exact i5) (LocR.st2 hl) i7 i8 i9
  exact this
theorem sn_aload_n {k : Fin 4} (hx : p.tables.exec = Jvm.exec) (hb : c.code = cc) (hdg : decode cc pc = .ok (.aload_n k, 1)) (hJ : ∀ t ls st Z M, J t ls st Z M → SimS p l e R s m args below meth c Qf D cT A nL ad0 n0 t ls st Z M) (hK : ∀ ls st Z M, K ls st Z M → SimS p l e R s m args below meth c Qf D cT A nL ad0 n0 (pc + 1) ls st Z M) (h : wpi C X mc ms J Rt (.aload k) x K ls st Z M) : SimS p l e R s m args below meth c Qf D cT A nL ad0 n0 pc ls st Z M := by
  obtain ⟨a, hg, h⟩ := gR_spec h
  intro ad H locs als i1 i2 i3 i4 i5 i6 i7 i8 i9
  exact lv_aload_n hx hb hdg rfl (i6.get hg) (hK _ _ _ _ h ad H locs als i1 i2 i3 i4 i5 i6 i7 i8 i9)
theorem sn_aload {k : Nat} (hx : p.tables.exec = Jvm.exec) (hb : c.code = cc) (hdg : decode cc pc = .ok (.aload k, 2)) (hJ : ∀ t ls st Z M, J t ls st Z M → SimS p l e R s m args below meth c Qf D cT A nL ad0 n0 t ls st Z M) (hK : ∀ ls st Z M, K ls st Z M → SimS p l e R s m args below meth c Qf D cT A nL ad0 n0 (pc + 2) ls st Z M) (h : wpi C X mc ms J Rt (.aload k) x K ls st Z M) : SimS p l e R s m args below meth c Qf D cT A nL ad0 n0 pc ls st Z M := by
  obtain ⟨a, hg, h⟩ := gR_spec h
  intro ad H locs als i1 i2 i3 i4 i5 i6 i7 i8 i9
  exact lv_aload hx hb hdg (i6.get hg) (hK _ _ _ _ h ad H locs als i1 i2 i3 i4 i5 i6 i7 i8 i9)
theorem sn_astore_n {k : Fin 4} (hx : p.tables.exec = Jvm.exec) (hb : c.code = cc) (hdg : decode cc pc = .ok (.astore_n k, 1)) (hJ : ∀ t ls st Z M, J t ls st Z M → SimS p l e R s m args below meth c Qf D cT A nL ad0 n0 t ls st Z M) (hK : ∀ ls st Z M, K ls st Z M → SimS p l e R s m args below meth c Qf D cT A nL ad0 n0 (pc + 1) ls st Z M) (h : wpi C X mc ms J Rt (.astore k) x K ls st Z M) : SimS p l e R s m args below meth c Qf D cT A nL ad0 n0 pc ls st Z M := by
  obtain ⟨a, st, rfl, h⟩ := pR_spec h
  obtain ⟨hk, h⟩ := h
  intro ad H locs als i1 i2 i3 i4 i5 i6 i7 i8 i9
  refine lv_astore_n hx hb hdg rfl i6 hk rfl (fun als2 hl => ?_)
  have := hK _ _ _ _ h ad H locs als2 i1 i2 i3 i4 (by rw [lst1_len]; exact i5) (LocR.st1 hl) i7 i8 i9
  exact this
theorem sn_astore {k : Nat} (hx : p.tables.exec = Jvm.exec) (hb : c.code = cc) (hdg : decode cc pc = .ok (.astore k, 2)) (hJ : ∀ t ls st Z M, J t ls st Z M → SimS p l e R s m args below meth c Qf D cT A nL ad0 n0 t ls st Z M) (hK : ∀ ls st Z M, K ls st Z M → SimS p l e R s m args below meth c Qf D cT A nL ad0 n0 (pc + 2) ls st Z M) (h : wpi C X mc ms J Rt (.astore k) x K ls st Z M) : SimS p l e R s m args below meth c Qf D cT A nL ad0 n0 pc ls st Z M := by
  obtain ⟨a, st, rfl, h⟩ := pR_spec h
  obtain ⟨hk, h⟩ := h
  intro ad H locs als i1 i2 i3 i4 i5 i6 i7 i8 i9
  refine lv_astore hx hb hdg i6 hk rfl (fun als2 hl => ?_)
  have := hK _ _ _ _ h ad H locs als2 i1 i2 i3 i4 (by rw [lst1_len]; exact i5) (LocR.st1 hl) i7 i8 i9
  exact this
theorem sn_iinc {k : Nat} {n : Int} (hx : p.tables.exec = Jvm.exec) (hb : c.code = cc) (hdg : decode cc pc = .ok (.iinc k n, 3)) (hJ : ∀ t ls st Z M, J t ls st Z M → SimS p l e R s m args below meth c Qf D cT A nL ad0 n0 t ls st Z M) (hK : ∀ ls st Z M, K ls st Z M → SimS p l e R s m args below meth c Qf D cT A nL ad0 n0 (pc + 3) ls st Z M) (h : wpi C X mc ms J Rt (.iinc k n) x K ls st Z M) : SimS p l e R s m args below meth c Qf D cT A nL ad0 n0 pc ls st Z M := by
  obtain ⟨a, hg, h⟩ := gI_spec h
  obtain ⟨hk, h⟩ := h
  intro ad H locs als i1 i2 i3 i4 i5 i6 i7 i8 i9
  obtain ⟨j, hj⟩ := List.getElem?_of_mem ((llst_mem ad ls 0 (k, cvV ad (vI a))).mpr ⟨k, vI a, hg, by rw [Nat.zero_add]⟩)
  refine lv_iinc (v := iN (a + n)) hx hb hdg i6 hj (iN_add a n) hk rfl (fun als2 hl => ?_)
  have := hK _ _ _ _ h ad H locs als2 i1 i2 i3 i4 (by rw [lst1_len]; exact i5) (LocR.st1 (v := vI (a + n)) hl) i7 i8 i9
  exact this
theorem sn_goto {o : Int} (ho : 0 ≤ (pc : Int) + o) (hx : p.tables.exec = Jvm.exec) (hb : c.code = cc) (hdg : decode cc pc = .ok (.goto o, 3)) (hJ : ∀ t ls st Z M, J t ls st Z M → SimS p l e R s m args below meth c Qf D cT A nL ad0 n0 t ls st Z M) (hK : ∀ ls st Z M, K ls st Z M → SimS p l e R s m args below meth c Qf D cT A nL ad0 n0 (pc + 3) ls st Z M) (h : wpi C X mc ms J Rt (.goto (pc + o)) x K ls st Z M) : SimS p l e R s m args below meth c Qf D cT A nL ad0 n0 pc ls st Z M := by
  intro ad H locs als i1 i2 i3 i4 i5 i6 i7 i8 i9
  exact lv_goto (tgt := ((pc : Int) + o).toNat) hx hb hdg (by omega) (hJ _ _ _ _ _ h ad H locs als i1 i2 i3 i4 i5 i6 i7 i8 i9)
theorem sn_icmp {cd : Jvm.ClassFile.Cond} {o : Int} (ho : 0 ≤ (pc : Int) + o) (hx : p.tables.exec = Jvm.exec) (hb : c.code = cc) (hdg : decode cc pc = .ok (.if_icmp cd o, 3)) (hJ : ∀ t ls st Z M, J t ls st Z M → SimS p l e R s m args below meth c Qf D cT A nL ad0 n0 t ls st Z M) (hK : ∀ ls st Z M, K ls st Z M → SimS p l e R s m args below meth c Qf D cT A nL ad0 n0 (pc + 3) ls st Z M) (h : wpi C X mc ms J Rt (.if_icmp cd (pc + o)) x K ls st Z M) : SimS p l e R s m args below meth c Qf D cT A nL ad0 n0 pc ls st Z M := by
  obtain ⟨b, st, rfl, h⟩ := pI_spec h
  obtain ⟨a, st, rfl, h⟩ := pI_spec h
  obtain ⟨ra, rb, hj, hk⟩ := h
  intro ad H locs als i1 i2 i3 i4 i5 i6 i7 i8 i9
  cases cd with
  | eq => exact lv_icmp_eq (tgt := ((pc : Int) + o).toNat) hx hb hdg (by omega) (fun z => hJ _ _ _ _ _ (hj ((iN_eq ra rb).mp z)) ad H locs als i1 i2 i3 i4 i5 i6 i7 i8 i9) (fun z => hK _ _ _ _ (hk (fun q => z ((iN_eq ra rb).mpr q))) ad H locs als i1 i2 i3 i4 i5 i6 i7 i8 i9)
  | ne => exact lv_icmp_ne (tgt := ((pc : Int) + o).toNat) hx hb hdg (by omega) (fun z => hJ _ _ _ _ _ (hj (fun q => z ((iN_eq ra rb).mpr q))) ad H locs als i1 i2 i3 i4 i5 i6 i7 i8 i9) (fun z => hK _ _ _ _ (hk (fun q => q ((iN_eq ra rb).mp z))) ad H locs als i1 i2 i3 i4 i5 i6 i7 i8 i9)
  | lt => exact lv_icmp_lt (tgt := ((pc : Int) + o).toNat) hx hb hdg (by omega) (fun z => hJ _ _ _ _ _ (hj ((iN_lt ra rb).mp z)) ad H locs als i1 i2 i3 i4 i5 i6 i7 i8 i9) (fun z => hK _ _ _ _ (hk (fun q => z ((iN_lt ra rb).mpr q))) ad H locs als i1 i2 i3 i4 i5 i6 i7 i8 i9)
  | ge => exact lv_icmp_ge (tgt := ((pc : Int) + o).toNat) hx hb hdg (by omega) (fun z => hJ _ _ _ _ _ (hj ((iN_le rb ra).mp z)) ad H locs als i1 i2 i3 i4 i5 i6 i7 i8 i9) (fun z => hK _ _ _ _ (hk (fun q => z ((iN_le rb ra).mpr q))) ad H locs als i1 i2 i3 i4 i5 i6 i7 i8 i9)
  | gt => exact lv_icmp_gt (tgt := ((pc : Int) + o).toNat) hx hb hdg (by omega) (fun z => hJ _ _ _ _ _ (hj ((iN_lt rb ra).mp z)) ad H locs als i1 i2 i3 i4 i5 i6 i7 i8 i9) (fun z => hK _ _ _ _ (hk (fun q => z ((iN_lt rb ra).mpr q))) ad H locs als i1 i2 i3 i4 i5 i6 i7 i8 i9)
  | le => exact lv_icmp_le (tgt := ((pc : Int) + o).toNat) hx hb hdg (by omega) (fun z => hJ _ _ _ _ _ (hj ((iN_le ra rb).mp z)) ad H locs als i1 i2 i3 i4 i5 i6 i7 i8 i9) (fun z => hK _ _ _ _ (hk (fun q => z ((iN_le ra rb).mpr q))) ad H locs als i1 i2 i3 i4 i5 i6 i7 i8 i9)
theorem sn_ifc {cd : Jvm.ClassFile.Cond} {o : Int} (ho : 0 ≤ (pc : Int) + o) (hx : p.tables.exec = Jvm.exec) (hb : c.code = cc) (hdg : decode cc pc = .ok (.ifCond cd o, 3)) (hJ : ∀ t ls st Z M, J t ls st Z M → SimS p l e R s m args below meth c Qf D cT A nL ad0 n0 t ls st Z M) (hK : ∀ ls st Z M, K ls st Z M → SimS p l e R s m args below meth c Qf D cT A nL ad0 n0 (pc + 3) ls st Z M) (h : wpi C X mc ms J Rt (.ifCond cd (pc + o)) x K ls st Z M) : SimS p l e R s m args below meth c Qf D cT A nL ad0 n0 pc ls st Z M := by
  obtain ⟨a, st, rfl, h⟩ := pI_spec h
  obtain ⟨ra, hj, hk⟩ := h
  intro ad H locs als i1 i2 i3 i4 i5 i6 i7 i8 i9
  have rb := rgI_0
  cases cd with
  | eq => exact lv_if_eq (tgt := ((pc : Int) + o).toNat) hx hb hdg (by omega) (fun z => hJ _ _ _ _ _ (hj ((iN_eq ra rb).mp (by rw [iN_0]; exact z))) ad H locs als i1 i2 i3 i4 i5 i6 i7 i8 i9) (fun z => hK _ _ _ _ (hk (fun q => z (by have := (iN_eq ra rb).mpr q; rwa [iN_0] at this))) ad H locs als i1 i2 i3 i4 i5 i6 i7 i8 i9)
  | ne => exact lv_if_ne (tgt := ((pc : Int) + o).toNat) hx hb hdg (by omega) (fun z => hJ _ _ _ _ _ (hj (fun q => z (by have := (iN_eq ra rb).mpr q; rwa [iN_0] at this))) ad H locs als i1 i2 i3 i4 i5 i6 i7 i8 i9) (fun z => hK _ _ _ _ (hk (fun q => q ((iN_eq ra rb).mp (by rw [iN_0]; exact z)))) ad H locs als i1 i2 i3 i4 i5 i6 i7 i8 i9)
  | lt => exact lv_if_lt (tgt := ((pc : Int) + o).toNat) hx hb hdg (by omega) (fun z => hJ _ _ _ _ _ (hj ((iN_lt ra rb).mp (by rw [iN_0]; exact z))) ad H locs als i1 i2 i3 i4 i5 i6 i7 i8 i9) (fun z => hK _ _ _ _ (hk (fun q => z (by have := (iN_lt ra rb).mpr q; rwa [iN_0] at this))) ad H locs als i1 i2 i3 i4 i5 i6 i7 i8 i9)
  | ge => exact lv_if_ge (tgt := ((pc : Int) + o).toNat) hx hb hdg (by omega) (fun z => hJ _ _ _ _ _ (hj ((iN_le rb ra).mp (by rw [iN_0]; exact z))) ad H locs als i1 i2 i3 i4 i5 i6 i7 i8 i9) (fun z => hK _ _ _ _ (hk (fun q => z (by have := (iN_le rb ra).mpr q; rwa [iN_0] at this))) ad H locs als i1 i2 i3 i4 i5 i6 i7 i8 i9)
  | gt => exact lv_if_gt (tgt := ((pc : Int) + o).toNat) hx hb hdg (by omega) (fun z => hJ _ _ _ _ _ (hj ((iN_lt rb ra).mp (by rw [iN_0]; exact z))) ad H locs als i1 i2 i3 i4 i5 i6 i7 i8 i9) (fun z => hK _ _ _ _ (hk (fun q => z (by have := (iN_lt rb ra).mpr q; rwa [iN_0] at this))) ad H locs als i1 i2 i3 i4 i5 i6 i7 i8 i9)
  | le => exact lv_if_le (tgt := ((pc : Int) + o).toNat) hx hb hdg (by omega) (fun z => hJ _ _ _ _ _ (hj ((iN_le ra rb).mp (by rw [iN_0]; exact z))) ad H locs als i1 i2 i3 i4 i5 i6 i7 i8 i9) (fun z => hK _ _ _ _ (hk (fun q => z (by have := (iN_le ra rb).mpr q; rwa [iN_0] at this))) ad H locs als i1 i2 i3 i4 i5 i6 i7 i8 i9)
theorem swl_get {a : Int} : ∀ {os : List Int} {lo : Int}, swl J a ls st Z M os lo → ∀ {k : Nat} {o : Int}, os[k]? = some o → a = lo + k → J o.toNat ls st Z M
  | [], _, _, k, o, ho, _ => by simp at ho
  | o1 :: t, lo, h, 0, o, ho, ha => by
    have : o1 = o := by simpa using ho
    subst this
    exact h.1 (by omega)
  | o1 :: t, lo, h, k + 1, o, ho, ha => swl_get (os := t) (lo := lo + 1) h.2 (k := k) (by simpa using ho) (by omega)
theorem lkl_get {a : Int} {d : Int} : ∀ {ps : List (Int × Int)}, lkl J a ls st Z M d ps → J (Op.lookupswitch.offset ps d a).toNat ls st Z M
  | [], h => h
  | q :: t, h => by
    unfold Op.lookupswitch.offset
    by_cases hq : a = q.1
    · have := h.1 hq
      simpa [hq] using this
    · have := lkl_get (ps := t) (h.2 hq)
      simpa [Op.lookupswitch.offset, Ne.symm hq, hq] using this
theorem off_map (pc : Int) (d a : Int) : ∀ ps : List (Int × Int), Op.lookupswitch.offset (ps.map fun o => (o.1, pc + o.2)) (pc + d) a = pc + Op.lookupswitch.offset ps d a
  | [] => rfl
  | q :: t => by
    have := off_map pc d a t
    simp only [Op.lookupswitch.offset, List.map_cons, List.find?_cons] at this ⊢
    by_cases hq : q.1 = a
    · simp [hq]
    · simp [hq] at this ⊢
      exact this
theorem off_nn (pc : Int) (d a : Int) (hd : 0 ≤ pc + d) : ∀ ps : List (Int × Int), (∀ q ∈ ps, 0 ≤ pc + q.2) → 0 ≤ pc + Op.lookupswitch.offset ps d a
  | [], _ => hd
  | q :: t, h => by
    have := off_nn pc d a hd t (fun z hz => h z (List.mem_cons_of_mem _ hz))
    have h0 := h q List.mem_cons_self
    simp only [Op.lookupswitch.offset, List.find?_cons] at this ⊢
    by_cases hq : q.1 = a
    · simp [hq]; exact h0
    · simp [hq] at this ⊢
      exact this
theorem sn_table {d lo hi : Int} {os : Array Int} (hlen : (os.toList.length : Int) = hi - lo + 1) (hd : 0 ≤ (pc : Int) + d) (hall : (os.toList.all fun o => decide (0 ≤ (pc : Int) + o)) = true) (hx : p.tables.exec = Jvm.exec) (hb : c.code = cc) (hdg : decode cc pc = .ok (.tableswitch d lo hi os, len)) (hJ : ∀ t ls st Z M, J t ls st Z M → SimS p l e R s m args below meth c Qf D cT A nL ad0 n0 t ls st Z M) (hK : ∀ ls st Z M, K ls st Z M → SimS p l e R s m args below meth c Qf D cT A nL ad0 n0 (pc + len) ls st Z M) (h : wpi C X mc ms J Rt (.tableswitch (pc + d) lo hi (os.toList.map fun o => (pc : Int) + o).toArray) x K ls st Z M) : SimS p l e R s m args below meth c Qf D cT A nL ad0 n0 pc ls st Z M := by
  obtain ⟨a, st, rfl, h⟩ := pI_spec h
  obtain ⟨ra, hd2, hs⟩ := h
  intro ad H locs als i1 i2 i3 i4 i5 i6 i7 i8 i9
  rw [List.map_cons]
  by_cases h1 : a < lo ∨ hi < a
  · exact lv_tableOut (tgt := ((pc : Int) + d).toNat) hx hb hdg (by rw [iN_toInt ra]; exact h1) (by omega) (hJ _ _ _ _ _ (hd2 h1) ad H locs als i1 i2 i3 i4 i5 i6 i7 i8 i9)
  · have h2 : lo ≤ a ∧ a ≤ hi := by omega
    have hlt : (a - lo).toNat < os.toList.length := by omega
    have hg : os.toList[(a - lo).toNat]? = some (os.toList[(a - lo).toNat]) := List.getElem?_eq_getElem hlt
    generalize os.toList[(a - lo).toNat] = o1 at hg
    have ho1 : 0 ≤ (pc : Int) + o1 := by
      have := List.all_eq_true.mp hall o1 (List.mem_of_getElem? hg)
      simpa using this
    have hs2 := swl_get hs (k := (a - lo).toNat) (o := (pc : Int) + o1) (by rw [List.toList_toArray, List.getElem?_map, hg]; rfl) (by omega)
    exact lv_tableIn (tgt := ((pc : Int) + o1).toNat) hx hb hdg (by rw [iN_toInt ra]; omega) (by rw [iN_toInt ra]; omega) (by rw [iN_toInt ra, ← Array.getElem?_toList]; exact hg) (by omega) (hJ _ _ _ _ _ hs2 ad H locs als i1 i2 i3 i4 i5 i6 i7 i8 i9)
theorem sn_lookup {d : Int} {ps : Array (Int × Int)} (hps : (ps.toList.zip (ps.toList.drop 1)).all (fun (a, next) => a.1 < next.1) = true) (hd : 0 ≤ (pc : Int) + d) (hall : (ps.toList.all fun o => decide (0 ≤ (pc : Int) + o.2)) = true) (hx : p.tables.exec = Jvm.exec) (hb : c.code = cc) (hdg : decode cc pc = .ok (.lookupswitch d ps, len)) (hJ : ∀ t ls st Z M, J t ls st Z M → SimS p l e R s m args below meth c Qf D cT A nL ad0 n0 t ls st Z M) (hK : ∀ ls st Z M, K ls st Z M → SimS p l e R s m args below meth c Qf D cT A nL ad0 n0 (pc + len) ls st Z M) (h : wpi C X mc ms J Rt (.lookupswitch (pc + d) (ps.toList.map fun o => (o.1, (pc : Int) + o.2)).toArray) x K ls st Z M) : SimS p l e R s m args below meth c Qf D cT A nL ad0 n0 pc ls st Z M := by
  obtain ⟨a, st, rfl, h⟩ := pI_spec h
  obtain ⟨ra, hs⟩ := h
  intro ad H locs als i1 i2 i3 i4 i5 i6 i7 i8 i9
  rw [List.map_cons]
  have hs2 := lkl_get hs
  rw [List.toList_toArray, off_map] at hs2
  have hnn := off_nn (pc : Int) d a hd ps.toList (fun q hq => by have := List.all_eq_true.mp hall q hq; simpa using this)
  exact lv_lookup (tgt := ((pc : Int) + Op.lookupswitch.offset ps.toList d a).toNat) hx hb hdg hps (by rw [iN_toInt ra]) (by omega) (hJ _ _ _ _ _ hs2 ad H locs als i1 i2 i3 i4 i5 i6 i7 i8 i9)
end SND

/-! numbers -/
theorem iN_toInt {a : Int} (h : rgI a) : (iN a).toInt = a := Int32.toInt_ofInt_of_le h.1 (by have := h.2; omega)
theorem jN_toInt {a : Int} (h : rgL a) : (jN a).toInt = a := Int64.toInt_ofInt_of_le h.1 (by have := h.2; omega)
theorem iN_of (x : Int32) : iN x.toInt = x := Int32.ofInt_toInt x
theorem jN_of (x : Int64) : jN x.toInt = x := Int64.ofInt_toInt x
theorem iN_add (a b : Int) : iN a + iN b = iN (a + b) := (Int32.ofInt_add a b).symm
theorem iN_sub (a b : Int) : iN a - iN b = iN (a - b) := (Int32.ofInt_sub a b).symm
theorem iN_mul (a b : Int) : iN a * iN b = iN (a * b) := (Int32.ofInt_mul a b).symm
theorem jN_add (a b : Int) : jN a + jN b = jN (a + b) := (Int64.ofInt_add a b).symm
theorem jN_sub (a b : Int) : jN a - jN b = jN (a - b) := (Int64.ofInt_sub a b).symm
theorem jN_mul (a b : Int) : jN a * jN b = jN (a * b) := (Int64.ofInt_mul a b).symm
theorem iN_ne0 {b : Int} (h0 : 0 < b) (h : b ≤ 2147483647) : ¬ iN b = 0 := fun h2 => by
  have h3 := iN_toInt (a := b) ⟨by omega, h⟩
  rw [h2] at h3
  have h4 : (0 : Int32).toInt = 0 := by decide
  omega
theorem jN_ne0 {b : Int} (h0 : 0 < b) (h : b ≤ 9223372036854775807) : ¬ jN b = 0 := fun h2 => by
  have h3 := jN_toInt (a := b) ⟨by omega, h⟩
  rw [h2] at h3
  have h4 : (0 : Int64).toInt = 0 := by decide
  omega
theorem iN_div {a b : Int} (h : 0 ≤ a ∧ a ≤ 2147483647 ∧ 0 < b ∧ b ≤ 2147483647) : iN a / iN b = iN (a / b) := by
  obtain ⟨h0, h1, h2, h3⟩ := h
  have hle : a / b ≤ a := Int.ediv_le_self b h0
  have hge : 0 ≤ a / b := Int.ediv_nonneg h0 (by omega)
  apply Int32.toInt_inj.mp
  rw [Int32.toInt_div, iN_toInt ⟨by omega, h1⟩, iN_toInt ⟨by omega, h3⟩, iN_toInt ⟨by omega, by omega⟩, Int.tdiv_eq_ediv_of_nonneg h0]
  apply Int.bmod_eq_of_le <;> omega
theorem jN_div {a b : Int} (h : 0 ≤ a ∧ a ≤ 9223372036854775807 ∧ 0 < b ∧ b ≤ 9223372036854775807) : jN a / jN b = jN (a / b) := by
  obtain ⟨h0, h1, h2, h3⟩ := h
  have hle : a / b ≤ a := Int.ediv_le_self b h0
  have hge : 0 ≤ a / b := Int.ediv_nonneg h0 (by omega)
  apply Int64.toInt_inj.mp
  rw [Int64.toInt_div, jN_toInt ⟨by omega, h1⟩, jN_toInt ⟨by omega, h3⟩, jN_toInt ⟨by omega, by omega⟩, Int.tdiv_eq_ediv_of_nonneg h0]
  apply Int.bmod_eq_of_le <;> omega
theorem iN_rem {a b : Int} (h : 0 ≤ a ∧ a ≤ 2147483647 ∧ 0 < b ∧ b ≤ 2147483647) : iN a - iN a / iN b * iN b = iN (a % b) := by
  rw [iN_div h, iN_mul, iN_sub, Int.emod_def, Int.mul_comm b]
theorem jN_rem {a b : Int} (h : 0 ≤ a ∧ a ≤ 9223372036854775807 ∧ 0 < b ∧ b ≤ 9223372036854775807) : jN a - jN a / jN b * jN b = jN (a % b) := by
  rw [jN_div h, jN_mul, jN_sub, Int.emod_def, Int.mul_comm b]
theorem iN_lt {a b : Int} (ha : rgI a) (hb : rgI b) : iN a < iN b ↔ a < b := by rw [Int32.lt_iff_toInt_lt, iN_toInt ha, iN_toInt hb]
theorem iN_le {a b : Int} (ha : rgI a) (hb : rgI b) : iN a ≤ iN b ↔ a ≤ b := by rw [Int32.le_iff_toInt_le, iN_toInt ha, iN_toInt hb]
theorem iN_eq {a b : Int} (ha : rgI a) (hb : rgI b) : iN a = iN b ↔ a = b := by rw [← Int32.toInt_inj, iN_toInt ha, iN_toInt hb]
theorem jN_lt {a b : Int} (ha : rgL a) (hb : rgL b) : jN a < jN b ↔ a < b := by rw [Int64.lt_iff_toInt_lt, jN_toInt ha, jN_toInt hb]
theorem jN_eq {a b : Int} (ha : rgL a) (hb : rgL b) : jN a = jN b ↔ a = b := by rw [← Int64.toInt_inj, jN_toInt ha, jN_toInt hb]
theorem iN_0 : iN 0 = 0 := by decide
theorem rgI_0 : rgI 0 := by unfold rgI; omega
theorem iN_clamp {j : Int} {n : Nat} (h : 0 ≤ j ∧ j < n) (hn : n ≤ 100000) : (iN j).toNatClampNeg = j.toNat := Int32.toNatClampNeg_ofInt_of_le (by omega) (by omega)
theorem iN_in {j : Int} {n : Nat} (h : 0 ≤ j ∧ j < n) (hn : n ≤ 100000) : vp_in (iN j) n := by
  rw [vp_in_iff, iN_toInt ⟨by omega, by omega⟩]
  exact ⟨h.1, h.2⟩
theorem iN_i2l {a : Int} (h : rgI a) : (iN a).toInt64 = jN a := by
  apply Int64.toInt_inj.mp
  rw [Int32.toInt_toInt64, iN_toInt h, jN_toInt ⟨by have := h.1; omega, by have := h.2; omega⟩]
theorem jN_l2i (a : Int) : (jN a).toInt32 = iN a := Int64.toInt32_ofInt
theorem iN_bi {n : Int} (h : -128 ≤ n ∧ n ≤ 127) : (Int8.ofInt n).toInt32 = iN n := Int8.toInt32_ofInt h.1 h.2
theorem iN_si {n : Int} (h : -32768 ≤ n ∧ n ≤ 32767) : (Int16.ofInt n).toInt32 = iN n := Int16.toInt32_ofInt h.1 h.2
/-! values, locals -/
def cvV (ad : Nat → Nat) (v : AV) : Value := match v with
  | Sum.inl a => .int (iN a)
  | Sum.inr (Sum.inl a) => .long (jN a)
  | Sum.inr (Sum.inr k) => .ref (ad k)
theorem cvV_cat (ad : Nat → Nat) (v : AV) : (cvV ad v).category = cat v := by
  rcases v with a | a | a <;> rfl
theorem cvV_cats (ad : Nat → Nat) : ∀ st : List AV, ((st.map (cvV ad)).map fun v => v.category).sum = cats st
  | [] => rfl
  | v :: t => by
    have := cvV_cats ad t
    simp only [List.map_cons, List.sum_cons, cats] at this ⊢
    rw [this, cvV_cat]
def llst (ad : Nat → Nat) : Nat → AL → List (Nat × Value)
  | _, [] => []
  | i, none :: t => llst ad (i + 1) t
  | i, some v :: t => (i, cvV ad v) :: llst ad (i + 1) t
theorem llst_mem (ad : Nat → Nat) : ∀ (al : AL) (i : Nat) (q : Nat × Value), q ∈ llst ad i al ↔ ∃ (k : Nat) (v : AV), lget al k = some v ∧ q = (i + k, cvV ad v)
  | [], i, q => by simp [llst, lget]
  | none :: t, i, q => by
    rw [llst, llst_mem ad t (i + 1) q]
    constructor
    · rintro ⟨k, v, h1, h2⟩
      exact ⟨k + 1, v, h1, by rw [h2]; congr 1; omega⟩
    · rintro ⟨k, v, h1, h2⟩
      match k, h1, h2 with
      | 0, h1, _ => cases h1
      | k + 1, h1, h2 => exact ⟨k, v, h1, by rw [h2]; congr 1; omega⟩
  | some u :: t, i, q => by
    rw [llst, List.mem_cons, llst_mem ad t (i + 1) q]
    constructor
    · rintro (rfl | ⟨k, v, h1, h2⟩)
      · exact ⟨0, u, rfl, rfl⟩
      · exact ⟨k + 1, v, h1, by rw [h2]; congr 1; omega⟩
    · rintro ⟨k, v, h1, h2⟩
      match k, h1, h2 with
      | 0, h1, h2 => cases h1; exact Or.inl h2
      | k + 1, h1, h2 => exact Or.inr ⟨k, v, h1, by rw [h2]; congr 1; omega⟩
def LocR (ad : Nat → Nat) (al : AL) (ls : Array Slot) : Prop := lv_has ls al.length (llst ad 0 al)
theorem LocR.get {ad : Nat → Nat} {al : AL} {ls : Array Slot} (h : LocR ad al ls) {i : Nat} {v : AV} (hg : lget al i = some v) : ls[i]? = some (.val (cvV ad v)) := h.2.2 (i, cvV ad v) ((llst_mem ad al 0 _).mpr ⟨i, v, hg, by rw [Nat.zero_add]⟩)
theorem lst1_len : ∀ (al : AL) (i : Nat) (v : AV), (lst1 al i v).length = al.length
  | [], _, _ => rfl
  | _ :: _, 0, _ => rfl
  | x :: t, 1, v => by simp [lst1, lst1_len t 0 v]
  | x :: t, i + 2, v => by simp [lst1, lst1_len t (i + 1) v]
theorem lst2_len : ∀ (al : AL) (i : Nat) (v : AV), (lst2 al i v).length = al.length
  | [], _, _ => rfl
  | [_], 0, _ => rfl
  | _ :: _ :: _, 0, _ => rfl
  | x :: t, 1, v => by simp [lst2, lst2_len t 0 v]
  | x :: t, i + 2, v => by simp [lst2, lst2_len t (i + 1) v]
theorem lclr_some {x : Option AV} {u : AV} (h : lclr x = some u) : x = some u ∧ is2 u = false := by
  match x, h with
  | some (Sum.inl a), h => cases h; exact ⟨rfl, rfl⟩
  | some (Sum.inr (Sum.inl a)), h => cases h
  | some (Sum.inr (Sum.inr a)), h => cases h; exact ⟨rfl, rfl⟩
  | none, h => cases h
theorem lst1_get : ∀ (al : AL) (i : Nat) (v : AV) (j : Nat) (u : AV), lget (lst1 al i v) j = some u → (j = i ∧ u = v) ∨ (j ≠ i ∧ lget al j = some u ∧ ¬ (j + 1 = i ∧ is2 u = true))
  | [], _, _, _, _, h => by simp [lst1, lget] at h
  | x :: t, 0, v, 0, u, h => by simp [lst1, lget] at h; exact Or.inl ⟨rfl, h.symm⟩
  | x :: t, 0, v, j + 1, u, h => Or.inr ⟨by omega, h, by omega⟩
  | x :: t, 1, v, 0, u, h => by
    have h2 := lclr_some (x := x) h
    exact Or.inr ⟨by omega, h2.1, by rw [h2.2]; simp⟩
  | x :: t, 1, v, j + 1, u, h => by
    rcases lst1_get t 0 v j u h with ⟨h1, h2⟩ | ⟨h1, h2, h3⟩
    · exact Or.inl ⟨by omega, h2⟩
    · exact Or.inr ⟨by omega, h2, by omega⟩
  | x :: t, i + 2, v, 0, u, h => Or.inr ⟨by omega, h, by omega⟩
  | x :: t, i + 2, v, j + 1, u, h => by
    rcases lst1_get t (i + 1) v j u h with ⟨h1, h2⟩ | ⟨h1, h2, h3⟩
    · exact Or.inl ⟨by omega, h2⟩
    · exact Or.inr ⟨by omega, h2, fun h4 => h3 ⟨by omega, h4.2⟩⟩
theorem lst2_get : ∀ (al : AL) (i : Nat) (v : AV) (j : Nat) (u : AV), lget (lst2 al i v) j = some u → (j = i ∧ u = v) ∨ (j ≠ i ∧ j ≠ i + 1 ∧ lget al j = some u ∧ ¬ (j + 1 = i ∧ is2 u = true))
  | [], _, _, _, _, h => by simp [lst2, lget] at h
  | [x], 0, v, 0, u, h => by simp [lst2, lget] at h; exact Or.inl ⟨rfl, h.symm⟩
  | [x], 0, v, j + 1, u, h => by simp [lst2, lget] at h
  | x :: y :: t, 0, v, 0, u, h => by simp [lst2, lget] at h; exact Or.inl ⟨rfl, h.symm⟩
  | x :: y :: t, 0, v, 1, u, h => by simp [lst2, lget] at h
  | x :: y :: t, 0, v, j + 2, u, h => Or.inr ⟨by omega, by omega, h, by omega⟩
  | x :: t, 1, v, 0, u, h => by
    have h2 := lclr_some (x := x) (by simpa [lst2, lget] using h)
    exact Or.inr ⟨by omega, by omega, h2.1, by rw [h2.2]; simp⟩
  | x :: t, 1, v, j + 1, u, h => by
    rcases lst2_get t 0 v j u (by simpa [lst2, lget] using h) with ⟨h1, h2⟩ | ⟨h1, h2, h3, h4⟩
    · exact Or.inl ⟨by omega, h2⟩
    · exact Or.inr ⟨by omega, by omega, h3, by omega⟩
  | x :: t, i + 2, v, 0, u, h => Or.inr ⟨by omega, by omega, by simpa [lst2, lget] using h, by omega⟩
  | x :: t, i + 2, v, j + 1, u, h => by
    rcases lst2_get t (i + 1) v j u (by simpa [lst2, lget] using h) with ⟨h1, h2⟩ | ⟨h1, h2, h3, h4⟩
    · exact Or.inl ⟨by omega, h2⟩
    · exact Or.inr ⟨by omega, by omega, h3, fun h5 => h4 ⟨by omega, h5.2⟩⟩
theorem is2_cat {ad : Nat → Nat} {u : AV} (h : ((cvV ad u).category == 2) = true) : is2 u = true := by
  rcases u with a | a | a
  · cases h
  · rfl
  · cases h
theorem LocR.st1 {ad : Nat → Nat} {al : AL} {ls' : Array Slot} {i : Nat} {v : AV} (h : lv_has ls' al.length ((i, cvV ad v) :: (llst ad 0 al).filter (fun q => !(q.1 == i) && !(q.1 + 1 == i && q.2.category == 2)))) : LocR ad (lst1 al i v) ls' := by
  refine ⟨by rw [lst1_len]; exact h.1, h.2.1, fun q hq => h.2.2 q ?_⟩
  obtain ⟨k, u, h1, rfl⟩ := (llst_mem ad _ 0 q).mp hq
  rw [Nat.zero_add]
  rcases lst1_get al i v k u h1 with ⟨rfl, rfl⟩ | ⟨h2, h3, h4⟩
  · exact List.mem_cons_self
  · refine List.mem_cons_of_mem _ (List.mem_filter.mpr ⟨(llst_mem ad al 0 _).mpr ⟨k, u, h3, by rw [Nat.zero_add]⟩, ?_⟩)
    simp only [Bool.and_eq_true, Bool.not_eq_true', beq_eq_false_iff_ne, ne_eq, Bool.and_eq_false_iff]
    refine ⟨h2, ?_⟩
    by_cases h5 : k + 1 = i
    · right
      cases h6 : ((cvV ad u).category == 2) with
      | false => exact beq_eq_false_iff_ne.mp h6
      | true => exact absurd ⟨h5, is2_cat h6⟩ h4
    · exact Or.inl h5
theorem LocR.st2 {ad : Nat → Nat} {al : AL} {ls' : Array Slot} {i : Nat} {v : AV} (h : lv_has ls' al.length ((i, cvV ad v) :: (llst ad 0 al).filter (fun q => !(q.1 == i) && (!(q.1 == i + 1) && !(q.1 + 1 == i && q.2.category == 2))))) : LocR ad (lst2 al i v) ls' := by
  refine ⟨by rw [lst2_len]; exact h.1, h.2.1, fun q hq => h.2.2 q ?_⟩
  obtain ⟨k, u, h1, rfl⟩ := (llst_mem ad _ 0 q).mp hq
  rw [Nat.zero_add]
  rcases lst2_get al i v k u h1 with ⟨rfl, rfl⟩ | ⟨h2, h20, h3, h4⟩
  · exact List.mem_cons_self
  · refine List.mem_cons_of_mem _ (List.mem_filter.mpr ⟨(llst_mem ad al 0 _).mpr ⟨k, u, h3, by rw [Nat.zero_add]⟩, ?_⟩)
    simp only [Bool.and_eq_true, Bool.not_eq_true', beq_eq_false_iff_ne, ne_eq, Bool.and_eq_false_iff]
    refine ⟨h2, h20, ?_⟩
    by_cases h5 : k + 1 = i
    · right
      cases h6 : ((cvV ad u).category == 2) with
      | false => exact beq_eq_false_iff_ne.mp h6
      | true => exact absurd ⟨h5, is2_cat h6⟩ h4
    · exact Or.inl h5
/-- another placing of cells that agrees on what the locals and the stack hold -/
theorem cvV_mv {ad ad' : Nat → Nat} {n n' : Nat} (h : ∀ k, k < n ∨ n' ≤ k → ad' k = ad k) {v : AV} (hv : rfv n n' v) : cvV ad' v = cvV ad v := by
  rcases v with a | a | a
  · rfl
  · rfl
  · show Value.ref (ad' a) = Value.ref (ad a)
    rw [h a hv]
theorem rfs_mv {ad ad' : Nat → Nat} {n n' : Nat} (h : ∀ k, k < n ∨ n' ≤ k → ad' k = ad k) : ∀ {st : List AV}, rfs st n n' → st.map (cvV ad') = st.map (cvV ad)
  | [], _ => rfl
  | v :: t, hv => by
    rw [List.map_cons, List.map_cons, cvV_mv h hv.1, rfs_mv h hv.2]
theorem rfq_get : ∀ {al : AL} {n n' i : Nat} {v : AV}, rfq al n n' → lget al i = some v → rfv n n' v
  | [], _, _, _, _, _, hg => by cases hg
  | none :: t, n, n', 0, v, _, hg => by cases hg
  | some u :: t, n, n', 0, v, h, hg => by cases hg; exact h.1
  | none :: t, n, n', i + 1, v, h, hg => rfq_get (al := t) h hg
  | some u :: t, n, n', i + 1, v, h, hg => rfq_get (al := t) h.2 hg
theorem LocR.mv {ad ad' : Nat → Nat} {n n' : Nat} (h : ∀ k, k < n ∨ n' ≤ k → ad' k = ad k) {al : AL} {ls : Array Slot} (hl : LocR ad al ls) (hv : rfq al n n') : LocR ad' al ls := by
  refine ⟨hl.1, hl.2.1, fun q hq => hl.2.2 q ?_⟩
  obtain ⟨k, u, h1, rfl⟩ := (llst_mem ad' _ 0 q).mp hq
  rw [cvV_mv h (rfq_get hv h1)]
  exact (llst_mem ad al 0 _).mpr ⟨k, u, h1, rfl⟩
theorem LocR.all {ad ad' : Nat → Nat} {al : AL} {ls : Array Slot} (hl : LocR ad al ls) (h : ∀ k, ad' k = ad k) : LocR ad' al ls := by
  rw [show ad' = ad from funext h]; exact hl
/-! the world -/
def fvV (ad : Nat → Nat) (g : Nat → Int) (j : Nat) (x : Option (Option Nat)) : Value := match x with
  | none => .int (iN (g j))
  | some none => .null
  | some (some q) => .ref (ad q)
def eA (cT : Nat → ClassId) (ad : Nat → Nat) (g : Nat → Int) (a : Nat × Nat × (Nat → Option Nat)) : va_E :=
  .inl (cT a.1, a.2.1, if a.1 < 3 then .inl (fun j => iN (g j)) else if a.1 = 3 then .inr (.inl (fun j => jN (g j))) else .inr (.inr (.inr (.inr (fun j => (a.2.2 j).map ad)))))
def eO (ad : Nat → Nat) (g : Nat → Int) (o : Nat × List (Option (Option Nat))) : va_E := .inr (o.1, o.2.mapIdx (fvV ad g))
def elV (cT : Nat → ClassId) (ad : Nat → Nat) (g : Nat → Int) (x : SC) : va_E := match x with
  | Sum.inl a => eA cT ad g a
  | Sum.inr o => eO ad g o
def wsOf (cT : Nat → ClassId) (ad : Nat → Nat) (sh : List SC) (M : MM) : va_W := sh.mapIdx (fun k x => (ad k, elV cT ad (M k) x))
theorem wsOf_get (cT : Nat → ClassId) (ad : Nat → Nat) (sh : List SC) (M : MM) (k : Nat) : (wsOf cT ad sh M)[k]? = (sh[k]?).map (fun x => (ad k, elV cT ad (M k) x)) := by
  simp [wsOf]
theorem wsOf_at {cT : Nat → ClassId} {ad : Nat → Nat} {sh : List SC} {M : MM} {k : Nat} {x : SC} (h : sh[k]? = some x) : (wsOf cT ad sh M)[k]? = some (ad k, elV cT ad (M k) x) := by
  rw [wsOf_get, h]; rfl
theorem wsOf_len (cT : Nat → ClassId) (ad : Nat → Nat) (sh : List SC) (M : MM) : (wsOf cT ad sh M).length = sh.length := by simp [wsOf]
/-- one cell changed -/
theorem wsOf_set {cT : Nat → ClassId} {ad : Nat → Nat} {sh : List SC} {M M' : MM} {r : Nat} {x x' : SC} {e : va_E} (h : sh[r]? = some x) (hM : ∀ k, k ≠ r → M' k = M k) (he : elV cT ad (M' r) x' = e) : wsOf cT ad (sh.set r x') M' = (wsOf cT ad sh M).set r (ad r, e) := by
  apply List.ext_getElem?
  intro k
  have hlt : r < sh.length := (List.getElem?_eq_some_iff.mp h).1
  rw [wsOf_get, List.getElem?_set, List.getElem?_set, wsOf_len, wsOf_get]
  by_cases hk : r = k
  · subst hk
    simp [hlt, he]
  · rw [if_neg hk, if_neg hk, hM k (fun z => hk z.symm)]
theorem wsOf_set' {cT : Nat → ClassId} {ad : Nat → Nat} {sh : List SC} {M M' : MM} {r : Nat} {x : SC} {e : va_E} (h : sh[r]? = some x) (hM : ∀ k, k ≠ r → M' k = M k) (he : elV cT ad (M' r) x = e) : wsOf cT ad sh M' = (wsOf cT ad sh M).set r (ad r, e) := by
  have h2 : sh.set r x = sh := by
    apply List.ext_getElem?
    intro k
    rw [List.getElem?_set]
    by_cases hk : r = k
    · subst hk
      rw [if_pos rfl, h]
      simp [(List.getElem?_eq_some_iff.mp h).1]
    · rw [if_neg hk]
  have h3 := wsOf_set (cT := cT) (ad := ad) (M := M) (M' := M') (x' := x) h hM he
  rwa [h2] at h3
theorem mset_ne {M : MM} {r j : Nat} {a : Int} (k : Nat) (h : k ≠ r) : mset M r j a k = M k := by
  funext i
  simp [mset, h]
theorem mset_at (M : MM) (r j : Nat) (a : Int) (i : Nat) : mset M r j a r i = if i = j then a else M r i := by simp [mset]
theorem arr_spec {sh : List SC} {r t n : Nat} {f : Nat → Option Nat} (h : arr sh r = some (t, n, f)) : sh[r]? = some (Sum.inl (t, n, f)) := by
  unfold arr at h
  split at h
  · rename_i a ha
    rw [ha, Option.some.inj h]
  · cases h
theorem cls_spec {sh : List SC} {r ci : Nat} (h : cls sh r = some ci) : ∃ fs, sh[r]? = some (Sum.inr (ci, fs)) := by
  unfold cls at h
  split at h
  · rename_i a ha
    exact ⟨a.2, by rw [ha, ← Option.some.inj h]⟩
  · cases h
/-- a world grown by a cell -/
theorem wsOf_app {cT : Nat → ClassId} {ad ad' : Nat → Nat} {sh : List SC} {M M' : MM} {x : SC} {e : va_E} {q : Nat} (hM : ∀ k, k < sh.length → M' k = M k) (ha : ∀ k, k < sh.length → ad' k = ad k) (hq : ad' sh.length = q) (he : elV cT ad' (M' sh.length) x = e)
    (hin : ∀ (k : Nat) (x : SC), sh[k]? = some x → elV cT ad' (M k) x = elV cT ad (M k) x) : wsOf cT ad' (sh ++ [x]) M' = wsOf cT ad sh M ++ [(q, e)] := by
  apply List.ext_getElem?
  intro k
  rw [wsOf_get]
  by_cases hk : k < sh.length
  · rw [List.getElem?_append_left hk, List.getElem?_append_left (by rw [wsOf_len]; exact hk), wsOf_get, hM k hk, ha k hk]
    cases hx : sh[k]? with
    | none => rfl
    | some y => simp only [Option.map_some]; rw [hin k y hx]
  · rw [List.getElem?_append_right (by omega), List.getElem?_append_right (by rw [wsOf_len]; omega), wsOf_len]
    by_cases h2 : k = sh.length
    · subst h2
      simp [hq, he]
    · rw [List.getElem?_eq_none (by simp; omega), List.getElem?_eq_none (by simp; omega)]
      rfl

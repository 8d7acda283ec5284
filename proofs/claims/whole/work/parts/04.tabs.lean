/-! the tables of the small machine are the Statement's words -/
def mz_okM (e : mz_E) : Bool := match e with
  | (y, b, L, r, kd, ow, n, p1, p2, p3, p4) => decide (lw_tbl[p4]? = some (Cond.initialized y.cls)) && decide (y.cls ≠ "java/lang/invoke/MethodHandle") && decide (y.cls ≠ "java/lang/invoke/VarHandle") && decide ((parseMethodDescriptor y.desc).map (fun d => d.parameters.length) = some n) && plainName y.cls && decide (L ≤ 14) && decide (mz_cn[ow]? = some y.cls) &&
    (if kd = 0 then decide (lw_tbl[p2]? = some (Cond.static y)) else if kd = 1 then decide (lw_tbl[p2]? = some (Cond.instanceMethod y)) && decide (lw_tbl[p3]? = some (Cond.selects y.cls y y)) && decide ((vwCl[ow]?).map (fun q => q.1) = some y.cls) else decide (kd = 2) && decide (lw_tbl[p2]? = some (Cond.instanceMethod y)) && decide (y.name = "<init>") && decide (r = none))
set_option maxRecDepth 100000 in
theorem mz_T_code : mz_T.dropLast.map (fun e => lw_tbl[e.2.2.2.2.2.2.2.1]?) = mz_T.dropLast.map (fun e => some (Cond.code e.1 e.2.1 e.2.2.1 e.2.2.2.1)) := rfl
set_option maxRecDepth 100000 in
theorem mz_T_ok : mz_T.dropLast.all mz_okM = true := by decide +kernel
def mz_okF (q : (Nat × Nat) × (Nat × Nat × Nat)) : Bool := match mz_cn[q.1.1]?, vwCl[q.2.1]? with
  | some own, some (_, T, N) => decide (q.2.2.1 < N) && decide (lw_tbl[q.2.2.2]? = some (Cond.fieldLink own q.1.2 (T q.2.2.1).1 (T q.2.2.1).2.1 (T q.2.2.1).2.2.1))
  | _, _ => false
set_option maxRecDepth 100000 in
theorem mz_F_ok : mz_F.all mz_okF = true := by decide +kernel
def mz_okL (q : (Nat × Nat) × (Nat × Nat × Nat)) : Bool := match mz_cn[q.1.1]? with
  | some own => if q.2.1 = 1000 then decide (q.2.2.1 = 0) && decide (lw_tbl[q.2.2.2]? = some (Cond.methodLink own q.1.2 arraycopyName)) else if q.2.1 = 1002 then decide (q.2.2.1 = 0) && decide (lw_tbl[q.2.2.2]? = some (Cond.methodLink own q.1.2 Lib.Math.max.name)) else if q.2.1 = 1003 then decide (q.2.2.1 = 0) && decide (lw_tbl[q.2.2.2]? = some (Cond.methodLink own q.1.2 Lib.Math.min.name)) else if q.2.1 = 1001 then decide (q.2.2.1 = 0) && decide (lw_tbl[q.2.2.2]? = some (Cond.methodLink own q.1.2 objectInit)) else match mz_T[q.2.1]? with
    | some e => decide (q.2.1 < 163) && (if q.2.2.1 = 0 then decide (lw_tbl[q.2.2.2]? = some (Cond.methodLink own q.1.2 e.1)) else decide (lw_tbl[q.2.2.2]? = some (Cond.methodLinkNest own q.1.2 e.1 "OwnSunday")))
    | none => false
  | none => false
set_option maxRecDepth 100000 in
theorem mz_L_ok : mz_L.all mz_okL = true := by decide +kernel
def mz_okC (q : (Nat × Nat) × (Nat × Nat)) : Bool := match mz_cn[q.1.1]? with
  | some own => if q.2.1 = 100 then decide (lw_tbl[q.2.2]? = some (Cond.classLink own q.1.2 ("[" ++ (FieldType.array .int).toString))) else match vwCl[q.2.1]? with
    | some r => decide (lw_tbl[q.2.2]? = some (Cond.classLink own q.1.2 r.1))
    | none => false
  | none => false
set_option maxRecDepth 100000 in
theorem mz_C_ok : mz_C.all mz_okC = true := by decide +kernel
def mz_okK (q : (Nat × Nat) × (Int × Nat)) : Bool := match mz_cn[q.1.1]? with
  | some own => decide (lw_tbl[q.2.2]? = some (Cond.constant own q.1.2 (Int32.ofInt q.2.1))) || decide (lw_tbl[q.2.2]? = some (Cond.constantLong own q.1.2 (Int64.ofInt q.2.1)))
  | none => false
set_option maxRecDepth 100000 in
theorem mz_K_ok : mz_K.all mz_okK = true := by decide +kernel
/-- the words that every method bears -/
def mz_GW : List Cond := lw_tbl.filter goodWord
theorem mz_GW_good : ∀ w ∈ mz_GW, goodWord w = true := fun w h => (List.mem_filter.mp h).2
theorem mz_gw {w : Cond} {p : Nat} (h : lw_tbl[p]? = some w) (hg : goodWord w = true) : w ∈ mz_GW := List.mem_filter.mpr ⟨List.mem_of_getElem? h, hg⟩
theorem mz_goodIn : GoodIn mz_GW mz_GW := fun w h => ⟨h, good_of_word (mz_GW_good w h)⟩
set_option maxRecDepth 100000 in
theorem mz_inX0 : ∀ w ∈ wsX00, w ∈ lw_tbl ∧ goodWord w = true := by decide +kernel
set_option maxRecDepth 100000 in
theorem mz_inX1 : ∀ w ∈ wsX10, w ∈ lw_tbl ∧ goodWord w = true := by decide +kernel
set_option maxRecDepth 100000 in
theorem mz_inX2 : ∀ w ∈ wsX20, w ∈ lw_tbl ∧ goodWord w = true := by decide +kernel
set_option maxRecDepth 100000 in
theorem mz_inX3 : ∀ w ∈ wsX30, w ∈ lw_tbl ∧ goodWord w = true := by decide +kernel
set_option maxRecDepth 100000 in
theorem mz_inX4 : ∀ w ∈ wsX40, w ∈ lw_tbl ∧ goodWord w = true := by decide +kernel
set_option maxRecDepth 100000 in
theorem mz_inX5 : ∀ w ∈ wsX50, w ∈ lw_tbl ∧ goodWord w = true := by decide +kernel
set_option maxRecDepth 100000 in
theorem mz_inX6 : ∀ w ∈ wsX60, w ∈ lw_tbl ∧ goodWord w = true := by decide +kernel

def va_AOA (t : FieldType) (U : State) : Prop := (Cond.arrayOver (.array t)).before #[] U = true
theorem va_AOA.of {t : FieldType} {A : Array Value} {U : State} (h : (Cond.arrayOver (.array t)).before A U = true) : va_AOA t U := h
theorem va_AOA.use {t : FieldType} {A : Array Value} {U : State} (h : va_AOA t U) : (Cond.arrayOver (.array t)).before A U = true := h
/-! ===== BEGIN words of one list among another's, by their places ===== -/
theorem goodIn_r {big : List Cond} (ws : List Cond) (ps : List Nat) (hp : ws = ps.filterMap (fun i => big[i]?)) (h : ws.all goodWord = true) : GoodIn big ws := by
  intro w hw
  have h1 := List.all_eq_true.mp h w hw
  rw [hp] at hw
  obtain ⟨i, -, hi⟩ := List.mem_filterMap.mp hw
  have hm : w ∈ big := by first | exact List.mem_of_getElem? hi | exact List.getElem?_mem hi
  exact ⟨hm, good_of_word h1⟩
theorem goodIn_app {big a b : List Cond} (ha : GoodIn big a) (hb : GoodIn big b) : GoodIn big (a ++ b) := fun w h => (List.mem_append.mp h).elim (ha w) (hb w)
theorem goodIn_ca {big a b : List Cond} {c : Cond} (ha : GoodIn big (c :: a)) (hb : GoodIn big b) : GoodIn big (c :: (a ++ b)) := fun w h => (List.mem_cons.mp h).elim (fun e => ha w (List.mem_cons.mpr (Or.inl e))) (fun h => (List.mem_append.mp h).elim (fun h => ha w (List.mem_cons.mpr (Or.inr h))) (hb w))
theorem goodIn_sub {big ws : List Cond} (hm : ∀ w ∈ ws, w ∈ big) (h : ws.all goodWord = true) : GoodIn big ws := fun w hw => ⟨hm w hw, good_of_word (List.all_eq_true.mp h w hw)⟩
/-! ===== END ===== -/

/-! ===== BEGIN new T[n][m]: the outer array a place, the inner ones among the pooled ===== -/
/-- f, but v at every address of l -/
def vr_up {α : Type} (f : Nat → α) (l : List Nat) (v : α) : Nat → α := fun a => if a ∈ l then v else f a
theorem vr_up_in {α : Type} {f : Nat → α} {l : List Nat} {v : α} {a : Nat} (h : a ∈ l) : vr_up f l v a = v := if_pos h
theorem vr_up_ne {α : Type} {f : Nat → α} {l : List Nat} {v : α} {a : Nat} (h : a ∉ l) : vr_up f l v a = f a := if_neg h
theorem vr_rows {L l : List Nat} {f : Nat → va_E} {e : va_E} (h : ∀ a, a ∈ l → a ∉ L) : va_pl L f ++ l.map (fun a => (a, e)) = va_pl (L ++ l) (vr_up f l e) := by
  unfold va_pl
  rw [List.map_append]
  congr 1
  · apply List.map_congr_left
    intro a ha
    rw [vr_up_ne (fun q => h a q ha)]
  · apply List.map_congr_left
    intro a ha
    rw [vr_up_in ha]
theorem vr_lay {X rows : va_W} {x : Nat × va_E} {pl : va_W} {D : va_G} {cl : List vw_C} {H : Heap} (hP : va_P D cl (((X ++ pl) ++ [x]) ++ rows) H) : va_P D cl ((X ++ [x]) ++ (pl ++ rows)) H := by
  rw [List.append_assoc (X ++ pl)] at hP
  have h := va_P.swap hP
  rw [← List.append_assoc X] at h
  have h2 := va_P.swap h
  rw [List.append_assoc (X ++ [x])] at h2
  exact h2
theorem vr_layD {X rows : va_W} {x : Nat × va_E} {pl : va_W} {A : Nat → Prop} (hD : va_D A (((X ++ pl) ++ [x]) ++ rows)) : va_D A ((X ++ [x]) ++ (pl ++ rows)) := by
  rw [List.append_assoc (X ++ pl)] at hD
  have h := va_D.swap hD
  rw [← List.append_assoc X] at h
  have h2 := va_D.swap h
  rw [List.append_assoc (X ++ [x])] at h2
  exact h2
theorem vr_outer (c : ClassId) (N h0 : Nat) : ∀ i : Nat, Jvm.Free.Multi.outerC c N h0 i = arrV c N (fun j => va_rf (if j < i then some (h0 + 1 + j) else none))
  | 0 => by
    show ({ cls := c, slots := Array.replicate N .null, vm := .none } : Cell) = _
    rw [arrV_new]
    refine congrArg (arrV c N) (funext fun j => ?_)
    simp [va_rf]
  | i + 1 => by
    show (Jvm.Free.Multi.outerC c N h0 i).setSlot i (.ref (h0 + 1 + i)) = _
    rw [vr_outer c N h0 i, arrV_store]
    refine congrArg (arrV c N) (funext fun j => ?_)
    by_cases e : j = i
    · subst e
      simp [updV, va_rf]
    · by_cases h : j < i
      · simp [updV, e, h, Nat.lt_succ_of_lt h]
      · simp [updV, e, h, show ¬ j < i + 1 by omega]
section VGM
variable {p : Program} {l : Launch} {e : Env} {R : Room} {s : State} {m : MethodId} {args : Array Value} {below : List Frame} {meth : Method} {c : Code} {H : Heap} {locs : List Loc} {cells slots : Nat} {Q : State → Prop}
variable {cc : ByteArray} {pc : Nat} {ls : Array Slot} {rest : List Value} {D : va_G} {cl : List vw_C} {A : Nat → Prop} {a : Nat} {tys : List (ClassId × FieldType)} {ws : va_W} {H0 : Heap}
theorem va_mna {X : va_W} {L : List Nat} {f : Nat → va_E} {cc : ByteArray} (hexec : p.tables.exec = Jvm.exec) (hb : c.code = cc) {own : String} {index : Nat} {ty : FieldType} {cy : ClassId} (hown : s.vm.findClass own = some m.cls) (hclink : (Cond.classLink own index ("[" ++ (FieldType.array ty).toString)).before args s = true) (hover : va_AOA ty s) (harr : (Cond.arrayClass ty).before args s = true) (hcy : s.vm.findClass (FieldType.array ty).toString = some cy)
    (hK : va_K D cl tys s) (hP : va_P D cl (X ++ va_pl L f) H) (hD : va_D A (X ++ va_pl L f)) (hS : va_S A H0 H locs) (hA : ∀ q, H0.size ≤ q → A q) {n k : Int32} {N' K' : Nat} {z : vp_A} (hn : ¬ n < 0) (hk : ¬ k < 0) (hN : n.toNatClampNeg = N') (hM : k.toNatClampNeg = K')
    (hb1 : N' * 4 ≤ 536870912) (hb2 : K' * componentBytes ty ≤ 536870912) (hb3 : K' ≤ 536870912) (hdf : fits ty (defaultValue ty) = true) (hdd : (defaultValue ty).isDefault = true) (hcells : cells + (1 + N') ≤ R.cells) (hslots : slots + (N' + N' * K') ≤ R.slots) (hz : ∀ c : ClassId, Jvm.Free.Multi.innerC c K' (defaultValue ty) = vp_cell c z) (hdg : decode cc pc = .ok (.multianewarray index 2, 4))
    (kk : ∀ (q : Nat) (r : Nat → Nat) (cA : ClassId) (H1 : Heap), (∀ i j : Nat, i < N' → j < N' → r i = r j → i = j) → (∀ i : Nat, i < N' → r i ∉ L) → va_K D cl (tys ++ [(cA, .array ty)]) s →
      va_P D cl ((X ++ [(q, .inl (cA, N', .inr (.inr (.inr (.inr (fun i => if i < N' then some (r i) else none))))))]) ++ va_pl (L ++ (List.range N').map r) (vr_up f ((List.range N').map r) (.inl (cy, z)))) H1 → va_D A ((X ++ [(q, .inl (cA, N', .inr (.inr (.inr (.inr (fun i => if i < N' then some (r i) else none))))))]) ++ va_pl (L ++ (List.range N').map r) (vr_up f ((List.range N').map r) (.inl (cy, z)))) → va_S A H0 H1 locs →
      W p l e R s m args below meth c H1 locs (cells + 1 + N') (slots + N' + N' * K') Q (F0 m (pc + 4) ls (.ref q :: rest))) : W p l e R s m args below meth c H locs cells slots Q (F0 m pc ls (.int k :: .int n :: rest)) := by
  subst hN
  subst hM
  intro T hT Xs
  obtain ⟨vm₁, cA, comp, -, fA, fC, hO, -, X', step⟩ := Xs.multianewarray2F hexec hown hclink (va_AOA.use hover) harr (g := F0 m pc ls (.int k :: .int n :: rest)) rfl (by rw [hb]; exact hdg) rfl hn hk hb1 hb2 hb3 hdf hdd hcells hslots
  have ec : some cy = some comp := hcy.symm.trans fC
  cases ec
  generalize hF : Jvm.Free.Multi.fill (T.setVm vm₁) cA cy n.toNatClampNeg k.toNatClampNeg (defaultValue ty) n.toNatClampNeg = F at X' step
  have hTh : (T.setVm vm₁).heap = H := hT
  obtain ⟨f1, f2, -, -⟩ := Jvm.Free.Multi.fill_facts (T.setVm vm₁) cA cy n.toNatClampNeg k.toNatClampNeg (defaultValue ty) n.toNatClampNeg
  rw [hF, hTh] at f1 f2
  have hold : ∀ x : Nat, x < H.size → F.heap[x]? = H[x]? := fun x hx => by
    have := Jvm.Free.Multi.fill_old (T.setVm vm₁) cA cy n.toNatClampNeg k.toNatClampNeg (defaultValue ty) (a := x) (by rw [hTh]; exact hx) n.toNatClampNeg
    rw [hF, hTh] at this
    exact this
  have hrow : ∀ j : Nat, j < n.toNatClampNeg → F.heap[H.size + 1 + j]? = some (vp_cell cy z) := fun j hj => by
    have := Jvm.Free.Multi.fill_inner (T.setVm vm₁) cA cy n.toNatClampNeg k.toNatClampNeg (defaultValue ty) n.toNatClampNeg j hj
    rw [hF, hTh, hz] at this
    exact this
  have hout : Jvm.Free.Multi.outerC cA n.toNatClampNeg H.size n.toNatClampNeg = vp_cell cA (n.toNatClampNeg, .inr (.inr (.inr (.inr (fun i => if i < n.toNatClampNeg then some (H.size + 1 + i) else none))))) := by
    rw [vp_cell_q]
    exact vr_outer cA n.toNatClampNeg H.size n.toNatClampNeg
  rw [hout] at f2
  have hlt : ∀ a, a ∈ L → a < H.size := fun a ha => by
    obtain ⟨k9, hk9⟩ := va_pl_get (X := X) (f := f) ha
    exact (hP k9 _ hk9).lt
  have hnl : ∀ i : Nat, i < n.toNatClampNeg → H.size + 1 + i ∉ L := fun i _ h => by
    have := hlt _ h
    omega
  have hnm : ∀ a, a ∈ (List.range n.toNatClampNeg).map (fun i => H.size + 1 + i) → a ∉ L := fun a ha h => by
    obtain ⟨i, -, rfl⟩ := List.mem_map.mp ha
    have := hlt _ h
    omega
  have hP0 : va_P D cl (X ++ va_pl L f) F.heap := hP.kept (fun k9 x hx => hold x.1 ((hP k9 x hx).lt))
  have hP1 : va_P D cl ((X ++ va_pl L f) ++ [(H.size, .inl (cA, n.toNatClampNeg, .inr (.inr (.inr (.inr (fun i => if i < n.toNatClampNeg then some (H.size + 1 + i) else none))))))]) F.heap := hP0.app (fun k9 x hx => by
    have h0 : k9 < 1 := (List.getElem?_eq_some_iff.mp hx).1
    rw [show k9 = 0 by omega] at hx
    cases hx
    exact f2)
  have hP2 : va_P D cl (((X ++ va_pl L f) ++ [(H.size, .inl (cA, n.toNatClampNeg, .inr (.inr (.inr (.inr (fun i => if i < n.toNatClampNeg then some (H.size + 1 + i) else none))))))]) ++ ((List.range n.toNatClampNeg).map (fun i => H.size + 1 + i)).map (fun a => (a, .inl (cy, z)))) F.heap := hP1.app (fun k9 x hx => by
    obtain ⟨a, ha, rfl⟩ := List.mem_map.mp (List.mem_of_getElem? hx)
    obtain ⟨i, hi, rfl⟩ := List.mem_map.mp ha
    exact hrow i (List.mem_range.mp hi))
  have hD2 : va_D A (((X ++ va_pl L f) ++ [(H.size, .inl (cA, n.toNatClampNeg, .inr (.inr (.inr (.inr (fun i => if i < n.toNatClampNeg then some (H.size + 1 + i) else none))))))]) ++ ((List.range n.toNatClampNeg).map (fun i => H.size + 1 + i)).map (fun a => (a, .inl (cy, z)))) := by
    have hD1 := hD.push (e := .inl (cA, n.toNatClampNeg, .inr (.inr (.inr (.inr (fun i => if i < n.toNatClampNeg then some (H.size + 1 + i) else none)))))) hP rfl (hA _ hS.1)
    generalize hW1 : (X ++ va_pl L f) ++ [(H.size, .inl (cA, n.toNatClampNeg, .inr (.inr (.inr (.inr (fun i => if i < n.toNatClampNeg then some (H.size + 1 + i) else none))))))] = W1 at hD1 hP1 ⊢
    have hle : ∀ (k9 : Nat) (x : Nat × va_E), W1[k9]? = some x → x.1 ≤ H.size := fun k9 x hx => by
      rw [← hW1] at hx
      by_cases hl : k9 < (X ++ va_pl L f).length
      · rw [List.getElem?_append_left hl] at hx
        exact Nat.le_of_lt ((hP k9 x hx).lt)
      · rw [List.getElem?_append_right (by omega)] at hx
        have h0 : k9 - (X ++ va_pl L f).length < 1 := (List.getElem?_eq_some_iff.mp hx).1
        rw [show k9 - (X ++ va_pl L f).length = 0 by omega] at hx
        cases hx
        exact Nat.le_refl _
    have hr : ∀ (k9 : Nat) (x : Nat × va_E), (((List.range n.toNatClampNeg).map (fun i => H.size + 1 + i)).map (fun a => ((a, .inl (cy, z)) : Nat × va_E)))[k9]? = some x → x.1 = H.size + 1 + k9 := fun k9 x hx => by
      rw [List.getElem?_map, List.getElem?_map] at hx
      by_cases h9 : k9 < n.toNatClampNeg
      · rw [List.getElem?_range h9] at hx
        cases hx
        rfl
      · have hn0 : (List.range n.toNatClampNeg)[k9]? = none := List.getElem?_eq_none (by rw [List.length_range]; omega)
        rw [hn0] at hx
        cases hx
    refine ⟨fun i j x y hi hj hxy => ?_, fun k9 x hx => ?_⟩
    · by_cases h1 : i < W1.length <;> by_cases h2 : j < W1.length
      · rw [List.getElem?_append_left h1] at hi
        rw [List.getElem?_append_left h2] at hj
        exact hD1.1 i j x y hi hj hxy
      · rw [List.getElem?_append_left h1] at hi
        rw [List.getElem?_append_right (by omega)] at hj
        have := hle _ _ hi
        have := hr _ _ hj
        omega
      · rw [List.getElem?_append_right (by omega)] at hi
        rw [List.getElem?_append_left h2] at hj
        have := hle _ _ hj
        have := hr _ _ hi
        omega
      · rw [List.getElem?_append_right (by omega)] at hi hj
        have := hr _ _ hi
        have := hr _ _ hj
        omega
    · by_cases h1 : k9 < W1.length
      · rw [List.getElem?_append_left h1] at hx
        exact hD1.2 k9 x hx
      · rw [List.getElem?_append_right (by omega)] at hx
        have := hr _ _ hx
        exact hA _ (by have := hS.1; omega)
  have hAr : ArrOfT s cA (.array ty) := fun N9 z9 => by
    obtain ⟨-, k9, hk9, cm9, hkk9⟩ := (hO 0 0 0).1
    exact ⟨(fun q hq => by cases hq), k9, hk9, cm9, hkk9⟩
  have hK2 : va_K D cl (tys ++ [(cA, .array ty)]) s := ⟨hK.1, fun k9 x hx => by
    by_cases hl : k9 < tys.length
    · rw [List.getElem?_append_left hl] at hx
      exact hK.2 k9 x hx
    · rw [List.getElem?_append_right (by omega)] at hx
      have h0 : k9 - tys.length < 1 := (List.getElem?_eq_some_iff.mp hx).1
      rw [show k9 - tys.length = 0 by omega] at hx
      cases hx
      exact ⟨hAr, fA⟩⟩
  obtain ⟨t, a1, b1⟩ := kk H.size (fun i => H.size + 1 + i) cA F.heap (fun i j _ _ h => by have h9 : H.size + 1 + i = H.size + 1 + j := h; omega) hnl hK2 (by rw [← vr_rows hnm]; exact vr_lay hP2) (by rw [← vr_rows hnm]; exact vr_layD hD2) ⟨by rw [f1]; have := hS.1; omega, fun x h1 h2 => (hold x (Nat.lt_of_lt_of_le h1 hS.1)).trans (hS.2.1 x h1 h2), hS.2.2⟩ F rfl X'
  refine ⟨t, step t ?_, b1⟩
  have e : T.heap.size = H.size := by rw [hT]
  rw [e]
  exact a1
end VGM
/-! ===== END ===== -/

def RX0 : String := "OwnSunday$Book"
def TX0 : u_T := fun k => match k with
  | 0 => ("OwnSunday$Book", "week", "[I", true)
  | 1 => ("OwnSunday$Book", "rest", "[I", true)
  | 2 => ("OwnSunday$Book", "newHouses", "I", false)
  | 3 => ("OwnSunday$Book", "seenCount", "I", false)
  | 4 => ("OwnSunday$Book", "seenDay", "[J", true)
  | 5 => ("OwnSunday$Book", "seenWork", "[I", true)
  | _ => ("OwnSunday$Book", "seenWentBits", "I", false)
def tyX0 : Nat → FieldType := fun k => match k with
  | 0 => .array .int
  | 1 => .array .int
  | 2 => .int
  | 3 => .int
  | 4 => .array .long
  | 5 => .array .int
  | _ => .int
abbrev wsX00 : List Cond := u_ws RX0 TX0 7
theorem nmX0 : ∀ a, a < 7 → ∀ b, b < 7 → a ≠ b → (TX0 a).2.1 ≠ (TX0 b).2.1 := by decide +kernel
theorem tyX0_ok : ∀ k, k < 7 → parseFieldDescriptor (TX0 k).2.2.1 = some (tyX0 k) := by decide +kernel
abbrev cX0_init : ByteArray := prog_2_method_1_code
def yX0_init : MethodName := ⟨RX0, "<init>", "()V"⟩
abbrev cX0_begin : ByteArray := prog_2_method_2_code
def yX0_begin : MethodName := ⟨RX0, "begin", "()V"⟩
abbrev cX0_settleAt : ByteArray := prog_2_method_3_code
def yX0_settleAt : MethodName := ⟨RX0, "settleAt", "(III)V"⟩
abbrev cX0_isNew : ByteArray := prog_2_method_4_code
def yX0_isNew : MethodName := ⟨RX0, "isNew", "(I)Z"⟩
abbrev cX0_seenWent : ByteArray := prog_2_method_5_code
def yX0_seenWent : MethodName := ⟨RX0, "seenWent", "(I)Z"⟩
abbrev cX0_addSeen : ByteArray := prog_2_method_6_code
def yX0_addSeen : MethodName := ⟨RX0, "addSeen", "(JIZ)V"⟩
abbrev cX0_copyFrom : ByteArray := prog_2_method_7_code
def yX0_copyFrom : MethodName := ⟨RX0, "copyFrom", "(LOwnSunday$Book;)V"⟩
def RX1 : String := "OwnSunday$Reader"
def TX1 : u_T := fun k => match k with
  | 0 => ("OwnSunday$Reader", "number", "[I", true)
  | _ => ("OwnSunday$Reader", "placeOfHouse", "[I", true)
def tyX1 : Nat → FieldType := fun k => match k with
  | 0 => .array .int
  | _ => .array .int
abbrev wsX10 : List Cond := u_ws RX1 TX1 2
theorem nmX1 : ∀ a, a < 2 → ∀ b, b < 2 → a ≠ b → (TX1 a).2.1 ≠ (TX1 b).2.1 := by decide +kernel
theorem tyX1_ok : ∀ k, k < 2 → parseFieldDescriptor (TX1 k).2.2.1 = some (tyX1 k) := by decide +kernel
abbrev cX1_init : ByteArray := prog_3_method_1_code
def yX1_init : MethodName := ⟨RX1, "<init>", "()V"⟩
abbrev cX1_read : ByteArray := prog_3_method_2_code
def yX1_read : MethodName := ⟨RX1, "read", "([BILOwnSunday$Town;LOwnSunday$Book;)I"⟩
abbrev cX1_readNumbers : ByteArray := prog_3_method_3_code
def yX1_readNumbers : MethodName := ⟨RX1, "readNumbers", "([BII)I"⟩
abbrev cX1_numbersOf : ByteArray := prog_3_method_4_code
def yX1_numbersOf : MethodName := ⟨RX1, "numbersOf", "(I)I"⟩
abbrev cX1_isFigure : ByteArray := prog_3_method_5_code
def yX1_isFigure : MethodName := ⟨RX1, "isFigure", "([BII)Z"⟩
abbrev cX1_take : ByteArray := prog_3_method_6_code
def yX1_take : MethodName := ⟨RX1, "take", "(IILOwnSunday$Town;LOwnSunday$Book;)Z"⟩
abbrev cX1_takeWeeks : ByteArray := prog_3_method_7_code
def yX1_takeWeeks : MethodName := ⟨RX1, "takeWeeks", "(LOwnSunday$Town;)Z"⟩
abbrev cX1_isWeekLength : ByteArray := prog_3_method_8_code
def yX1_isWeekLength : MethodName := ⟨RX1, "isWeekLength", "(I)Z"⟩
abbrev cX1_takeHouse : ByteArray := prog_3_method_9_code
def yX1_takeHouse : MethodName := ⟨RX1, "takeHouse", "(ILOwnSunday$Town;LOwnSunday$Book;)Z"⟩
abbrev cX1_takeNew : ByteArray := prog_3_method_10_code
def yX1_takeNew : MethodName := ⟨RX1, "takeNew", "(LOwnSunday$Town;LOwnSunday$Book;)Z"⟩
abbrev cX1_takeWork : ByteArray := prog_3_method_11_code
def yX1_takeWork : MethodName := ⟨RX1, "takeWork", "(LOwnSunday$Town;)Z"⟩
abbrev cX1_takeCook : ByteArray := prog_3_method_12_code
def yX1_takeCook : MethodName := ⟨RX1, "takeCook", "(LOwnSunday$Town;)Z"⟩
abbrev cX1_placeOfWrongRest : ByteArray := prog_3_method_13_code
def yX1_placeOfWrongRest : MethodName := ⟨RX1, "placeOfWrongRest", "(LOwnSunday$Town;LOwnSunday$Book;)I"⟩
def RX2 : String := "OwnSunday$Rota"
def TX2 : u_T := fun k => match k with
  | 0 => ("OwnSunday$Rota", "length", "[I", true)
  | 1 => ("OwnSunday$Rota", "resting", "[[I", true)
  | _ => ("OwnSunday$Rota", "common", "I", false)
def tyX2 : Nat → FieldType := fun k => match k with
  | 0 => .array .int
  | 1 => .array (.array .int)
  | _ => .int
abbrev wsX20 : List Cond := u_ws RX2 TX2 3
theorem nmX2 : ∀ a, a < 3 → ∀ b, b < 3 → a ≠ b → (TX2 a).2.1 ≠ (TX2 b).2.1 := by decide +kernel
theorem tyX2_ok : ∀ k, k < 3 → parseFieldDescriptor (TX2 k).2.2.1 = some (tyX2 k) := by decide +kernel
abbrev cX2_init : ByteArray := prog_4_method_1_code
def yX2_init : MethodName := ⟨RX2, "<init>", "()V"⟩
abbrev cX2_fill : ByteArray := prog_4_method_2_code
def yX2_fill : MethodName := ⟨RX2, "fill", "(LOwnSunday$Town;LOwnSunday$Book;I)V"⟩
abbrev cX2_put : ByteArray := prog_4_method_3_code
def yX2_put : MethodName := ⟨RX2, "put", "(III)V"⟩
abbrev cX2_lift : ByteArray := prog_4_method_4_code
def yX2_lift : MethodName := ⟨RX2, "lift", "(III)V"⟩
abbrev cX2_restingOn : ByteArray := prog_4_method_5_code
def yX2_restingOn : MethodName := ⟨RX2, "restingOn", "(J)I"⟩
abbrev cX2_mostResting : ByteArray := prog_4_method_6_code
def yX2_mostResting : MethodName := ⟨RX2, "mostResting", "(I)I"⟩
abbrev cX2_mostOfWeek : ByteArray := prog_4_method_7_code
def yX2_mostOfWeek : MethodName := ⟨RX2, "mostOfWeek", "(III)I"⟩
def RX3 : String := "OwnSunday$Town"
def TX3 : u_T := fun k => match k with
  | 0 => ("OwnSunday$Town", "length", "[I", true)
  | 1 => ("OwnSunday$Town", "houses", "I", false)
  | 2 => ("OwnSunday$Town", "skills", "[I", true)
  | 3 => ("OwnSunday$Town", "street", "[I", true)
  | 4 => ("OwnSunday$Town", "skilled", "[I", true)
  | 5 => ("OwnSunday$Town", "works", "I", false)
  | 6 => ("OwnSunday$Town", "workSkill", "[I", true)
  | 7 => ("OwnSunday$Town", "workNeed", "[I", true)
  | 8 => ("OwnSunday$Town", "workDays", "[I", true)
  | _ => ("OwnSunday$Town", "cook", "I", false)
def tyX3 : Nat → FieldType := fun k => match k with
  | 0 => .array .int
  | 1 => .int
  | 2 => .array .int
  | 3 => .array .int
  | 4 => .array .int
  | 5 => .int
  | 6 => .array .int
  | 7 => .array .int
  | 8 => .array .int
  | _ => .int
abbrev wsX30 : List Cond := u_ws RX3 TX3 10
theorem nmX3 : ∀ a, a < 10 → ∀ b, b < 10 → a ≠ b → (TX3 a).2.1 ≠ (TX3 b).2.1 := by decide +kernel
theorem tyX3_ok : ∀ k, k < 10 → parseFieldDescriptor (TX3 k).2.2.1 = some (tyX3 k) := by decide +kernel
abbrev cX3_init : ByteArray := prog_5_method_1_code
def yX3_init : MethodName := ⟨RX3, "<init>", "()V"⟩
abbrev cX3_begin : ByteArray := prog_5_method_2_code
def yX3_begin : MethodName := ⟨RX3, "begin", "()V"⟩
abbrev cX3_addHouse : ByteArray := prog_5_method_3_code
def yX3_addHouse : MethodName := ⟨RX3, "addHouse", "(II)V"⟩
abbrev cX3_addWork : ByteArray := prog_5_method_4_code
def yX3_addWork : MethodName := ⟨RX3, "addWork", "(III)V"⟩
abbrev cX3_period : ByteArray := prog_5_method_5_code
def yX3_period : MethodName := ⟨RX3, "period", "()I"⟩
abbrev cX3_housesOfStreet : ByteArray := prog_5_method_6_code
def yX3_housesOfStreet : MethodName := ⟨RX3, "housesOfStreet", "(I)I"⟩
abbrev cX3_isShort : ByteArray := prog_5_method_7_code
def yX3_isShort : MethodName := ⟨RX3, "isShort", "(II)Z"⟩
def RX4 : String := "OwnSunday$Ways"
def TX4 : u_T := fun k => match k with
  | 0 => ("OwnSunday$Ways", "newcomers", "I", false)
  | 1 => ("OwnSunday$Ways", "newcomer", "[I", true)
  | 2 => ("OwnSunday$Ways", "week", "[I", true)
  | 3 => ("OwnSunday$Ways", "length", "[I", true)
  | 4 => ("OwnSunday$Ways", "rest", "[I", true)
  | 5 => ("OwnSunday$Ways", "total", "I", false)
  | 6 => ("OwnSunday$Ways", "found", "I", false)
  | 7 => ("OwnSunday$Ways", "least", "I", false)
  | 8 => ("OwnSunday$Ways", "chosen", "[I", true)
  | _ => ("OwnSunday$Ways", "some", "[I", true)
def tyX4 : Nat → FieldType := fun k => match k with
  | 0 => .int
  | 1 => .array .int
  | 2 => .array .int
  | 3 => .array .int
  | 4 => .array .int
  | 5 => .int
  | 6 => .int
  | 7 => .int
  | 8 => .array .int
  | _ => .array .int
abbrev wsX40 : List Cond := u_ws RX4 TX4 10
theorem nmX4 : ∀ a, a < 10 → ∀ b, b < 10 → a ≠ b → (TX4 a).2.1 ≠ (TX4 b).2.1 := by decide +kernel
theorem tyX4_ok : ∀ k, k < 10 → parseFieldDescriptor (TX4 k).2.2.1 = some (tyX4 k) := by decide +kernel
abbrev cX4_init : ByteArray := prog_6_method_1_code
def yX4_init : MethodName := ⟨RX4, "<init>", "()V"⟩
abbrev cX4_begin : ByteArray := prog_6_method_2_code
def yX4_begin : MethodName := ⟨RX4, "begin", "(LOwnSunday$Town;LOwnSunday$Book;)V"⟩
abbrev cX4_advance : ByteArray := prog_6_method_3_code
def yX4_advance : MethodName := ⟨RX4, "advance", "()V"⟩
abbrev cX4_putInto : ByteArray := prog_6_method_4_code
def yX4_putInto : MethodName := ⟨RX4, "putInto", "(LOwnSunday$Rota;)V"⟩
abbrev cX4_liftFrom : ByteArray := prog_6_method_5_code
def yX4_liftFrom : MethodName := ⟨RX4, "liftFrom", "(LOwnSunday$Rota;)V"⟩
abbrev cX4_find : ByteArray := prog_6_method_6_code
def yX4_find : MethodName := ⟨RX4, "find", "(I)V"⟩
abbrev cX4_chosenRest : ByteArray := prog_6_method_7_code
def yX4_chosenRest : MethodName := ⟨RX4, "chosenRest", "(I)I"⟩
abbrev cX4_restsOfSome : ByteArray := prog_6_method_8_code
def yX4_restsOfSome : MethodName := ⟨RX4, "restsOfSome", "(I)I"⟩
abbrev cX4_ofHouse : ByteArray := prog_6_method_9_code
def yX4_ofHouse : MethodName := ⟨RX4, "ofHouse", "([II)I"⟩
def RX5 : String := "OwnSunday"
def TX5 : u_T := fun k => match k with
  | 0 => ("OwnSunday", "text", "[B", true)
  | 1 => ("OwnSunday", "size", "I", false)
  | 2 => ("OwnSunday", "reader", "LOwnSunday$Reader;", true)
  | 3 => ("OwnSunday", "draftTown", "LOwnSunday$Town;", true)
  | 4 => ("OwnSunday", "draftBook", "LOwnSunday$Book;", true)
  | 5 => ("OwnSunday", "town", "LOwnSunday$Town;", true)
  | 6 => ("OwnSunday", "book", "LOwnSunday$Book;", true)
  | 7 => ("OwnSunday", "kept", "[LOwnSunday$Book;", true)
  | 8 => ("OwnSunday", "keptCount", "I", false)
  | 9 => ("OwnSunday", "rota", "LOwnSunday$Rota;", true)
  | 10 => ("OwnSunday", "ways", "LOwnSunday$Ways;", true)
  | _ => ("OwnSunday", "changes", "[I", true)
def tyX5 : Nat → FieldType := fun k => match k with
  | 0 => .array .byte
  | 1 => .int
  | 2 => .object "OwnSunday$Reader"
  | 3 => .object "OwnSunday$Town"
  | 4 => .object "OwnSunday$Book"
  | 5 => .object "OwnSunday$Town"
  | 6 => .object "OwnSunday$Book"
  | 7 => .array (.object "OwnSunday$Book")
  | 8 => .int
  | 9 => .object "OwnSunday$Rota"
  | 10 => .object "OwnSunday$Ways"
  | _ => .array .int
abbrev wsX50 : List Cond := u_ws RX5 TX5 12
theorem nmX5 : ∀ a, a < 12 → ∀ b, b < 12 → a ≠ b → (TX5 a).2.1 ≠ (TX5 b).2.1 := by decide +kernel
theorem tyX5_ok : ∀ k, k < 12 → parseFieldDescriptor (TX5 k).2.2.1 = some (tyX5 k) := by decide +kernel
abbrev cX5_init : ByteArray := prog_1_method_1_code
def yX5_init : MethodName := ⟨RX5, "<init>", "()V"⟩
abbrev cX5_write : ByteArray := prog_1_method_2_code
def yX5_write : MethodName := ⟨RX5, "write", "(IJ)I"⟩
abbrev cX5_wipe : ByteArray := prog_1_method_3_code
def yX5_wipe : MethodName := ⟨RX5, "wipe", "()I"⟩
abbrev cX5_fault : ByteArray := prog_1_method_4_code
def yX5_fault : MethodName := ⟨RX5, "fault", "()I"⟩
abbrev cX5_lay : ByteArray := prog_1_method_5_code
def yX5_lay : MethodName := ⟨RX5, "lay", "()I"⟩
abbrev cX5_house : ByteArray := prog_1_method_6_code
def yX5_house : MethodName := ⟨RX5, "house", "(II)I"⟩
abbrev cX5_up : ByteArray := prog_1_method_7_code
def yX5_up : MethodName := ⟨RX5, "up", "(J)I"⟩
abbrev cX5_hands : ByteArray := prog_1_method_8_code
def yX5_hands : MethodName := ⟨RX5, "hands", "(IJ)I"⟩
abbrev cX5_judge : ByteArray := prog_1_method_9_code
def yX5_judge : MethodName := ⟨RX5, "judge", "(JI)J"⟩
abbrev cX5_still : ByteArray := prog_1_method_10_code
def yX5_still : MethodName := ⟨RX5, "still", "(I)I"⟩
abbrev cX5_together : ByteArray := prog_1_method_11_code
def yX5_together : MethodName := ⟨RX5, "together", "(IJ)J"⟩
abbrev cX5_often : ByteArray := prog_1_method_12_code
def yX5_often : MethodName := ⟨RX5, "often", "(IJJ)J"⟩
abbrev cX5_longest : ByteArray := prog_1_method_13_code
def yX5_longest : MethodName := ⟨RX5, "longest", "(I)I"⟩
abbrev cX5_street : ByteArray := prog_1_method_14_code
def yX5_street : MethodName := ⟨RX5, "street", "(IJ)J"⟩
abbrev cX5_same : ByteArray := prog_1_method_15_code
def yX5_same : MethodName := ⟨RX5, "same", "(I)I"⟩
abbrev cX5_harvest : ByteArray := prog_1_method_16_code
def yX5_harvest : MethodName := ⟨RX5, "harvest", "(IJJ)J"⟩
abbrev cX5_settled : ByteArray := prog_1_method_17_code
def yX5_settled : MethodName := ⟨RX5, "settled", "(I)I"⟩
abbrev cX5_years : ByteArray := prog_1_method_18_code
def yX5_years : MethodName := ⟨RX5, "years", "(II)I"⟩
abbrev cX5_wedding : ByteArray := prog_1_method_19_code
def yX5_wedding : MethodName := ⟨RX5, "wedding", "(III)I"⟩
abbrev cX5_seen : ByteArray := prog_1_method_20_code
def yX5_seen : MethodName := ⟨RX5, "seen", "(JIZ)I"⟩
abbrev cX5_forget : ByteArray := prog_1_method_21_code
def yX5_forget : MethodName := ⟨RX5, "forget", "()I"⟩
abbrev cX5_fits : ByteArray := prog_1_method_22_code
def yX5_fits : MethodName := ⟨RX5, "fits", "(IZ)I"⟩
abbrev cX5_fire : ByteArray := prog_1_method_23_code
def yX5_fire : MethodName := ⟨RX5, "fire", "(IIJI)I"⟩
abbrev cX5_change : ByteArray := prog_1_method_24_code
def yX5_change : MethodName := ⟨RX5, "change", "(II)I"⟩
abbrev cX5_wed : ByteArray := prog_1_method_25_code
def yX5_wed : MethodName := ⟨RX5, "wed", "(II)I"⟩
abbrev cX5_settle : ByteArray := prog_1_method_26_code
def yX5_settle : MethodName := ⟨RX5, "settle", "()I"⟩
abbrev cX5_keep : ByteArray := prog_1_method_27_code
def yX5_keep : MethodName := ⟨RX5, "keep", "()I"⟩
abbrev cX5_back : ByteArray := prog_1_method_28_code
def yX5_back : MethodName := ⟨RX5, "back", "()I"⟩
abbrev cX5_count : ByteArray := prog_1_method_29_code
def yX5_count : MethodName := ⟨RX5, "count", "(I)I"⟩
abbrev cX5_isHouse : ByteArray := prog_1_method_30_code
def yX5_isHouse : MethodName := ⟨RX5, "isHouse", "(I)Z"⟩
abbrev cX5_isNewHouse : ByteArray := prog_1_method_31_code
def yX5_isNewHouse : MethodName := ⟨RX5, "isNewHouse", "(I)Z"⟩
abbrev cX5_isWork : ByteArray := prog_1_method_32_code
def yX5_isWork : MethodName := ⟨RX5, "isWork", "(I)Z"⟩
abbrev cX5_isSet : ByteArray := prog_1_method_33_code
def yX5_isSet : MethodName := ⟨RX5, "isSet", "(I)Z"⟩
abbrev cX5_isSkill : ByteArray := prog_1_method_34_code
def yX5_isSkill : MethodName := ⟨RX5, "isSkill", "(I)Z"⟩
abbrev cX5_isDay : ByteArray := prog_1_method_35_code
def yX5_isDay : MethodName := ⟨RX5, "isDay", "(J)Z"⟩
abbrev cX5_fillRota : ByteArray := prog_1_method_36_code
def yX5_fillRota : MethodName := ⟨RX5, "fillRota", "()V"⟩
abbrev cX5_weekLength : ByteArray := prog_1_method_37_code
def yX5_weekLength : MethodName := ⟨RX5, "weekLength", "(I)I"⟩
abbrev cX5_upOn : ByteArray := prog_1_method_38_code
def yX5_upOn : MethodName := ⟨RX5, "upOn", "(J)I"⟩
abbrev cX5_handsOn : ByteArray := prog_1_method_39_code
def yX5_handsOn : MethodName := ⟨RX5, "handsOn", "(IJ)I"⟩
abbrev cX5_allUp : ByteArray := prog_1_method_40_code
def yX5_allUp : MethodName := ⟨RX5, "allUp", "(IJ)Z"⟩
abbrev cX5_cookRests : ByteArray := prog_1_method_41_code
def yX5_cookRests : MethodName := ⟨RX5, "cookRests", "(J)Z"⟩
abbrev cX5_dayOfFire : ByteArray := prog_1_method_42_code
def yX5_dayOfFire : MethodName := ⟨RX5, "dayOfFire", "(IIJ)J"⟩
abbrev cX5_firstShort : ByteArray := prog_1_method_43_code
def yX5_firstShort : MethodName := ⟨RX5, "firstShort", "(I)I"⟩
abbrev cX5_daysAllUp : ByteArray := prog_1_method_44_code
def yX5_daysAllUp : MethodName := ⟨RX5, "daysAllUp", "(IJI)I"⟩
abbrev cX5_firstDayResting : ByteArray := prog_1_method_45_code
def yX5_firstDayResting : MethodName := ⟨RX5, "firstDayResting", "(I)I"⟩
abbrev cX5_daysToDo : ByteArray := prog_1_method_46_code
def yX5_daysToDo : MethodName := ⟨RX5, "daysToDo", "(IJJ)I"⟩
abbrev cX5_everShort : ByteArray := prog_1_method_47_code
def yX5_everShort : MethodName := ⟨RX5, "everShort", "(I)Z"⟩
abbrev cX5_anyEverShort : ByteArray := prog_1_method_48_code
def yX5_anyEverShort : MethodName := ⟨RX5, "anyEverShort", "()Z"⟩
abbrev cX5_shortDaysWed : ByteArray := prog_1_method_49_code
def yX5_shortDaysWed : MethodName := ⟨RX5, "shortDaysWed", "(III)I"⟩
abbrev cX5_goThroughSettled : ByteArray := prog_1_method_50_code
def yX5_goThroughSettled : MethodName := ⟨RX5, "goThroughSettled", "()V"⟩
abbrev cX5_goThroughFits : ByteArray := prog_1_method_51_code
def yX5_goThroughFits : MethodName := ⟨RX5, "goThroughFits", "()V"⟩
abbrev cX5_allSeenWasSo : ByteArray := prog_1_method_52_code
def yX5_allSeenWasSo : MethodName := ⟨RX5, "allSeenWasSo", "()Z"⟩
abbrev cX5_findOneChange : ByteArray := prog_1_method_53_code
def yX5_findOneChange : MethodName := ⟨RX5, "findOneChange", "(I)Z"⟩
abbrev cX5_findTwoChanges : ByteArray := prog_1_method_54_code
def yX5_findTwoChanges : MethodName := ⟨RX5, "findTwoChanges", "(I)V"⟩
abbrev cX5_findSecondChange : ByteArray := prog_1_method_55_code
def yX5_findSecondChange : MethodName := ⟨RX5, "findSecondChange", "(III)Z"⟩
abbrev cX5_hasSkillOf : ByteArray := prog_1_method_56_code
def yX5_hasSkillOf : MethodName := ⟨RX5, "hasSkillOf", "(II)Z"⟩
abbrev cX5_helpfulRest : ByteArray := prog_1_method_57_code
def yX5_helpfulRest : MethodName := ⟨RX5, "helpfulRest", "(II)I"⟩
def RX6 : String := "OwnSundayModel"
def TX6 : u_T := fun k => match k with
  | 0 => ("OwnSundayModel", "length", "I", false)
  | 1 => ("OwnSundayModel", "text", "[B", true)
  | 2 => ("OwnSundayModel", "at", "I", false)
  | 3 => ("OwnSundayModel", "weeks", "[I", true)
  | 4 => ("OwnSundayModel", "houses", "[I", true)
  | 5 => ("OwnSundayModel", "works", "[I", true)
  | 6 => ("OwnSundayModel", "cook", "[I", true)
  | 7 => ("OwnSundayModel", "house", "[I", true)
  | 8 => ("OwnSundayModel", "place", "[I", true)
  | 9 => ("OwnSundayModel", "work", "[I", true)
  | 10 => ("OwnSundayModel", "isNew", "[Z", true)
  | 11 => ("OwnSundayModel", "seen", "I", false)
  | 12 => ("OwnSundayModel", "seenDay", "[J", true)
  | 13 => ("OwnSundayModel", "seenWork", "[I", true)
  | 14 => ("OwnSundayModel", "went", "[Z", true)
  | 15 => ("OwnSundayModel", "kept", "I", false)
  | 16 => ("OwnSundayModel", "keptHouse", "[I", true)
  | 17 => ("OwnSundayModel", "keptNew", "[Z", true)
  | 18 => ("OwnSundayModel", "keptSeen", "[I", true)
  | 19 => ("OwnSundayModel", "keptDay", "[J", true)
  | 20 => ("OwnSundayModel", "keptWork", "[I", true)
  | 21 => ("OwnSundayModel", "keptWent", "[Z", true)
  | 22 => ("OwnSundayModel", "old", "[I", true)
  | 23 => ("OwnSundayModel", "first", "[I", true)
  | 24 => ("OwnSundayModel", "some", "[I", true)
  | 25 => ("OwnSundayModel", "ways", "I", false)
  | 26 => ("OwnSundayModel", "fairest", "I", false)
  | 27 => ("OwnSundayModel", "changes", "[I", true)
  | 28 => ("OwnSundayModel", "got", "[I", true)
  | _ => ("OwnSundayModel", "sameDay", "I", false)
def tyX6 : Nat → FieldType := fun k => match k with
  | 0 => .int
  | 1 => .array .byte
  | 2 => .int
  | 3 => .array .int
  | 4 => .array .int
  | 5 => .array .int
  | 6 => .array .int
  | 7 => .array .int
  | 8 => .array .int
  | 9 => .array .int
  | 10 => .array .boolean
  | 11 => .int
  | 12 => .array .long
  | 13 => .array .int
  | 14 => .array .boolean
  | 15 => .int
  | 16 => .array .int
  | 17 => .array .boolean
  | 18 => .array .int
  | 19 => .array .long
  | 20 => .array .int
  | 21 => .array .boolean
  | 22 => .array .int
  | 23 => .array .int
  | 24 => .array .int
  | 25 => .int
  | 26 => .int
  | 27 => .array .int
  | 28 => .array .int
  | _ => .int
abbrev wsX60 : List Cond := u_ws RX6 TX6 30
theorem nmX6 : ∀ a, a < 30 → ∀ b, b < 30 → a ≠ b → (TX6 a).2.1 ≠ (TX6 b).2.1 := by decide +kernel
theorem tyX6_ok : ∀ k, k < 30 → parseFieldDescriptor (TX6 k).2.2.1 = some (tyX6 k) := by decide +kernel
abbrev cX6_init : ByteArray := prog_8_method_1_code
def yX6_init : MethodName := ⟨RX6, "<init>", "()V"⟩
abbrev cX6_in : ByteArray := prog_8_method_2_code
def yX6_in : MethodName := ⟨RX6, "in", "(JJJ)Z"⟩
abbrev cX6_write : ByteArray := prog_8_method_3_code
def yX6_write : MethodName := ⟨RX6, "write", "(IJ)I"⟩
abbrev cX6_wipe : ByteArray := prog_8_method_4_code
def yX6_wipe : MethodName := ⟨RX6, "wipe", "()I"⟩
abbrev cX6_number : ByteArray := prog_8_method_5_code
def yX6_number : MethodName := ⟨RX6, "number", "()I"⟩
abbrev cX6_parts : ByteArray := prog_8_method_6_code
def yX6_parts : MethodName := ⟨RX6, "parts", "(I)I"⟩
abbrev cX6_isItem : ByteArray := prog_8_method_7_code
def yX6_isItem : MethodName := ⟨RX6, "isItem", "()Z"⟩
abbrev cX6_isGood : ByteArray := prog_8_method_8_code
def yX6_isGood : MethodName := ⟨RX6, "isGood", "(II)Z"⟩
abbrev cX6_begins : ByteArray := prog_8_method_9_code
def yX6_begins : MethodName := ⟨RX6, "begins", "()V"⟩
abbrev cX6_takes : ByteArray := prog_8_method_10_code
def yX6_takes : MethodName := ⟨RX6, "takes", "()V"⟩
abbrev cX6_fault : ByteArray := prog_8_method_11_code
def yX6_fault : MethodName := ⟨RX6, "fault", "()I"⟩
abbrev cX6_lay : ByteArray := prog_8_method_12_code
def yX6_lay : MethodName := ⟨RX6, "lay", "()I"⟩
abbrev cX6_isHouse : ByteArray := prog_8_method_13_code
def yX6_isHouse : MethodName := ⟨RX6, "isHouse", "(I)Z"⟩
abbrev cX6_isWork : ByteArray := prog_8_method_14_code
def yX6_isWork : MethodName := ⟨RX6, "isWork", "(I)Z"⟩
abbrev cX6_isDay : ByteArray := prog_8_method_15_code
def yX6_isDay : MethodName := ⟨RX6, "isDay", "(J)Z"⟩
abbrev cX6_house : ByteArray := prog_8_method_16_code
def yX6_house : MethodName := ⟨RX6, "house", "(II)I"⟩
abbrev cX6_weekOf : ByteArray := prog_8_method_17_code
def yX6_weekOf : MethodName := ⟨RX6, "weekOf", "(I)I"⟩
abbrev cX6_isUp : ByteArray := prog_8_method_18_code
def yX6_isUp : MethodName := ⟨RX6, "isUp", "(IJ)Z"⟩
abbrev cX6_period : ByteArray := prog_8_method_19_code
def yX6_period : MethodName := ⟨RX6, "period", "()I"⟩
abbrev cX6_upOn : ByteArray := prog_8_method_20_code
def yX6_upOn : MethodName := ⟨RX6, "upOn", "(J)I"⟩
abbrev cX6_bits : ByteArray := prog_8_method_21_code
def yX6_bits : MethodName := ⟨RX6, "bits", "(I)I"⟩
abbrev cX6_handsOn : ByteArray := prog_8_method_22_code
def yX6_handsOn : MethodName := ⟨RX6, "handsOn", "(IJ)I"⟩
abbrev cX6_up : ByteArray := prog_8_method_23_code
def yX6_up : MethodName := ⟨RX6, "up", "(J)I"⟩
abbrev cX6_hands : ByteArray := prog_8_method_24_code
def yX6_hands : MethodName := ⟨RX6, "hands", "(IJ)I"⟩
abbrev cX6_isShort : ByteArray := prog_8_method_25_code
def yX6_isShort : MethodName := ⟨RX6, "isShort", "(IJ)Z"⟩
abbrev cX6_shortOn : ByteArray := prog_8_method_26_code
def yX6_shortOn : MethodName := ⟨RX6, "shortOn", "(J)I"⟩
abbrev cX6_judge : ByteArray := prog_8_method_27_code
def yX6_judge : MethodName := ⟨RX6, "judge", "(JI)J"⟩
abbrev cX6_still : ByteArray := prog_8_method_28_code
def yX6_still : MethodName := ⟨RX6, "still", "(I)I"⟩
abbrev cX6_isSet : ByteArray := prog_8_method_29_code
def yX6_isSet : MethodName := ⟨RX6, "isSet", "(I)Z"⟩
abbrev cX6_areUp : ByteArray := prog_8_method_30_code
def yX6_areUp : MethodName := ⟨RX6, "areUp", "(IJ)Z"⟩
abbrev cX6_together : ByteArray := prog_8_method_31_code
def yX6_together : MethodName := ⟨RX6, "together", "(IJ)J"⟩
abbrev cX6_often : ByteArray := prog_8_method_32_code
def yX6_often : MethodName := ⟨RX6, "often", "(IJJ)J"⟩
abbrev cX6_longest : ByteArray := prog_8_method_33_code
def yX6_longest : MethodName := ⟨RX6, "longest", "(I)I"⟩
abbrev cX6_street : ByteArray := prog_8_method_34_code
def yX6_street : MethodName := ⟨RX6, "street", "(IJ)J"⟩
abbrev cX6_mostRest : ByteArray := prog_8_method_35_code
def yX6_mostRest : MethodName := ⟨RX6, "mostRest", "()I"⟩
abbrev cX6_same : ByteArray := prog_8_method_36_code
def yX6_same : MethodName := ⟨RX6, "same", "(I)I"⟩
abbrev cX6_harvest : ByteArray := prog_8_method_37_code
def yX6_harvest : MethodName := ⟨RX6, "harvest", "(IJJ)J"⟩
abbrev cX6_isAll : ByteArray := prog_8_method_38_code
def yX6_isAll : MethodName := ⟨RX6, "isAll", "()Z"⟩
abbrev cX6_fitsSeen : ByteArray := prog_8_method_39_code
def yX6_fitsSeen : MethodName := ⟨RX6, "fitsSeen", "()Z"⟩
abbrev cX6_settles : ByteArray := prog_8_method_40_code
def yX6_settles : MethodName := ⟨RX6, "settles", "(Z)V"⟩
abbrev cX6_counts : ByteArray := prog_8_method_41_code
def yX6_counts : MethodName := ⟨RX6, "counts", "(Z)V"⟩
abbrev cX6_settled : ByteArray := prog_8_method_42_code
def yX6_settled : MethodName := ⟨RX6, "settled", "(I)I"⟩
abbrev cX6_goesOn : ByteArray := prog_8_method_43_code
def yX6_goesOn : MethodName := ⟨RX6, "goesOn", "(I)Z"⟩
abbrev cX6_changesOne : ByteArray := prog_8_method_44_code
def yX6_changesOne : MethodName := ⟨RX6, "changesOne", "(III)Z"⟩
abbrev cX6_changesTwo : ByteArray := prog_8_method_45_code
def yX6_changesTwo : MethodName := ⟨RX6, "changesTwo", "(I)Z"⟩
abbrev cX6_years : ByteArray := prog_8_method_46_code
def yX6_years : MethodName := ⟨RX6, "years", "(II)I"⟩
abbrev cX6_days : ByteArray := prog_8_method_47_code
def yX6_days : MethodName := ⟨RX6, "days", "(II)I"⟩
abbrev cX6_wedding : ByteArray := prog_8_method_48_code
def yX6_wedding : MethodName := ⟨RX6, "wedding", "(III)I"⟩
abbrev cX6_seen : ByteArray := prog_8_method_49_code
def yX6_seen : MethodName := ⟨RX6, "seen", "(JIZ)I"⟩
abbrev cX6_forget : ByteArray := prog_8_method_50_code
def yX6_forget : MethodName := ⟨RX6, "forget", "()I"⟩
abbrev cX6_fits : ByteArray := prog_8_method_51_code
def yX6_fits : MethodName := ⟨RX6, "fits", "(IZ)I"⟩
abbrev cX6_fireDay : ByteArray := prog_8_method_52_code
def yX6_fireDay : MethodName := ⟨RX6, "fireDay", "(IIJ)J"⟩
abbrev cX6_fire : ByteArray := prog_8_method_53_code
def yX6_fire : MethodName := ⟨RX6, "fire", "(IIJI)I"⟩
abbrev cX6_change : ByteArray := prog_8_method_54_code
def yX6_change : MethodName := ⟨RX6, "change", "(II)I"⟩
abbrev cX6_wed : ByteArray := prog_8_method_55_code
def yX6_wed : MethodName := ⟨RX6, "wed", "(II)I"⟩
abbrev cX6_newMany : ByteArray := prog_8_method_56_code
def yX6_newMany : MethodName := ⟨RX6, "newMany", "()I"⟩
abbrev cX6_settle : ByteArray := prog_8_method_57_code
def yX6_settle : MethodName := ⟨RX6, "settle", "()I"⟩
abbrev cX6_keep : ByteArray := prog_8_method_58_code
def yX6_keep : MethodName := ⟨RX6, "keep", "()I"⟩
abbrev cX6_back : ByteArray := prog_8_method_59_code
def yX6_back : MethodName := ⟨RX6, "back", "()I"⟩
abbrev cX6_count : ByteArray := prog_8_method_60_code
def yX6_count : MethodName := ⟨RX6, "count", "(I)I"⟩
def RJ6 : String := "java/lang/Integer"
def TJ6 : u_T := fun k => match k with
  | _ => ("", "", "", false)
def tyJ6 : Nat → FieldType := fun k => match k with
  | _ => .int
abbrev wsJ60 : List Cond := u_ws RJ6 TJ6 0
theorem nmJ6 : ∀ a, a < 0 → ∀ b, b < 0 → a ≠ b → (TJ6 a).2.1 ≠ (TJ6 b).2.1 := by decide +kernel
theorem tyJ6_ok : ∀ k, k < 0 → parseFieldDescriptor (TJ6 k).2.2.1 = some (tyJ6 k) := by decide +kernel
abbrev cJ6_bitCount_0f7a4 : ByteArray := prog_9_method_49_code
def yJ6_bitCount_0f7a4 : MethodName := ⟨RJ6, "bitCount", "(I)I"⟩
def RJ9 : String := "java/lang/Math"
def TJ9 : u_T := fun k => match k with
  | _ => ("", "", "", false)
def tyJ9 : Nat → FieldType := fun k => match k with
  | _ => .int
abbrev wsJ90 : List Cond := u_ws RJ9 TJ9 0
theorem nmJ9 : ∀ a, a < 0 → ∀ b, b < 0 → a ≠ b → (TJ9 a).2.1 ≠ (TJ9 b).2.1 := by decide +kernel
theorem tyJ9_ok : ∀ k, k < 0 → parseFieldDescriptor (TJ9 k).2.2.1 = some (tyJ9 k) := by decide +kernel
abbrev cJ9_max_7cf53 : ByteArray := prog_10_method_65_code
def yJ9_max_7cf53 : MethodName := ⟨RJ9, "max", "(II)I"⟩
abbrev cJ9_min_7cf53 : ByteArray := prog_10_method_69_code
def yJ9_min_7cf53 : MethodName := ⟨RJ9, "min", "(II)I"⟩
def RJ10 : String := "java/lang/System"
def TJ10 : u_T := fun k => match k with
  | _ => ("", "", "", false)
def tyJ10 : Nat → FieldType := fun k => match k with
  | _ => .int
abbrev wsJ100 : List Cond := u_ws RJ10 TJ10 0
theorem nmJ10 : ∀ a, a < 0 → ∀ b, b < 0 → a ≠ b → (TJ10 a).2.1 ≠ (TJ10 b).2.1 := by decide +kernel
theorem tyJ10_ok : ∀ k, k < 0 → parseFieldDescriptor (TJ10 k).2.2.1 = some (tyJ10 k) := by decide +kernel
def RJ7 : String := "java/util/Arrays"
def TJ7 : u_T := fun k => match k with
  | _ => ("", "", "", false)
def tyJ7 : Nat → FieldType := fun k => match k with
  | _ => .int
abbrev wsJ70 : List Cond := u_ws RJ7 TJ7 0
theorem nmJ7 : ∀ a, a < 0 → ∀ b, b < 0 → a ≠ b → (TJ7 a).2.1 ≠ (TJ7 b).2.1 := by decide +kernel
theorem tyJ7_ok : ∀ k, k < 0 → parseFieldDescriptor (TJ7 k).2.2.1 = some (tyJ7 k) := by decide +kernel
abbrev cJ7_fill_53178 : ByteArray := prog_12_method_103_code
def yJ7_fill_53178 : MethodName := ⟨RJ7, "fill", "([II)V"⟩
def RL : String := "OwnSundayLaw"
abbrev cL_law : ByteArray := code
def yL_law : MethodName := ⟨RL, "law", "([I)Z"⟩
abbrev vwCl : List vw_C := [(RX0, TX0, 7), (RX1, TX1, 2), (RX2, TX2, 3), (RX3, TX3, 10), (RX4, TX4, 10), (RX5, TX5, 12), (RX6, TX6, 30)]
abbrev mz_E : Type := MethodName × ByteArray × Nat × Option FieldType × Nat × Nat × Nat × Nat × Nat × Nat × Nat
/-- the methods: name, code, locals, answer, kind (0 static, 1 virtual, 2 init), class, parameters, places of its words (code, kind, selects, initialized) -/
def mz_T : List mz_E := [
  (yX0_init, cX0_init, 1, none, 2, 0, 0, 155, 154, 0, 65),
  (yX0_begin, cX0_begin, 1, none, 1, 0, 0, 264, 262, 263, 65),
  (yX0_settleAt, cX0_settleAt, 4, none, 1, 0, 3, 268, 266, 267, 65),
  (yX0_isNew, cX0_isNew, 2, some .boolean, 1, 0, 1, 396, 394, 395, 65),
  (yX0_seenWent, cX0_seenWent, 2, some .boolean, 1, 0, 1, 655, 653, 654, 65),
  (yX0_addSeen, cX0_addSeen, 6, none, 1, 0, 3, 635, 633, 634, 65),
  (yX0_copyFrom, cX0_copyFrom, 2, none, 1, 0, 1, 692, 690, 691, 65),
  (yX1_init, cX1_init, 1, none, 2, 1, 0, 85, 84, 0, 63),
  (yX1_read, cX1_read, 8, some .int, 1, 1, 4, 325, 323, 324, 63),
  (yX1_readNumbers, cX1_readNumbers, 8, some .int, 1, 1, 3, 331, 330, 0, 63),
  (yX1_numbersOf, cX1_numbersOf, 1, some .int, 0, 1, 1, 334, 333, 0, 63),
  (yX1_isFigure, cX1_isFigure, 3, some .boolean, 0, 1, 3, 337, 336, 0, 63),
  (yX1_take, cX1_take, 5, some .boolean, 1, 1, 4, 341, 340, 1, 63),
  (yX1_takeWeeks, cX1_takeWeeks, 2, some .boolean, 1, 1, 1, 345, 344, 2, 63),
  (yX1_isWeekLength, cX1_isWeekLength, 1, some .boolean, 0, 1, 1, 348, 347, 0, 63),
  (yX1_takeHouse, cX1_takeHouse, 4, some .boolean, 1, 1, 3, 352, 351, 3, 63),
  (yX1_takeNew, cX1_takeNew, 4, some .boolean, 1, 1, 2, 358, 357, 4, 63),
  (yX1_takeWork, cX1_takeWork, 2, some .boolean, 1, 1, 1, 368, 367, 5, 63),
  (yX1_takeCook, cX1_takeCook, 2, some .boolean, 1, 1, 1, 376, 375, 6, 63),
  (yX1_placeOfWrongRest, cX1_placeOfWrongRest, 4, some .int, 1, 1, 2, 380, 379, 7, 63),
  (yX2_init, cX2_init, 1, none, 2, 2, 0, 197, 196, 0, 66),
  (yX2_fill, cX2_fill, 5, none, 1, 2, 3, 412, 410, 411, 66),
  (yX2_put, cX2_put, 4, none, 1, 2, 3, 425, 423, 424, 66),
  (yX2_lift, cX2_lift, 4, none, 1, 2, 3, 576, 574, 575, 66),
  (yX2_restingOn, cX2_restingOn, 3, some .int, 1, 2, 1, 433, 431, 432, 66),
  (yX2_mostResting, cX2_mostResting, 4, some .int, 1, 2, 1, 514, 512, 513, 66),
  (yX2_mostOfWeek, cX2_mostOfWeek, 7, some .int, 1, 2, 3, 518, 517, 17, 66),
  (yX3_init, cX3_init, 1, none, 2, 3, 0, 100, 99, 0, 64),
  (yX3_begin, cX3_begin, 1, none, 1, 3, 0, 257, 255, 256, 64),
  (yX3_addHouse, cX3_addHouse, 4, none, 1, 3, 2, 272, 270, 271, 64),
  (yX3_addWork, cX3_addWork, 4, none, 1, 3, 3, 372, 370, 371, 64),
  (yX3_period, cX3_period, 4, some .int, 1, 3, 0, 417, 415, 416, 64),
  (yX3_housesOfStreet, cX3_housesOfStreet, 4, some .int, 1, 3, 1, 506, 504, 505, 64),
  (yX3_isShort, cX3_isShort, 3, some .boolean, 1, 3, 2, 462, 460, 461, 64),
  (yX4_init, cX4_init, 1, none, 2, 4, 0, 215, 214, 0, 67),
  (yX4_begin, cX4_begin, 4, none, 1, 4, 2, 547, 545, 546, 67),
  (yX4_advance, cX4_advance, 2, none, 1, 4, 0, 580, 578, 579, 67),
  (yX4_putInto, cX4_putInto, 3, none, 1, 4, 1, 552, 550, 551, 67),
  (yX4_liftFrom, cX4_liftFrom, 3, none, 1, 4, 1, 572, 570, 571, 67),
  (yX4_find, cX4_find, 3, none, 1, 4, 1, 565, 563, 564, 67),
  (yX4_chosenRest, cX4_chosenRest, 2, some .int, 1, 4, 1, 584, 582, 583, 67),
  (yX4_restsOfSome, cX4_restsOfSome, 2, some .int, 1, 4, 1, 659, 657, 658, 67),
  (yX4_ofHouse, cX4_ofHouse, 4, some .int, 1, 4, 2, 588, 587, 24, 67),
  (yX5_init, cX5_init, 2, none, 2, 5, 0, 77, 76, 0, 62),
  (yX5_write, cX5_write, 5, some .int, 1, 5, 2, 313, 311, 312, 62),
  (yX5_wipe, cX5_wipe, 2, some .int, 1, 5, 0, 317, 315, 316, 62),
  (yX5_fault, cX5_fault, 1, some .int, 1, 5, 0, 321, 319, 320, 62),
  (yX5_lay, cX5_lay, 1, some .int, 1, 5, 0, 384, 382, 383, 62),
  (yX5_house, cX5_house, 3, some .int, 1, 5, 2, 388, 386, 387, 62),
  (yX5_up, cX5_up, 3, some .int, 1, 5, 1, 400, 398, 399, 62),
  (yX5_hands, cX5_hands, 4, some .int, 1, 5, 2, 437, 435, 436, 62),
  (yX5_judge, cX5_judge, 7, some .long, 1, 5, 2, 449, 447, 448, 62),
  (yX5_still, cX5_still, 6, some .int, 1, 5, 1, 468, 466, 467, 62),
  (yX5_together, cX5_together, 6, some .long, 1, 5, 2, 476, 474, 475, 62),
  (yX5_often, cX5_often, 10, some .long, 1, 5, 3, 488, 486, 487, 62),
  (yX5_longest, cX5_longest, 6, some .int, 1, 5, 1, 497, 495, 496, 62),
  (yX5_street, cX5_street, 7, some .long, 1, 5, 2, 502, 500, 501, 62),
  (yX5_same, cX5_same, 3, some .int, 1, 5, 1, 510, 508, 509, 62),
  (yX5_harvest, cX5_harvest, 11, some .long, 1, 5, 3, 527, 525, 526, 62),
  (yX5_settled, cX5_settled, 2, some .int, 1, 5, 1, 535, 533, 534, 62),
  (yX5_years, cX5_years, 3, some .int, 1, 5, 2, 592, 590, 591, 62),
  (yX5_wedding, cX5_wedding, 6, some .int, 1, 5, 3, 623, 621, 622, 62),
  (yX5_seen, cX5_seen, 5, some .int, 1, 5, 3, 631, 629, 630, 62),
  (yX5_forget, cX5_forget, 2, some .int, 1, 5, 0, 639, 637, 638, 62),
  (yX5_fits, cX5_fits, 3, some .int, 1, 5, 2, 643, 641, 642, 62),
  (yX5_fire, cX5_fire, 8, some .int, 1, 5, 4, 663, 661, 662, 62),
  (yX5_change, cX5_change, 4, some .int, 1, 5, 2, 676, 674, 675, 62),
  (yX5_wed, cX5_wed, 4, some .int, 1, 5, 2, 680, 678, 679, 62),
  (yX5_settle, cX5_settle, 2, some .int, 1, 5, 0, 684, 682, 683, 62),
  (yX5_keep, cX5_keep, 1, some .int, 1, 5, 0, 688, 686, 687, 62),
  (yX5_back, cX5_back, 1, some .int, 1, 5, 0, 697, 695, 696, 62),
  (yX5_count, cX5_count, 2, some .int, 1, 5, 1, 701, 699, 700, 62),
  (yX5_isHouse, cX5_isHouse, 2, some .boolean, 1, 5, 1, 392, 391, 8, 62),
  (yX5_isNewHouse, cX5_isNewHouse, 2, some .boolean, 1, 5, 1, 539, 538, 20, 62),
  (yX5_isWork, cX5_isWork, 2, some .boolean, 1, 5, 1, 472, 471, 13, 62),
  (yX5_isSet, cX5_isSet, 2, some .boolean, 1, 5, 1, 480, 479, 14, 62),
  (yX5_isSkill, cX5_isSkill, 1, some .boolean, 0, 5, 1, 440, 439, 0, 62),
  (yX5_isDay, cX5_isDay, 2, some .boolean, 0, 5, 1, 403, 402, 0, 62),
  (yX5_fillRota, cX5_fillRota, 1, none, 1, 5, 0, 408, 407, 9, 62),
  (yX5_weekLength, cX5_weekLength, 2, some .int, 1, 5, 1, 609, 608, 28, 62),
  (yX5_upOn, cX5_upOn, 3, some .int, 1, 5, 1, 429, 428, 10, 62),
  (yX5_handsOn, cX5_handsOn, 4, some .int, 1, 5, 2, 444, 443, 11, 62),
  (yX5_allUp, cX5_allUp, 4, some .boolean, 1, 5, 2, 484, 483, 15, 62),
  (yX5_cookRests, cX5_cookRests, 3, some .boolean, 1, 5, 1, 672, 671, 34, 62),
  (yX5_dayOfFire, cX5_dayOfFire, 6, some .long, 0, 5, 3, 666, 665, 0, 62),
  (yX5_firstShort, cX5_firstShort, 3, some .int, 1, 5, 1, 458, 457, 12, 62),
  (yX5_daysAllUp, cX5_daysAllUp, 7, some .int, 1, 5, 3, 493, 492, 16, 62),
  (yX5_firstDayResting, cX5_firstDayResting, 4, some .int, 1, 5, 1, 523, 522, 18, 62),
  (yX5_daysToDo, cX5_daysToDo, 10, some .int, 1, 5, 3, 531, 530, 19, 62),
  (yX5_everShort, cX5_everShort, 3, some .boolean, 1, 5, 1, 561, 560, 23, 62),
  (yX5_anyEverShort, cX5_anyEverShort, 2, some .boolean, 1, 5, 0, 557, 556, 22, 62),
  (yX5_shortDaysWed, cX5_shortDaysWed, 7, some .int, 1, 5, 3, 627, 626, 31, 62),
  (yX5_goThroughSettled, cX5_goThroughSettled, 2, none, 1, 5, 0, 543, 542, 21, 62),
  (yX5_goThroughFits, cX5_goThroughFits, 2, none, 1, 5, 0, 647, 646, 32, 62),
  (yX5_allSeenWasSo, cX5_allSeenWasSo, 3, some .boolean, 1, 5, 0, 651, 650, 33, 62),
  (yX5_findOneChange, cX5_findOneChange, 4, some .boolean, 1, 5, 1, 597, 596, 25, 62),
  (yX5_findOneChange, cX5_findOneChange, 4, some .boolean, 1, 5, 1, 597, 596, 25, 62),
  (yX5_findTwoChanges, cX5_findTwoChanges, 5, none, 1, 5, 1, 615, 614, 29, 62),
  (yX5_findSecondChange, cX5_findSecondChange, 6, some .boolean, 1, 5, 3, 619, 618, 30, 62),
  (yX5_hasSkillOf, cX5_hasSkillOf, 3, some .boolean, 1, 5, 2, 605, 604, 27, 62),
  (yX5_helpfulRest, cX5_helpfulRest, 7, some .int, 1, 5, 2, 601, 600, 26, 62),
  (yX6_init, cX6_init, 1, none, 2, 6, 0, 706, 705, 0, 69),
  (yX6_in, cX6_in, 6, some .boolean, 0, 6, 3, 815, 814, 0, 69),
  (yX6_write, cX6_write, 5, some .int, 1, 6, 2, 811, 809, 810, 69),
  (yX6_wipe, cX6_wipe, 2, some .int, 1, 6, 0, 819, 817, 818, 69),
  (yX6_number, cX6_number, 3, some .int, 1, 6, 0, 834, 833, 38, 69),
  (yX6_parts, cX6_parts, 1, some .int, 0, 6, 1, 830, 829, 0, 69),
  (yX6_isItem, cX6_isItem, 6, some .boolean, 1, 6, 0, 827, 826, 37, 69),
  (yX6_isGood, cX6_isGood, 6, some .boolean, 1, 6, 2, 841, 840, 39, 69),
  (yX6_begins, cX6_begins, 2, none, 1, 6, 0, 711, 710, 35, 69),
  (yX6_takes, cX6_takes, 2, none, 1, 6, 0, 715, 714, 36, 69),
  (yX6_fault, cX6_fault, 2, some .int, 1, 6, 0, 823, 821, 822, 69),
  (yX6_lay, cX6_lay, 1, some .int, 1, 6, 0, 850, 848, 849, 69),
  (yX6_isHouse, cX6_isHouse, 2, some .boolean, 1, 6, 1, 859, 858, 40, 69),
  (yX6_isWork, cX6_isWork, 2, some .boolean, 1, 6, 1, 910, 909, 47, 69),
  (yX6_isDay, cX6_isDay, 2, some .boolean, 0, 6, 1, 866, 865, 0, 69),
  (yX6_house, cX6_house, 3, some .int, 1, 6, 2, 855, 853, 854, 69),
  (yX6_weekOf, cX6_weekOf, 2, some .int, 1, 6, 1, 879, 878, 43, 69),
  (yX6_isUp, cX6_isUp, 4, some .boolean, 1, 6, 2, 875, 874, 42, 69),
  (yX6_period, cX6_period, 2, some .int, 1, 6, 0, 914, 913, 48, 69),
  (yX6_upOn, cX6_upOn, 5, some .int, 1, 6, 1, 871, 870, 41, 69),
  (yX6_bits, cX6_bits, 3, some .int, 0, 6, 1, 950, 949, 0, 69),
  (yX6_handsOn, cX6_handsOn, 6, some .int, 1, 6, 2, 887, 886, 44, 69),
  (yX6_up, cX6_up, 3, some .int, 1, 6, 1, 863, 861, 862, 69),
  (yX6_hands, cX6_hands, 4, some .int, 1, 6, 2, 883, 881, 882, 69),
  (yX6_isShort, cX6_isShort, 4, some .boolean, 1, 6, 2, 901, 900, 46, 69),
  (yX6_shortOn, cX6_shortOn, 4, some .int, 1, 6, 1, 897, 896, 45, 69),
  (yX6_judge, cX6_judge, 7, some .long, 1, 6, 2, 891, 889, 890, 69),
  (yX6_still, cX6_still, 5, some .int, 1, 6, 1, 906, 904, 905, 69),
  (yX6_isSet, cX6_isSet, 2, some .boolean, 1, 6, 1, 922, 921, 49, 69),
  (yX6_areUp, cX6_areUp, 4, some .boolean, 1, 6, 2, 926, 925, 50, 69),
  (yX6_together, cX6_together, 6, some .long, 1, 6, 2, 918, 916, 917, 69),
  (yX6_often, cX6_often, 14, some .long, 1, 6, 3, 930, 928, 929, 69),
  (yX6_longest, cX6_longest, 7, some .int, 1, 6, 1, 935, 933, 934, 69),
  (yX6_street, cX6_street, 7, some .long, 1, 6, 2, 939, 937, 938, 69),
  (yX6_mostRest, cX6_mostRest, 4, some .int, 1, 6, 0, 947, 946, 51, 69),
  (yX6_same, cX6_same, 3, some .int, 1, 6, 1, 943, 941, 942, 69),
  (yX6_harvest, cX6_harvest, 12, some .long, 1, 6, 3, 954, 952, 953, 69),
  (yX6_isAll, cX6_isAll, 3, some .boolean, 1, 6, 0, 971, 970, 54, 69),
  (yX6_fitsSeen, cX6_fitsSeen, 3, some .boolean, 1, 6, 0, 967, 966, 53, 69),
  (yX6_settles, cX6_settles, 6, none, 1, 6, 1, 963, 962, 52, 69),
  (yX6_counts, cX6_counts, 5, none, 1, 6, 1, 975, 974, 55, 69),
  (yX6_settled, cX6_settled, 2, some .int, 1, 6, 1, 958, 956, 957, 69),
  (yX6_goesOn, cX6_goesOn, 4, some .boolean, 1, 6, 1, 983, 982, 56, 69),
  (yX6_changesOne, cX6_changesOne, 8, some .boolean, 1, 6, 3, 987, 986, 57, 69),
  (yX6_changesTwo, cX6_changesTwo, 6, some .boolean, 1, 6, 1, 991, 990, 58, 69),
  (yX6_years, cX6_years, 4, some .int, 1, 6, 2, 979, 977, 978, 69),
  (yX6_days, cX6_days, 7, some .int, 1, 6, 2, 999, 998, 59, 69),
  (yX6_wedding, cX6_wedding, 6, some .int, 1, 6, 3, 995, 993, 994, 69),
  (yX6_seen, cX6_seen, 5, some .int, 1, 6, 3, 1003, 1001, 1002, 69),
  (yX6_forget, cX6_forget, 2, some .int, 1, 6, 0, 1007, 1005, 1006, 69),
  (yX6_fits, cX6_fits, 3, some .int, 1, 6, 2, 1011, 1009, 1010, 69),
  (yX6_fireDay, cX6_fireDay, 6, some .long, 0, 6, 3, 1020, 1019, 0, 69),
  (yX6_fire, cX6_fire, 8, some .int, 1, 6, 4, 1015, 1013, 1014, 69),
  (yX6_change, cX6_change, 4, some .int, 1, 6, 2, 1026, 1024, 1025, 69),
  (yX6_wed, cX6_wed, 4, some .int, 1, 6, 2, 1030, 1028, 1029, 69),
  (yX6_newMany, cX6_newMany, 3, some .int, 1, 6, 0, 1038, 1037, 60, 69),
  (yX6_settle, cX6_settle, 3, some .int, 1, 6, 0, 1034, 1032, 1033, 69),
  (yX6_keep, cX6_keep, 2, some .int, 1, 6, 0, 1042, 1040, 1041, 69),
  (yX6_back, cX6_back, 2, some .int, 1, 6, 0, 1046, 1044, 1045, 69),
  (yX6_count, cX6_count, 2, some .int, 1, 6, 1, 1050, 1048, 1049, 69),
  (yJ6_bitCount_0f7a4, cJ6_bitCount_0f7a4, 1, some .int, 0, 8, 1, 361, 360, 0, 70),
  (yJ7_fill_53178, cJ7_fill_53178, 4, none, 0, 10, 2, 260, 259, 0, 68),
  (yL_law, cL_law, 4, some .boolean, 0, 7, 1, 0, 0, 0, 61)]
def mz_cn : List String := [RX0, RX1, RX2, RX3, RX4, RX5, RX6, RL, RJ6, RJ9, RJ7]
/-- field links: class, index, class of the field, its slot, the place of the word -/
def mz_F : List ((Nat × Nat) × (Nat × Nat × Nat)) := [((1, 9), (1, 0, 87)), ((1, 15), (1, 1, 88)), ((3, 9), (3, 0, 102)), ((2, 24), (3, 0, 103)), ((4, 55), (3, 0, 104)), ((1, 68), (3, 0, 105)), ((5, 272), (3, 0, 106)), ((5, 66), (3, 1, 107)), ((3, 33), (3, 1, 108)), ((4, 43), (3, 1, 109)), ((2, 43), (3, 1, 110)), ((1, 71), (3, 1, 111)), ((3, 15), (3, 2, 112)), ((5, 98), (3, 2, 113)), ((3, 18), (3, 3, 114)), ((5, 101), (3, 3, 115)), ((3, 21), (3, 4, 116)), ((5, 275), (3, 4, 117)), ((3, 43), (3, 5, 118)), ((1, 91), (3, 5, 119)), ((5, 264), (3, 5, 120)), ((3, 24), (3, 6, 121)), ((5, 285), (3, 6, 122)), ((3, 27), (3, 7, 123)), ((5, 288), (3, 7, 124)), ((3, 30), (3, 8, 125)), ((5, 153), (3, 8, 126)), ((3, 46), (3, 9, 127)), ((1, 97), (3, 9, 128)), ((5, 278), (3, 9, 129)), ((0, 9), (0, 0, 157)), ((4, 54), (0, 0, 158)), ((2, 46), (0, 0, 159)), ((5, 92), (0, 0, 160)), ((1, 103), (0, 0, 161)), ((0, 15), (0, 1, 162)), ((2, 51), (0, 1, 163)), ((5, 95), (0, 1, 164)), ((1, 100), (0, 1, 165)), ((0, 25), (0, 2, 166)), ((1, 83), (0, 2, 167)), ((5, 248), (0, 2, 168)), ((0, 29), (0, 3, 169)), ((5, 220), (0, 3, 170)), ((0, 18), (0, 4, 171)), ((5, 323), (0, 4, 172)), ((0, 22), (0, 5, 173)), ((5, 320), (0, 5, 174)), ((0, 32), (0, 6, 175)), ((2, 9), (2, 0, 201)), ((2, 17), (2, 1, 202)), ((2, 20), (2, 2, 203)), ((4, 30), (4, 0, 217)), ((5, 251), (4, 0, 218)), ((4, 9), (4, 1, 219)), ((5, 254), (4, 1, 220)), ((4, 15), (4, 2, 221)), ((4, 18), (4, 3, 222)), ((4, 21), (4, 4, 223)), ((4, 34), (4, 5, 224)), ((5, 297), (4, 5, 225)), ((4, 37), (4, 6, 226)), ((5, 191), (4, 6, 227)), ((4, 40), (4, 7, 228)), ((5, 194), (4, 7, 229)), ((4, 24), (4, 8, 230)), ((5, 257), (4, 8, 231)), ((4, 27), (4, 9, 232)), ((5, 9), (5, 0, 273)), ((5, 78), (5, 1, 274)), ((5, 16), (5, 2, 275)), ((5, 23), (5, 3, 276)), ((5, 30), (5, 4, 277)), ((5, 34), (5, 5, 278)), ((5, 37), (5, 6, 279)), ((5, 40), (5, 7, 280)), ((5, 85), (5, 8, 281)), ((5, 47), (5, 9, 282)), ((5, 54), (5, 10, 283)), ((5, 58), (5, 11, 284)), ((6, 94), (6, 0, 716)), ((6, 7), (6, 1, 717)), ((6, 98), (6, 2, 718)), ((6, 13), (6, 3, 719)), ((6, 17), (6, 4, 720)), ((6, 20), (6, 5, 721)), ((6, 23), (6, 6, 722)), ((6, 26), (6, 7, 723)), ((6, 29), (6, 8, 724)), ((6, 32), (6, 9, 725)), ((6, 35), (6, 10, 726)), ((6, 129), (6, 11, 727)), ((6, 39), (6, 12, 728)), ((6, 43), (6, 13, 729)), ((6, 46), (6, 14, 730)), ((6, 132), (6, 15, 731)), ((6, 49), (6, 16, 732)), ((6, 52), (6, 17, 733)), ((6, 55), (6, 18, 734)), ((6, 58), (6, 19, 735)), ((6, 61), (6, 20, 736)), ((6, 64), (6, 21, 737)), ((6, 67), (6, 22, 738)), ((6, 70), (6, 23, 739)), ((6, 73), (6, 24, 740)), ((6, 202), (6, 25, 741)), ((6, 205), (6, 26, 742)), ((6, 76), (6, 27, 743)), ((6, 79), (6, 28, 744)), ((6, 196), (6, 29, 745))]
/-- method links: class, index, the method (1000 arraycopy, 1001 Object()), 1 by the nest, the place of the word -/
def mz_L : List ((Nat × Nat) × (Nat × Nat × Nat)) := [((7, 9), (43, 0, 75)), ((5, 3), (1001, 0, 78)), ((1, 3), (1001, 0, 86)), ((3, 3), (1001, 0, 101)), ((0, 3), (1001, 0, 156)), ((2, 3), (1001, 0, 198)), ((4, 3), (1001, 0, 216)), ((5, 62), (28, 0, 254)), ((3, 37), (162, 0, 258)), ((5, 65), (1, 0, 261)), ((5, 70), (2, 0, 265)), ((5, 74), (29, 0, 269)), ((7, 15), (44, 0, 310)), ((7, 20), (45, 0, 314)), ((7, 25), (46, 0, 318)), ((5, 81), (8, 0, 322)), ((1, 18), (28, 0, 326)), ((1, 23), (1, 0, 327)), ((1, 26), (9, 0, 328)), ((1, 38), (10, 0, 332)), ((1, 42), (11, 0, 335)), ((1, 30), (12, 0, 338)), ((1, 46), (13, 0, 342)), ((1, 64), (14, 0, 346)), ((1, 50), (15, 0, 349)), ((1, 75), (2, 0, 353)), ((1, 79), (29, 0, 354)), ((1, 54), (16, 0, 355)), ((1, 86), (161, 0, 359)), ((1, 58), (17, 0, 365)), ((1, 94), (30, 0, 369)), ((1, 61), (18, 0, 373)), ((1, 34), (19, 0, 377)), ((7, 29), (47, 0, 381)), ((7, 33), (48, 0, 385)), ((5, 88), (72, 0, 389)), ((5, 104), (3, 0, 393)), ((7, 38), (49, 0, 397)), ((5, 107), (77, 0, 401)), ((5, 111), (78, 0, 405)), ((5, 269), (21, 0, 409)), ((2, 27), (162, 0, 413)), ((2, 33), (31, 0, 414)), ((3, 49), (1002, 0, 418)), ((2, 37), (1002, 0, 421)), ((2, 54), (22, 0, 422)), ((5, 114), (80, 0, 426)), ((5, 137), (24, 0, 430)), ((7, 43), (50, 0, 434)), ((5, 118), (76, 0, 438)), ((5, 121), (81, 0, 441)), ((5, 240), (161, 0, 445)), ((7, 47), (51, 0, 446)), ((5, 127), (31, 0, 451)), ((5, 131), (1003, 0, 452)), ((5, 140), (85, 0, 455)), ((5, 149), (33, 0, 459)), ((3, 55), (161, 0, 463)), ((7, 52), (52, 0, 465)), ((5, 146), (74, 0, 469)), ((7, 57), (53, 0, 473)), ((5, 156), (75, 0, 477)), ((5, 159), (82, 0, 481)), ((7, 62), (54, 0, 485)), ((5, 165), (86, 0, 490)), ((7, 67), (55, 0, 494)), ((5, 169), (1002, 0, 498)), ((7, 71), (56, 0, 499)), ((5, 172), (32, 0, 503)), ((7, 75), (57, 0, 507)), ((5, 175), (25, 0, 511)), ((2, 58), (26, 0, 515)), ((2, 62), (161, 0, 519)), ((5, 178), (87, 0, 520)), ((7, 79), (58, 0, 524)), ((5, 181), (88, 0, 528)), ((7, 83), (59, 0, 532)), ((5, 185), (73, 0, 536)), ((5, 188), (92, 0, 540)), ((5, 294), (35, 0, 544)), ((4, 48), (3, 0, 548)), ((5, 300), (37, 0, 549)), ((4, 56), (22, 0, 553)), ((5, 304), (90, 0, 554)), ((5, 206), (89, 0, 558)), ((5, 308), (39, 0, 562)), ((4, 65), (1000, 0, 566)), ((5, 311), (38, 0, 569)), ((4, 62), (23, 0, 573)), ((5, 314), (36, 0, 577)), ((5, 197), (40, 0, 581)), ((4, 71), (42, 0, 585)), ((7, 87), (60, 0, 589)), ((5, 200), (162, 0, 593)), ((5, 209), (96, 0, 594)), ((5, 330), (100, 0, 598)), ((5, 333), (99, 0, 602)), ((5, 245), (79, 0, 606)), ((5, 336), (23, 0, 610)), ((5, 291), (22, 0, 611)), ((5, 212), (97, 0, 612)), ((5, 339), (98, 0, 616)), ((7, 91), (61, 0, 620)), ((5, 216), (91, 0, 624)), ((7, 96), (62, 0, 628)), ((5, 223), (5, 0, 632)), ((7, 101), (63, 0, 636)), ((7, 105), (64, 0, 640)), ((5, 227), (93, 0, 644)), ((5, 317), (94, 0, 648)), ((5, 327), (4, 0, 652)), ((5, 230), (41, 0, 656)), ((7, 110), (65, 0, 660)), ((5, 233), (84, 0, 664)), ((5, 237), (83, 0, 669)), ((7, 115), (66, 0, 673)), ((7, 119), (67, 0, 677)), ((7, 123), (68, 0, 681)), ((7, 127), (69, 0, 685)), ((5, 260), (6, 0, 689)), ((0, 35), (1000, 0, 693)), ((7, 131), (70, 0, 694)), ((7, 135), (71, 0, 698)), ((7, 12), (101, 0, 704)), ((6, 1), (1001, 0, 707)), ((6, 82), (109, 0, 708)), ((6, 85), (110, 0, 712)), ((7, 19), (103, 0, 808)), ((6, 90), (102, 0, 813)), ((7, 24), (104, 0, 816)), ((7, 28), (111, 0, 820)), ((6, 135), (107, 0, 824)), ((6, 107), (106, 0, 828)), ((6, 111), (105, 0, 831)), ((6, 115), (108, 0, 838)), ((7, 32), (112, 0, 847)), ((6, 139), (111, 0, 851)), ((7, 37), (116, 0, 852)), ((6, 144), (113, 0, 856)), ((7, 42), (123, 0, 860)), ((6, 155), (115, 0, 864)), ((6, 159), (120, 0, 868)), ((6, 151), (118, 0, 872)), ((6, 148), (117, 0, 876)), ((7, 46), (124, 0, 880)), ((6, 163), (122, 0, 884)), ((7, 51), (127, 0, 888)), ((6, 174), (126, 0, 894)), ((6, 167), (125, 0, 898)), ((7, 56), (128, 0, 903)), ((6, 179), (114, 0, 907)), ((6, 182), (119, 0, 911)), ((7, 61), (131, 0, 915)), ((6, 185), (129, 0, 919)), ((6, 188), (130, 0, 923)), ((7, 66), (132, 0, 927)), ((7, 70), (133, 0, 932)), ((7, 74), (134, 0, 936)), ((7, 78), (136, 0, 940)), ((6, 199), (135, 0, 944)), ((6, 193), (121, 0, 948)), ((7, 82), (137, 0, 951)), ((7, 86), (142, 0, 955)), ((6, 220), (140, 0, 960)), ((6, 208), (139, 0, 964)), ((6, 211), (138, 0, 968)), ((6, 214), (141, 0, 972)), ((7, 90), (146, 0, 976)), ((6, 223), (143, 0, 980)), ((6, 226), (144, 0, 984)), ((6, 230), (145, 0, 988)), ((7, 95), (148, 0, 992)), ((6, 233), (147, 0, 996)), ((7, 100), (149, 0, 1000)), ((7, 104), (150, 0, 1004)), ((7, 109), (151, 0, 1008)), ((7, 114), (153, 0, 1012)), ((6, 245), (152, 0, 1018)), ((7, 118), (154, 0, 1023)), ((7, 122), (155, 0, 1027)), ((7, 126), (157, 0, 1031)), ((6, 249), (156, 0, 1035)), ((7, 130), (158, 0, 1039)), ((7, 134), (159, 0, 1043)), ((7, 138), (160, 0, 1047)), ((5, 15), (7, 1, 83)), ((5, 22), (27, 1, 98)), ((5, 29), (0, 1, 153)), ((5, 46), (20, 1, 195)), ((5, 53), (34, 1, 213))]
def mz_C : List ((Nat × Nat) × (Nat × Nat)) := [((7, 7), (5, 73)), ((5, 13), (1, 81)), ((5, 20), (3, 96)), ((5, 27), (0, 151)), ((5, 44), (2, 193)), ((2, 15), (100, 199)), ((5, 51), (4, 211)), ((7, 10), (6, 702))]
def mz_K : List ((Nat × Nat) × (Int × Nat)) := [((8, 265), ((1431655765), 362)), ((8, 266), ((858993459), 363)), ((8, 267), ((252645135), 364)), ((5, 267), ((1000000000000000), 404)), ((5, 125), ((-1), 450)), ((5, 144), ((-4), 464)), ((5, 163), ((1000000000000), 489)), ((5, 281), ((7919), 667)), ((5, 283), ((65521), 668)), ((6, 88), ((8), 812)), ((6, 101), ((48), 835)), ((6, 103), ((57), 836)), ((6, 105), ((2), 837)), ((6, 119), ((12), 842)), ((6, 121), ((31), 843)), ((6, 123), ((3), 844)), ((6, 125), ((4), 845)), ((6, 127), ((9), 846)), ((6, 142), ((1000000000000000), 867)), ((6, 170), ((-1), 892)), ((6, 172), ((1000), 893)), ((6, 177), ((-4), 902)), ((6, 191), ((1000000000000), 931)), ((6, 218), ((-2), 959)), ((6, 241), ((9999), 1016)), ((6, 243), ((999), 1017)), ((6, 237), ((7919), 1021)), ((6, 239), ((65521), 1022)), ((7, 13), ((4294967295), 1051))]

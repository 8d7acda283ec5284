/-! the text, as it is read: pure -/
def fig (tx : Nat → Int) (n p : Nat) : Bool := decide (p < n ∧ 48 ≤ tx p ∧ tx p ≤ 57)
def nln (tx : Nat → Int) (n p : Nat) : Nat := if fig tx n (p + 1) then 2 else 1
def nvl (tx : Nat → Int) (n p : Nat) : Int := if fig tx n (p + 1) then 10 * (tx p - 48) + tx (p + 1) - 48 else tx p - 48
def pls (tx : Nat → Int) (n p : Nat) : Nat → Nat
  | 0 => p
  | k + 1 => pls tx n p k + nln tx n (pls tx n p k) + 1
def mkk (w k : Nat) : Int := if k + 1 < w then 44 else 59
def okN (tx : Nat → Int) (n p w k : Nat) : Bool := fig tx n (pls tx n p k) && decide (pls tx n p k + nln tx n (pls tx n p k) < n ∧ tx (pls tx n p k + nln tx n (pls tx n p k)) = mkk w k)
def okD (tx : Nat → Int) (n p : Nat) : Bool := fig tx n p && !fig tx n (p + nln tx n p)
def lexB (tx : Nat → Int) (n p w : Nat) : Bool := decide (∀ k, k < w → okN tx n p w k = true)
def prt (l : Int) : Nat := if l = 104 then 4 else if l = 109 then 3 else if l = 119 then 2 else if l = 110 ∨ l = 99 then 1 else 0
theorem fig_iff {tx : Nat → Int} {n p : Nat} : fig tx n p = true ↔ p < n ∧ 48 ≤ tx p ∧ tx p ≤ 57 := by unfold fig; simp
theorem nln_rg (tx : Nat → Int) (n p : Nat) : 1 ≤ nln tx n p ∧ nln tx n p ≤ 2 := by unfold nln; split <;> omega
theorem nvl_rg {tx : Nat → Int} {n p : Nat} (h : fig tx n p = true) : 0 ≤ nvl tx n p ∧ nvl tx n p ≤ 99 := by
  have h1 := fig_iff.mp h
  unfold nvl
  split
  · rename_i h2
    have h3 := fig_iff.mp h2
    omega
  · omega
theorem prt_rg (l : Int) : prt l ≤ 4 := by
  unfold prt
  split
  · omega
  · split
    · omega
    · split
      · omega
      · split <;> omega
theorem mkk_rg (w k : Nat) : mkk w k = 44 ∨ mkk w k = 59 := by unfold mkk; split <;> omega
theorem okN_iff {tx : Nat → Int} {n p w k : Nat} : okN tx n p w k = true ↔ fig tx n (pls tx n p k) = true ∧ pls tx n p k + nln tx n (pls tx n p k) < n ∧ tx (pls tx n p k + nln tx n (pls tx n p k)) = mkk w k := by unfold okN; simp
theorem lexB_iff {tx : Nat → Int} {n p w : Nat} : lexB tx n p w = true ↔ ∀ k, k < w → okN tx n p w k = true := by unfold lexB; exact decide_eq_true_iff
theorem lexB_no {tx : Nat → Int} {n p w k : Nat} (hk : k < w) (h : okN tx n p w k = false) : lexB tx n p w = false := by
  cases hl : lexB tx n p w with
  | false => rfl
  | true => rw [lexB_iff.mp hl k hk] at h; cases h
theorem okN_okD {tx : Nat → Int} {n p w k : Nat} (h : okN tx n p w k = true) : okD tx n (pls tx n p k) = true := by
  have h1 := okN_iff.mp h
  unfold okD
  rw [h1.1, Bool.true_and]
  have h2 := mkk_rg w k
  have h3 : fig tx n (pls tx n p k + nln tx n (pls tx n p k)) = false := by
    cases hf : fig tx n (pls tx n p k + nln tx n (pls tx n p k)) with
    | false => rfl
    | true =>
      have := fig_iff.mp hf
      omega
  rw [h3]; rfl
theorem pls_le {tx : Nat → Int} {n p w : Nat} (hp : p ≤ n) : ∀ {k : Nat}, (∀ j, j < k → okN tx n p w j = true) → pls tx n p k ≤ n ∧ p ≤ pls tx n p k
  | 0, _ => ⟨hp, Nat.le_refl _⟩
  | k + 1, h => by
    have h1 := okN_iff.mp (h k (by omega))
    have h2 := pls_le (tx := tx) (n := n) (w := w) hp (k := k) (fun j hj => h j (by omega))
    rw [pls]
    omega
/-! one item -/
def tkW (D : MM) (v : Nat → Int) : Option MM := if (2 ≤ v 0 ∧ v 0 ≤ 12) ∧ (2 ≤ v 1 ∧ v 1 ≤ 12) then some (mset (mset D 57 0 (v 0)) 57 1 (v 1)) else none
def adH (D : MM) (p : Nat) (a b c d : Int) : MM := mset (mset (mset (mset (mset (mset D 61 (4 * hN D) a) 61 (4 * hN D + 1) b) 61 (4 * hN D + 2) c) 61 (4 * hN D + 3) d) 62 (hN D) p) 58 0 (D 58 0 + 1)
def tkH (D : MM) (p : Nat) (v : Nat → Int) : Option MM := if (v 0 ≤ 1 ∧ v 2 ≤ 31 ∧ v 3 ≤ 3) ∧ D 58 0 ≠ 10 then some (adH D p (v 0) (v 1) (v 2) (v 3)) else none
def adW (D : MM) (a b c : Int) : MM := mset (mset (mset (mset D 63 (3 * wN D) a) 63 (3 * wN D + 1) b) 63 (3 * wN D + 2) c) 59 0 (D 59 0 + 1)
def tkM (D : MM) (v : Nat → Int) : Option MM := if (v 0 ≤ 4 ∧ (1 ≤ v 1 ∧ v 1 ≤ 9) ∧ (1 ≤ v 2 ∧ v 2 ≤ 9)) ∧ D 59 0 ≠ 6 then some (adW D (v 0) (v 1) (v 2)) else none
def tkC (D : MM) (v : Nat → Int) : Option MM := if v 0 < D 58 0 then some (mset D 60 0 (v 0)) else none
def tkN (D : MM) (v : Nat → Int) : Option MM := if v 0 < D 58 0 ∧ cnt (newB D) 10 < 3 ∧ (∀ i : Nat, i < 10 → v 0 ≤ (i : Int) → newB D i = false) then some (mset D 64 (v 0).toNat 1) else none
def tk (D : MM) (l : Int) (p : Nat) (v : Nat → Int) : Option MM := if l = 119 then tkW D v else if l = 104 then tkH D p v else if l = 109 then tkM D v else if l = 99 then tkC D v else if l = 110 then tkN D v else none
def itm (tx : Nat → Int) (n : Nat) (D : MM) (p : Nat) : Option (MM × Nat) := if prt (tx p) ≠ 0 ∧ lexB tx n (p + 1) (prt (tx p)) = true then (tk D (tx p) p (fun k => nvl tx n (pls tx n (p + 1) k))).map (fun D' => (D', pls tx n (p + 1) (prt (tx p)))) else none
def prs (tx : Nat → Int) (n : Nat) : Nat → MM → Nat → MM × Option Nat
  | 0, D, _ => (D, none)
  | f + 1, D, p => if p < n then (match itm tx n D p with
      | some q => prs tx n f q.1 q.2
      | none => (D, some p)) else (D, none)
def D0 : MM := fun k j => if k = 57 then (if j = 0 then 7 else if j = 1 then 9 else 0) else 0
def wrg (D : MM) (i : Nat) : Bool := decide (D 57 (D 61 (4 * i)).toNat ≤ D 61 (4 * i + 1))
def endF (D : MM) : Int := match fstF (wrg D) 0 (hN D) with
  | some i => D 62 i
  | none => -4
def resF (q : MM × Option Nat) : Int := match q.2 with
  | some p => p
  | none => endF q.1
def WFd (D : MM) : Prop := ((2 ≤ D 57 0 ∧ D 57 0 ≤ 12) ∧ (2 ≤ D 57 1 ∧ D 57 1 ≤ 12) ∧ (0 ≤ D 58 0 ∧ D 58 0 ≤ 10) ∧ (0 ≤ D 59 0 ∧ D 59 0 ≤ 6) ∧ (0 ≤ D 60 0 ∧ (D 60 0 = 0 ∨ D 60 0 < D 58 0))) ∧
  (∀ i : Nat, i < hN D → (D 61 (4 * i) = 0 ∨ D 61 (4 * i) = 1) ∧ (0 ≤ D 61 (4 * i + 1) ∧ D 61 (4 * i + 1) ≤ 99) ∧ (0 ≤ D 61 (4 * i + 2) ∧ D 61 (4 * i + 2) ≤ 31) ∧ (0 ≤ D 61 (4 * i + 3) ∧ D 61 (4 * i + 3) ≤ 3) ∧ (0 ≤ D 62 i ∧ D 62 i ≤ 400)) ∧
  (∀ w : Nat, w < wN D → (0 ≤ D 63 (3 * w) ∧ D 63 (3 * w) ≤ 4) ∧ (1 ≤ D 63 (3 * w + 1) ∧ D 63 (3 * w + 1) ≤ 9) ∧ (1 ≤ D 63 (3 * w + 2) ∧ D 63 (3 * w + 2) ≤ 9)) ∧
  (∀ i : Nat, i < 10 → (D 64 i = 0 ∨ D 64 i = 1) ∧ (D 58 0 ≤ i → D 64 i = 0)) ∧ cnt (newB D) 10 ≤ 3
theorem WFd.H {D : MM} (h : WFd D) : (hN D : Int) = D 58 0 ∧ hN D ≤ 10 := by
  have := h.1
  unfold hN
  omega
theorem WFd.W {D : MM} (h : WFd D) : (wN D : Int) = D 59 0 ∧ wN D ≤ 6 := by
  have := h.1
  unfold wN
  omega
theorem WFd_0 : WFd D0 := by
  refine ⟨by decide, fun i hi => ?_, fun w hw => ?_, fun i hi => ⟨Or.inl rfl, fun _ => rfl⟩, by decide⟩
  · exact absurd hi (by decide +revert)
  · exact absurd hw (by decide +revert)
theorem adH_H {D : MM} (h : WFd D) (p : Nat) (a b c d : Int) : hN (adH D p a b c d) = hN D + 1 := by
  have := h.1
  unfold hN adH
  rw [ms_eq]
  omega
theorem adH_lo {D : MM} {p : Nat} {a b c d : Int} {i : Nat} (hi : i < hN D) : adH D p a b c d 61 (4 * i) = D 61 (4 * i) ∧ adH D p a b c d 61 (4 * i + 1) = D 61 (4 * i + 1) ∧ adH D p a b c d 61 (4 * i + 2) = D 61 (4 * i + 2) ∧ adH D p a b c d 61 (4 * i + 3) = D 61 (4 * i + 3) ∧ adH D p a b c d 62 i = D 62 i := by
  unfold adH mset
  simp only [Nat.reduceEqDiff, false_and, if_false, true_and]
  refine ⟨?_, ?_, ?_, ?_, ?_⟩
  all_goals first | rw [if_neg (by omega), if_neg (by omega), if_neg (by omega), if_neg (by omega)] | rw [if_neg (by omega)]
theorem adH_at {D : MM} {p : Nat} {a b c d : Int} : adH D p a b c d 61 (4 * hN D) = a ∧ adH D p a b c d 61 (4 * hN D + 1) = b ∧ adH D p a b c d 61 (4 * hN D + 2) = c ∧ adH D p a b c d 61 (4 * hN D + 3) = d ∧ adH D p a b c d 62 (hN D) = p := by
  unfold adH
  refine ⟨?_, ?_, ?_, ?_, ?_⟩
  · rw [ms_ne (by decide), ms_ne (by decide), ms_nj (by omega), ms_nj (by omega), ms_nj (by omega), ms_eq]
  · rw [ms_ne (by decide), ms_ne (by decide), ms_nj (by omega), ms_nj (by omega), ms_eq]
  · rw [ms_ne (by decide), ms_ne (by decide), ms_nj (by omega), ms_eq]
  · rw [ms_ne (by decide), ms_ne (by decide), ms_eq]
  · rw [ms_ne (by decide), ms_eq]
theorem adH_no {D : MM} {p : Nat} {a b c d : Int} {k : Nat} (h1 : k ≠ 61) (h2 : k ≠ 62) (h3 : k ≠ 58) (j : Nat) : adH D p a b c d k j = D k j := by
  unfold adH
  rw [ms_ne h3, ms_ne h2, ms_ne h1, ms_ne h1, ms_ne h1, ms_ne h1]
theorem adW_W {D : MM} (h : WFd D) (a b c : Int) : wN (adW D a b c) = wN D + 1 := by
  have := h.1
  unfold wN adW
  rw [ms_eq]
  omega
theorem adW_lo {D : MM} {a b c : Int} {i : Nat} (hi : i < wN D) : adW D a b c 63 (3 * i) = D 63 (3 * i) ∧ adW D a b c 63 (3 * i + 1) = D 63 (3 * i + 1) ∧ adW D a b c 63 (3 * i + 2) = D 63 (3 * i + 2) := by
  unfold adW mset
  simp only [Nat.reduceEqDiff, false_and, if_false, true_and]
  refine ⟨?_, ?_, ?_⟩
  all_goals rw [if_neg (by omega), if_neg (by omega), if_neg (by omega)]
theorem adW_at {D : MM} {a b c : Int} : adW D a b c 63 (3 * wN D) = a ∧ adW D a b c 63 (3 * wN D + 1) = b ∧ adW D a b c 63 (3 * wN D + 2) = c := by
  unfold adW
  refine ⟨?_, ?_, ?_⟩
  · rw [ms_ne (by decide), ms_nj (by omega), ms_nj (by omega), ms_eq]
  · rw [ms_ne (by decide), ms_nj (by omega), ms_eq]
  · rw [ms_ne (by decide), ms_eq]
theorem adW_no {D : MM} {a b c : Int} {k : Nat} (h1 : k ≠ 63) (h3 : k ≠ 59) (j : Nat) : adW D a b c k j = D k j := by
  unfold adW
  rw [ms_ne h3, ms_ne h1, ms_ne h1, ms_ne h1]
theorem adH_WF {D : MM} (h : WFd D) {p : Nat} {a b c d : Int} (hp : p ≤ 400) (hH : D 58 0 ≠ 10) (ha : a = 0 ∨ a = 1) (hb : 0 ≤ b ∧ b ≤ 99) (hc : 0 ≤ c ∧ c ≤ 31) (hd : 0 ≤ d ∧ d ≤ 3) : WFd (adH D p a b c d) := by
  have hH' := adH_H h p a b c d
  have hHD := h.H
  obtain ⟨h1, h2, h3, h4, h5⟩ := h
  have e58 : adH D p a b c d 58 0 = D 58 0 + 1 := by unfold adH; rw [ms_eq]
  have eo : ∀ k j, k ≠ 61 → k ≠ 62 → k ≠ 58 → adH D p a b c d k j = D k j := fun k j x y z => adH_no x y z j
  refine ⟨?_, fun i hi => ?_, fun w hw => ?_, fun i hi => ?_, ?_⟩
  · rw [eo 57 0 (by decide) (by decide) (by decide), eo 57 1 (by decide) (by decide) (by decide), eo 59 0 (by decide) (by decide) (by decide), eo 60 0 (by decide) (by decide) (by decide), e58]; omega
  · rw [hH'] at hi
    by_cases hin : i = hN D
    · subst hin
      have := adH_at (D := D) (p := p) (a := a) (b := b) (c := c) (d := d)
      rw [this.1, this.2.1, this.2.2.1, this.2.2.2.1, this.2.2.2.2]
      exact ⟨ha, hb, hc, hd, by omega⟩
    · have := adH_lo (D := D) (p := p) (a := a) (b := b) (c := c) (d := d) (i := i) (by omega)
      rw [this.1, this.2.1, this.2.2.1, this.2.2.2.1, this.2.2.2.2]
      exact h2 i (by omega)
  · have ew : wN (adH D p a b c d) = wN D := by unfold wN; rw [eo 59 0 (by decide) (by decide) (by decide)]
    rw [ew] at hw
    rw [eo 63 _ (by decide) (by decide) (by decide), eo 63 _ (by decide) (by decide) (by decide), eo 63 _ (by decide) (by decide) (by decide)]
    exact h3 w hw
  · rw [eo 64 i (by decide) (by decide) (by decide), e58]
    have := h4 i hi
    exact ⟨this.1, fun z => this.2 (by omega)⟩
  · rw [show newB (adH D p a b c d) = newB D from funext (fun i => by unfold newB; rw [eo 64 i (by decide) (by decide) (by decide)])]
    exact h5
theorem adW_WF {D : MM} (h : WFd D) {a b c : Int} (hH : D 59 0 ≠ 6) (ha : 0 ≤ a ∧ a ≤ 4) (hb : 1 ≤ b ∧ b ≤ 9) (hc : 1 ≤ c ∧ c ≤ 9) : WFd (adW D a b c) := by
  have hW' := adW_W h a b c
  have hWD := h.W
  obtain ⟨h1, h2, h3, h4, h5⟩ := h
  have e59 : adW D a b c 59 0 = D 59 0 + 1 := by unfold adW; rw [ms_eq]
  have eo : ∀ k j, k ≠ 63 → k ≠ 59 → adW D a b c k j = D k j := fun k j x y => adW_no x y j
  have eh : hN (adW D a b c) = hN D := by unfold hN; rw [eo 58 0 (by decide) (by decide)]
  refine ⟨?_, fun i hi => ?_, fun w hw => ?_, fun i hi => ?_, ?_⟩
  · rw [eo 57 0 (by decide) (by decide), eo 57 1 (by decide) (by decide), eo 58 0 (by decide) (by decide), eo 60 0 (by decide) (by decide), e59]; omega
  · rw [eh] at hi
    rw [eo 61 _ (by decide) (by decide), eo 61 _ (by decide) (by decide), eo 61 _ (by decide) (by decide), eo 61 _ (by decide) (by decide), eo 62 _ (by decide) (by decide)]
    exact h2 i hi
  · rw [hW'] at hw
    by_cases hin : w = wN D
    · subst hin
      have := adW_at (D := D) (a := a) (b := b) (c := c)
      rw [this.1, this.2.1, this.2.2]
      exact ⟨ha, hb, hc⟩
    · have := adW_lo (D := D) (a := a) (b := b) (c := c) (i := w) (by omega)
      rw [this.1, this.2.1, this.2.2]
      exact h3 w (by omega)
  · rw [eo 64 i (by decide) (by decide), eo 58 0 (by decide) (by decide)]
    exact h4 i hi
  · rw [show newB (adW D a b c) = newB D from funext (fun i => by unfold newB; rw [eo 64 i (by decide) (by decide)])]
    exact h5
theorem cnt_up {p q : Nat → Bool} {x : Nat} (h : ∀ i, i ≠ x → q i = p i) : ∀ n : Nat, cnt q n ≤ cnt p n + 1 ∧ (n ≤ x → cnt q n = cnt p n)
  | 0 => by simp [cnt]
  | n + 1 => by
    have h1 := cnt_up h n
    rw [cnt, cnt]
    by_cases hn : n = x
    · have := h1.2 (by omega)
      refine ⟨?_, fun z => by omega⟩
      split <;> split <;> omega
    · rw [h n hn]
      refine ⟨?_, fun z => ?_⟩
      · omega
      · rw [h1.2 (by omega)]
theorem tk_WF {D D' : MM} (h : WFd D) {l : Int} {p : Nat} {v : Nat → Int} (hp : p ≤ 400) (hv : ∀ k, k < prt l → 0 ≤ v k ∧ v k ≤ 99) (ht : tk D l p v = some D') : WFd D' := by
  unfold tk at ht
  by_cases hl : l = 119
  · rw [if_pos hl] at ht
    unfold tkW at ht
    split at ht
    · rename_i hc
      cases ht
      obtain ⟨h1, h2, h3, h4, h5⟩ := h
      have eo : ∀ k j, k ≠ 57 → mset (mset D 57 0 (v 0)) 57 1 (v 1) k j = D k j := fun k j x => by rw [ms_ne x, ms_ne x]
      refine ⟨?_, fun i hi => ?_, fun w hw => ?_, fun i hi => ?_, h5⟩
      · rw [eo 58 0 (by decide), eo 59 0 (by decide), eo 60 0 (by decide), ms_eq, ms_nj (by decide), ms_eq]
        exact ⟨hc.1, hc.2, h1.2.2⟩
      · exact h2 i hi
      · exact h3 w hw
      · exact h4 i hi
    · cases ht
  rw [if_neg hl] at ht
  by_cases hl2 : l = 104
  · rw [if_pos hl2] at ht
    unfold tkH at ht
    split at ht
    · rename_i hc
      cases ht
      have hp4 : prt l = 4 := by unfold prt; rw [if_pos hl2]
      rw [hp4] at hv
      have v0 := hv 0 (by decide)
      have v1 := hv 1 (by decide)
      have v2 := hv 2 (by decide)
      have v3 := hv 3 (by decide)
      exact adH_WF h hp hc.2 (by omega) v1 (by omega) (by omega)
    · cases ht
  rw [if_neg hl2] at ht
  by_cases hl3 : l = 109
  · rw [if_pos hl3] at ht
    unfold tkM at ht
    split at ht
    · rename_i hc
      cases ht
      have hp4 : prt l = 3 := by unfold prt; rw [if_neg hl2, if_pos hl3]
      rw [hp4] at hv
      have v0 := hv 0 (by decide)
      exact adW_WF h hc.2 (by omega) (by omega) (by omega)
    · cases ht
  rw [if_neg hl3] at ht
  by_cases hl4 : l = 99
  · rw [if_pos hl4] at ht
    unfold tkC at ht
    split at ht
    · rename_i hc
      cases ht
      have hp4 : prt l = 1 := by unfold prt; rw [if_neg hl2, if_neg hl3, if_neg hl, if_pos (Or.inr hl4)]
      rw [hp4] at hv
      have v0 := hv 0 (by decide)
      obtain ⟨h1, h2, h3, h4, h5⟩ := h
      refine ⟨?_, fun i hi => h2 i hi, fun w hw => h3 w hw, fun i hi => h4 i hi, h5⟩
      rw [ms_ne (by decide), ms_ne (by decide), ms_ne (by decide), ms_ne (by decide), ms_eq]
      omega
    · cases ht
  rw [if_neg hl4] at ht
  by_cases hl5 : l = 110
  · rw [if_pos hl5] at ht
    unfold tkN at ht
    split at ht
    · rename_i hc
      cases ht
      have hp4 : prt l = 1 := by unfold prt; rw [if_neg hl2, if_neg hl3, if_neg hl, if_pos (Or.inl hl5)]
      rw [hp4] at hv
      have v0 := hv 0 (by decide)
      obtain ⟨h1, h2, h3, h4, h5⟩ := h
      refine ⟨h1, fun i hi => h2 i hi, fun w hw => h3 w hw, fun i hi => ?_, ?_⟩
      · rw [ms_ne (show (58 : Nat) ≠ 64 by decide)]
        by_cases hi2 : i = (v 0).toNat
        · subst hi2; rw [ms_eq]; exact ⟨Or.inr rfl, fun z => by omega⟩
        · rw [ms_nj hi2]; exact h4 i hi
      · have := (cnt_up (p := newB D) (q := newB (mset D 64 (v 0).toNat 1)) (x := (v 0).toNat) (fun i hi => by unfold newB; rw [ms_nj hi]) 10).1
        omega
    · cases ht
  rw [if_neg hl5] at ht
  cases ht
theorem itm_ok {tx : Nat → Int} {n : Nat} {D D' : MM} {p q : Nat} (h : WFd D) (hn : n ≤ 400) (hp : p < n) (hi : itm tx n D p = some (D', q)) : WFd D' ∧ p < q ∧ q ≤ n := by
  unfold itm at hi
  split at hi
  · rename_i hc
    have hl := lexB_iff.mp hc.2
    have hq := pls_le (tx := tx) (n := n) (p := p + 1) (w := prt (tx p)) (by omega) hl
    cases ht : tk D (tx p) p (fun k => nvl tx n (pls tx n (p + 1) k)) with
    | none => rw [ht] at hi; cases hi
    | some E =>
      rw [ht] at hi
      simp only [Option.map_some, Option.some.injEq, Prod.mk.injEq] at hi
      obtain ⟨rfl, rfl⟩ := hi
      exact ⟨tk_WF h (by omega) (fun k hk => nvl_rg (okN_iff.mp (hl k hk)).1) ht, by omega, by omega⟩
  · cases hi
theorem prs_WF {tx : Nat → Int} {n : Nat} (hn : n ≤ 400) : ∀ (f : Nat) (D : MM) (p : Nat), WFd D → WFd (prs tx n f D p).1
  | 0, D, p, h => h
  | f + 1, D, p, h => by
    rw [prs]
    split
    · rename_i hp
      cases hi : itm tx n D p with
      | none => exact h
      | some q =>
        obtain ⟨D', q⟩ := q
        exact prs_WF hn f D' q (itm_ok h hn hp hi).1
    · exact h
theorem endF_rg {D : MM} (h : WFd D) : -4 ≤ endF D ∧ endF D ≤ 400 := by
  unfold endF
  cases hf : fstF (wrg D) 0 (hN D) with
  | none => simp
  | some i =>
    have := (h.2.1 i (by have := (fstF_some.mp hf).2.1; omega)).2.2.2.2
    simp only
    omega
/-- a town that may be laid -/
theorem WFd.t {D : MM} (h : WFd D) (h1 : D 58 0 ≠ 0) (h2 : endF D = -4) : WFt D := by
  have hH := h.H
  have hWn := h.W
  obtain ⟨a, b, c, d, e⟩ := h
  have hn : fstF (wrg D) 0 (hN D) = none := by
    unfold endF at h2
    cases hf : fstF (wrg D) 0 (hN D) with
    | none => rfl
    | some i =>
      rw [hf] at h2
      have := (b i (by have := (fstF_some.mp hf).2.1; omega)).2.2.2.2
      simp only at h2
      omega
  refine ⟨a.1, a.2.1, by omega, a.2.2.2.1, by omega, fun i hi => ?_, fun w hw => c w (by omega), d, e⟩
  have h3 := b i (by omega)
  have h4 := fstF_none.mp hn i (by omega) (by omega)
  unfold wrg at h4
  have h5 := of_decide_eq_false h4
  unfold len
  exact ⟨h3.1, by omega, h3.2.2.1, h3.2.2.2.1⟩

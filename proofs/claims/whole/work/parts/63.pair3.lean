/-! years, settle, text, keep, back, lay -/
theorem oneC_rg {T : MM} (h : WFt T) {w : Nat} : ∀ {n i a b : Nat}, i + n ≤ hN T → oneC T w i n = some (a, b) → a < hN T ∧ b < 12
  | 0, _, _, _, _, hc => by cases hc
  | n + 1, i, a, b, hi, hc => by
    rw [oneC] at hc
    cases ho : oneR T w i with
    | some r =>
      rw [ho] at hc
      cases hc
      have h1 := h.ln (i := i) (by omega)
      unfold oneR at ho
      have := (fstF_some.mp ho).2.1
      exact ⟨by omega, by omega⟩
    | none =>
      rw [ho] at hc
      exact oneC_rg h (n := n) (i := i + 1) (by omega) hc
theorem twoC_rg {T : MM} (h : WFt T) {w : Nat} : ∀ {n i a b : Nat}, i + n ≤ hN T → twoC T w i n = some (a, b) → a < hN T ∧ b < 12 ∧ (b : Int) < len T a
  | 0, _, _, _, _, hc => by cases hc
  | n + 1, i, a, b, hi, hc => by
    rw [twoC] at hc
    cases ho : twoR T w i with
    | some r =>
      rw [ho] at hc
      cases hc
      have h1 := h.ln (i := i) (by omega)
      unfold twoR at ho
      have := (fstF_some.mp ho).2.1
      exact ⟨by omega, by omega, by omega⟩
    | none =>
      rw [ho] at hc
      exact twoC_rg h (n := n) (i := i + 1) (by omega) hc
theorem chg_rg {T : MM} (h : WFt T) (w k : Nat) : -4 ≤ chg T w k ∧ chg T w k ≤ 100 := by
  have hH := h.H
  unfold chg
  split
  · split <;> omega
  · cases ho : oneC T w 0 (hN T) with
    | some q =>
      obtain ⟨a, b⟩ := q
      have := oneC_rg h (by omega) ho
      simp only
      repeat' split
      all_goals omega
    | none =>
      cases ht : twoC T w 0 (hN T) with
      | none => simp
      | some q =>
        obtain ⟨a, b⟩ := q
        have h2 := twoC_rg h (by omega) ht
        simp only
        cases hz : twoO T w a b with
        | none =>
          simp only
          repeat' split
          all_goals omega
        | some q2 =>
          obtain ⟨c, d⟩ := q2
          have hw2 : WFt (setR T a b) := setR_WF h (by omega)
          have e : hN (setR T a b) = hN T := (setR_SW T a b).eH
          have h3 := oneC_rg hw2 (n := hN T - (a + 1)) (i := a + 1) (by omega) hz
          simp only
          repeat' split
          all_goals omega
theorem p_years (w k : Int) (hw : rgI w) (hk : rgI k) : PI 60 146 [vI w, vI k] := PI_q (fun M => f_years M w k) (fun M h => x_years w k M M h.W h.C hw hk) (fun M h => (m_years w k M h.W hw hk).mono (Nat.le_refl _) (fun r M' q => ⟨q.1, fun x j hx => q.2 x j (fun z => hx (by unfold tmp; omega))⟩)) (fun T T' hT => by
    show f_years T' w k = f_years T w k
    rw [← f_years_pt T', hT.pt, f_years_pt]) (fun M h => by
  unfold f_years rgI
  have := chg_rg h.W w.toNat k.toNat
  split <;> omega) (by decide) (by decide)
/-! the text -/
theorem g_wr_no (v : Int) : ∀ (n : Nat) (T : MM) {k j : Nat}, k ≠ 56 → ¬ (k = 55 ∧ j = 0) → g_wr T v n k j = T k j
  | 0, T, k, j, _, _ => rfl
  | n + 1, T, k, j, h1, h2 => by
    rw [g_wr, g_wr_no v n _ h1 h2]
    unfold mset
    rw [if_neg h2, if_neg (fun z => h1 z.1)]
theorem bByt_rg (x : Int) : -128 ≤ bByt x ∧ bByt x ≤ 127 := by
  unfold bByt
  have h1 := (iN x).toInt8.toInt_lt
  have h2 := (iN x).toInt8.le_toInt
  rw [Int8.toInt_toInt32]
  omega
theorem g_wr_rg (v : Int) : ∀ (n : Nat) (T : MM), (∀ k, -128 ≤ T 56 k ∧ T 56 k ≤ 127) → ∀ k, -128 ≤ g_wr T v n 56 k ∧ g_wr T v n 56 k ≤ 127
  | 0, T, h, k => h k
  | n + 1, T, h, k => by
    rw [g_wr]
    refine g_wr_rg v n _ (fun x => ?_) k
    rw [ms_ne (by decide)]
    by_cases hx : x = (T 55 0).toNat
    · rw [hx, ms_eq]; exact bByt_rg _
    · rw [ms_nj hx]; exact h x
theorem g_wr_0 (v : Int) : ∀ (n : Nat) (T : MM), g_wr T v n 55 0 = T 55 0 + n
  | 0, T => by rw [g_wr]; omega
  | n + 1, T => by rw [g_wr, g_wr_0 v n, ms_eq]; omega
theorem g_wr_cg (v : Int) : ∀ (n : Nat) (T T' : MM), (∀ k j, 55 ≤ k → T' k j = T k j) → ∀ k j, 55 ≤ k → g_wr T' v n k j = g_wr T v n k j
  | 0, T, T', h, k, j, hk => h k j hk
  | n + 1, T, T', h, k, j, hk => by
    rw [g_wr, g_wr]
    refine g_wr_cg v n _ _ (fun x y hx => ?_) k j hk
    rw [h 55 0 (by decide)]
    unfold mset
    rw [h x y hx]
theorem g_write_cg {T T' : MM} (n v : Int) (h : ∀ k j, 55 ≤ k → T' k j = T k j) {k : Nat} (hk : 55 ≤ k) (j : Nat) : g_write T' n v k j = g_write T n v k j := by
  unfold g_write
  rw [h 55 0 (by decide)]
  split
  · exact g_wr_cg v _ T T' h k j hk
  · exact h k j hk
theorem g_write_no (T : MM) (n v : Int) {k j : Nat} (h1 : k ≠ 56) (h2 : ¬ (k = 55 ∧ j = 0)) : g_write T n v k j = T k j := by
  unfold g_write
  split
  · exact g_wr_no v _ T h1 h2
  · rfl
/-- only the text has changed -/
theorem INV.text {M M2 : MM} (h : INV M) (e : ∀ k j, ¬ xor k j → M2 k j = M k j) (hX : XI M2) : INV M2 :=
  ⟨h.1.cg (fun k j hk => e k j (by unfold mor at hk; unfold xor; omega)) (fun k j hk => e k j (by unfold cor at hk; unfold xor; omega)) (fun k j hk => e k j (by unfold sor at hk; unfold xor; omega)), h.2.1.cg (fun k j hk => e k j (by unfold kor at hk; unfold xor; omega)), hX, h.2.2.2.cg (fun k j hk => e k j (by unfold xor; omega))⟩
theorem p_write (n v : Int) (hn : rgI n) : PI 44 103 [vI n, vL v] := by
  intro M h
  have hX := h.2.2.1
  have h0 := hX.1
  refine (x_write n v M M hX.2.2 h0 hn).mono (by decide) (fun q M1 hq => ⟨f_write M n, hq.1, ?_, ?_⟩)
  · unfold WFx at h0
    unfold f_write rgI
    repeat' split
    all_goals omega
  · obtain ⟨-, hR, hF⟩ := hq
    have ge : ∀ k j, 55 ≤ k → M1 k j = M k j := fun k j hk => hF k j (by omega)
    have h1 : WFx M1 := by unfold WFx; rw [ge 55 0 (by decide)]; exact h0
    refine (m_write n v M1 h1 hn).mono (by decide) (fun q2 M2 hq2 => ⟨?_, ?_⟩)
    · rw [hq2.1, ← f_write_mv M1, mv_eq ge, f_write_mv]
    · have e2 : ∀ k j, 55 ≤ k → M2 k j = g_write M n v k j := fun k j hk => by rw [hq2.2]; exact g_write_cg n v ge hk j
      have e1 : ∀ k j, k < 55 → M2 k j = M1 k j := fun k j hk => by rw [hq2.2]; exact g_write_no M1 n v (by omega) (by omega)
      refine h.text (fun k j hk => ?_) ⟨?_, fun k => ?_, ?_, fun k hk => ?_⟩
      · unfold xor at hk
        by_cases hk5 : 55 ≤ k
        · rw [e2 k j hk5]; exact g_write_no M n v (by omega) (by omega)
        · rw [e1 k j (by omega)]; exact hF k j (by omega)
      · unfold WFx at h0 ⊢
        rw [e2 55 0 (by decide)]
        unfold g_write
        split
        · rename_i hc; rw [g_wr_0]; omega
        · exact h0
      · rw [e2 56 k (by decide)]
        unfold g_write
        split
        · exact g_wr_rg v _ M hX.2.1 k
        · exact hX.2.1 k
      · rw [e1 0 1 (by decide), e2 55 0 (by decide)]; exact hR.1
      · rw [e2 55 0 (by decide)] at hk
        rw [e1 1 k (by decide), e2 56 k (by decide)]; exact hR.2 k hk
theorem p_wipe : PI 45 104 [] := by
  intro M h
  have hX := h.2.2.1
  have h0 := hX.1
  unfold WFx at h0
  refine (x_wipe M M hX.2.2).mono (by decide) (fun q M1 hq => ⟨M 55 0, hq.1, by unfold rgI; omega, ?_⟩)
  obtain ⟨-, rfl⟩ := hq
  refine (m_wipe (mset M 0 1 0)).mono (by decide) (fun q2 M2 hq2 => ⟨by rw [hq2.1, ms_ne (by decide)], ?_⟩)
  have e0 : M2 55 0 = 0 := by rw [hq2.2, ms_eq]
  have e : ∀ k j, ¬ (k = 0 ∧ j = 1) → ¬ (k = 55 ∧ j = 0) → M2 k j = M k j := fun k j h1 h2 => by
    rw [hq2.2]
    unfold mset
    rw [if_neg h2, if_neg h1]
  refine h.text (fun k j hk => e k j (by unfold xor at hk; omega) (by unfold xor at hk; omega)) ⟨by unfold WFx; omega, fun k => by rw [e 56 k (by omega) (by omega)]; exact hX.2.1 k, ?_, fun k hk => by omega⟩
  rw [e0, hq2.2, ms_ne (by decide), ms_eq]
theorem itf_e {M M' : MM} (h : ∀ k j, ¬ itf k j → M' k j = M k j) : eqT M M' := fun k j hk => h k j (fun z => hk (by unfold itf drf at z; unfold tmp; omega))
theorem p_fault : PI 46 111 [] := PI_q (fun M => resF (prs (M 56) (M 55 0).toNat (M 55 0).toNat D0 0)) (fun M h => by
    have hX := h.2.2.1
    have h0 := hX.1
    unfold WFx at h0
    exact x_fault (M 56) (M 55 0).toNat M (by omega) hX.2.1 (by rw [hX.2.2.1]; omega) (fun k hk => hX.2.2.2 k (by omega))) (fun M h => by
    have hX := h.2.2.1
    have h0 := hX.1
    unfold WFx at h0
    exact (m_fault (M 56) (M 55 0).toNat M (by omega) hX.2.1 (by omega) (fun _ => rfl)).mono (Nat.le_refl _) (fun r M' q => ⟨q.1, itf_e q.2.2⟩)) (fun T T' hT => by
    have e1 : T' 56 = T 56 := funext (fun j => hT 56 j (by omega))
    show resF (prs (T' 56) (T' 55 0).toNat (T' 55 0).toNat D0 0) = resF (prs (T 56) (T 55 0).toNat (T 55 0).toNat D0 0)
    rw [e1, hT 55 0 (by omega)]) (fun M h => by
    have h0 := h.2.2.1.1
    unfold WFx at h0
    have := resF_rg (tx := M 56) (n := (M 55 0).toNat) (by omega)
    show rgI (resF (prs (M 56) (M 55 0).toNat (M 55 0).toNat D0 0))
    unfold rgI
    omega) (by decide) (by decide)
/-! settle -/
theorem g_settle_no (T : MM) {k j : Nat} (h1 : ¬ (k = 61 ∧ j % 4 = 1)) (h2 : ¬ (k = 64 ∧ j < 10)) : g_settle T k j = T k j := by
  unfold g_settle
  split
  · show (if k = 64 ∧ j < 10 then (0 : Int) else cd T (bsC T false (codes T)) k j) = T k j
    rw [if_neg h2]
    unfold cd rT
    rw [if_neg (fun z => h1 ⟨z.1, z.2.1⟩)]
  · rfl
theorem g_settle_WF {T : MM} (h : WFt T) : WFt (g_settle T) := by
  unfold g_settle
  split
  · have hc := cd_WF h (bsC T false (codes T))
    generalize cd T (bsC T false (codes T)) = C at hc
    obtain ⟨a, b, c, d, f, g, w, n, m⟩ := hc
    refine ⟨a, b, c, d, f, fun i hi => g i hi, fun x hx => w x hx, fun i hi => ?_, ?_⟩
    · show ((if (64 = 64 ∧ i < 10) then (0 : Int) else C 64 i) = 0 ∨ _) ∧ _
      rw [if_pos ⟨rfl, hi⟩]
      exact ⟨Or.inl rfl, fun _ => if_pos ⟨rfl, hi⟩⟩
    · have e0 : cnt (newB (fun k j => if k = 64 ∧ j < 10 then 0 else C k j)) 10 = 0 := cnt_0 (fun i hi => by
        unfold newB
        refine decide_eq_false (fun z => ?_)
        have z2 : (0 : Int) = 1 := (if_pos ⟨rfl, hi⟩ : (if (64 = 64 ∧ i < 10) then (0 : Int) else C 64 i) = 0).symm.trans z
        omega)
      rw [e0]
      omega
  · exact h
theorem p_settle : PI 68 157 [] := by
  intro M h
  refine (x_settle M M h.W h.C).mono (by decide) (fun q M1 hq => ⟨f_settle M, hq.1, ?_, ?_⟩)
  · unfold f_settle rgI
    have := cnt_rg (newB M) (hN M)
    have hH := h.W.H
    split <;> omega
  · obtain ⟨-, hC, hF⟩ := hq
    have ge : ∀ k j, 55 ≤ k → M1 k j = M k j := fun k j hk => hF k j (by unfold row ro; omega)
    refine (m_settle M1 (ge_W h.W ge) (ge_s h.s ge)).mono (by decide) (fun q2 M2 hq2 => ⟨?_, ?_⟩)
    · rw [hq2.1, ← f_settle_mv M1, mv_eq ge, f_settle_mv]
    · have e2 : ∀ k j, 55 ≤ k → ¬ stm k j → M2 k j = g_settle M k j := fun k j hk hs => by rw [hq2.2 k j hs, ← g_settle_mv M1 hk, mv_eq ge, g_settle_mv M hk]
      have e1 : ∀ k j, k < 55 → M2 k j = M1 k j := fun k j hk => by rw [hq2.2 k j (by unfold stm; omega)]; exact g_settle_no M1 (by omega) (by omega)
      refine h.book (g_settle_WF h.W) (h.s.cg (fun k x hk => g_settle_no M (by unfold sor at hk; omega) (by unfold sor at hk; omega))) hC (h.S.cg2 h.s (fun k x hk => hF k x (by unfold row ro; omega)) (fun k x hk => g_settle_no M (by unfold sor at hk; omega) (by unfold sor at hk; omega))) (fun k x hk => e1 k x (by omega)) (fun k x hk => e2 k x (by unfold cor sor at hk; omega) (by unfold cor sor at hk; unfold stm; omega)) (fun k x hk => ?_) (h.2.2.2.cg (fun k x hk => by rw [e2 k x (by omega) (by unfold stm; omega)]; exact g_settle_no M (by omega) (by omega)))
      by_cases hk5 : 55 ≤ k
      · rw [e2 k x hk5 (by unfold kor xor at hk; unfold stm; omega)]; exact g_settle_no M (by unfold kor xor at hk; omega) (by unfold kor xor at hk; omega)
      · rw [e1 k x (by omega)]; exact hF k x (by unfold kor xor at hk; unfold row ro; omega)

/-! keep, back, lay -/
theorem p_keep : PI 69 158 [] := by
  intro M h
  obtain ⟨hk1, hk2⟩ := h.2.1
  have hrg : rgI (f_keep M) := by unfold f_keep rgI; split <;> omega
  refine (x_keep M M ⟨hk1.1, hk1.2.1⟩ hk1.2.2).mono (by decide) (fun q M1 hq => ⟨f_keep M, hq.1, hrg, ?_⟩)
  obtain ⟨-, ha, hb⟩ := hq
  have h64 : ∀ j, j < 10 → M 64 j = 0 ∨ M 64 j = 1 := fun j hj => (h.W.2.2.2.2.2.2.2.1 j hj).1
  by_cases h2 : M 55 15 = 2
  · rw [ha h2]
    exact (m_keep M ⟨hk1.1, hk1.2.1⟩ h64 h.2.2.2.1).mono (by decide) (fun q2 M2 hq2 => ⟨hq2.1, by rw [hq2.2.1 h2]; exact h⟩)
  · obtain ⟨c, hc⟩ : ∃ c : Nat, M 55 15 = (c : Int) := ⟨(M 55 15).toNat, by omega⟩
    have hM1 := hb h2
    rw [hc, Int.toNat_natCast] at hM1
    have hat := cpB_at M (a := 45 + 5 * c) (b := 26) (by omega)
    have e1 : ∀ k j, ¬ (45 + 5 * c ≤ k ∧ k ≤ 45 + 5 * c + 4) → ¬ (k = 0 ∧ j = 8) → M1 k j = M k j := fun k j x y => by
      rw [hM1]; unfold mset; rw [if_neg y]; exact hat.1 k j x
    have ge : ∀ k j, 55 ≤ k → M1 k j = M k j := fun k j hk => e1 k j (by omega) (by omega)
    have e15 : M1 55 15 = M 55 15 := ge 55 15 (by decide)
    refine (m_keep M1 (by rw [e15]; omega) (fun j hj => by rw [ge 64 j (by decide)]; exact h64 j hj) (fun j hj => by rw [ge 67 j (by decide)]; exact h.2.2.2.1 j hj)).mono (by decide) (fun q2 M2 hq2 => ⟨?_, ?_⟩)
    · rw [hq2.1, ← f_keep_mv M1, mv_eq ge, f_keep_mv]
    · have hkp := hq2.2.2 (by rw [e15]; exact h2)
      rw [e15, hc, Int.toNat_natCast] at hkp
      obtain ⟨kA, k70, kB, k15, kF⟩ := hkp
      have eN : ∀ k j, k < 68 → ¬ (45 + 5 * c ≤ k ∧ k ≤ 45 + 5 * c + 4) → ¬ (k = 0 ∧ j = 8) → ¬ (k = 55 ∧ j = 15) → M2 k j = M k j := fun k j a b d e => by rw [kF k j (by unfold slt; omega) e]; exact e1 k j b d
      have e8 : M2 0 8 = (c : Int) + 1 := by rw [kF 0 8 (by unfold slt; omega) (by omega), hM1, ms_eq]
      refine ⟨h.1.cg (fun k j hk => eN k j ?_ ?_ ?_ ?_) (fun k j hk => eN k j ?_ ?_ ?_ ?_) (fun k j hk => eN k j ?_ ?_ ?_ ?_), ⟨⟨by omega, by omega, by rw [e8, k15]⟩, fun x hx => ?_⟩, h.2.2.1.cg (fun k j hk => eN k j (by omega) (by omega) (by omega) (by omega)), ⟨fun j hj => ?_, fun j hj => ?_⟩⟩
      all_goals first | (unfold mor at hk; omega) | (unfold cor at hk; omega) | (unfold sor at hk; omega) | skip
      · rw [k15] at hx
        by_cases hxc : x = c
        · subst hxc
          refine h.1.cg (fun k j hk => ?_) (fun k j hk => ?_) (fun k j hk => ?_)
          · unfold mor at hk
            unfold bkC
            by_cases hb2 : 26 ≤ k ∧ k ≤ 30
            · rw [if_pos hb2, kF _ j (by unfold slt; omega) (by omega), hM1, ms_ne (by omega)]
              have hk5 : k = 26 ∨ k = 27 ∨ k = 28 ∨ k = 29 ∨ k = 30 := by omega
              rcases hk5 with rfl | rfl | rfl | rfl | rfl
              · rw [show 26 + 19 + 5 * x = 45 + 5 * x by omega]; exact hat.2.1 j (by omega)
              · rw [show 27 + 19 + 5 * x = 45 + 5 * x + 1 by omega]; exact (hat.2.2.1 j (by omega)).1
              · rw [show 28 + 19 + 5 * x = 45 + 5 * x + 2 by omega]; exact (hat.2.2.1 j (by omega)).2
              · rw [show 29 + 19 + 5 * x = 45 + 5 * x + 3 by omega]; exact (hat.2.2.2 j (by omega)).1
              · rw [show 30 + 19 + 5 * x = 45 + 5 * x + 4 by omega]; exact (hat.2.2.2 j (by omega)).2
            · rw [if_neg hb2]; exact eN k j (by omega) (by omega) (by omega) (by omega)
          · unfold cor at hk
            by_cases h61 : k = 61
            · subst h61
              obtain ⟨i, hi⟩ : ∃ i, i = j / 4 := ⟨_, rfl⟩
              have hA := kA i (by omega)
              rw [bkP_61 _ _ (by omega), ← hi]
              by_cases hj0 : j % 4 = 0
              · rw [if_pos hj0, hA.1, ge 61 _ (by decide), show 4 * i = j by omega]
              · rw [if_neg hj0]
                by_cases hj1 : j % 4 = 1
                · rw [if_pos hj1, hA.2.1, ge 61 _ (by decide), show 4 * i + 1 = j by omega]
                · rw [if_neg hj1]; exact eN 61 j (by omega) (by omega) (by omega) (by omega)
            · by_cases h6 : k = 64
              · subst h6
                rw [bkP_64 _ _ (by omega), (kA j (by omega)).2.2]; exact ge 64 j (by decide)
              · rw [bkP_no _ _ h61 h6 (by omega) (by omega)]; exact eN k j (by omega) (by omega) (by omega) (by omega)
          · unfold sor at hk
            by_cases h59 : k = 59
            · rw [bkP_no _ _ (by omega) (by omega) (by omega) (by omega)]; exact eN k j (by omega) (by omega) (by omega) (by omega)
            · by_cases h55 : k = 55
              · have hj : j = 11 := by omega
                subst h55; subst hj
                rw [bkP_11, k70]; exact ge 55 11 (by decide)
              · have hB := kB j (by omega)
                have hs := bkP_sn M2 x (j := j) (by omega)
                have hk6 : k = 65 ∨ k = 66 ∨ k = 67 := by omega
                rcases hk6 with rfl | rfl | rfl
                · rw [hs.1, hB.1]; exact ge 65 j (by decide)
                · rw [hs.2.1, hB.2.1]; exact ge 66 j (by decide)
                · rw [hs.2.2, hB.2.2]; exact ge 67 j (by decide)
        · have hb0 := hk2 x (by omega)
          have hx0 : x = 0 ∧ c = 1 := by omega
          obtain ⟨rfl, rfl⟩ := hx0
          have kE : ∀ k j, ¬ slt 1 k j → ¬ (50 ≤ k ∧ k ≤ 54) → ¬ (k = 0 ∧ j = 8) → ¬ (k = 55 ∧ j = 15) → M2 k j = M k j := fun k j a b d e => by rw [kF k j a e]; exact e1 k j (by omega) d
          refine hb0.cg (fun k j hk => ?_) (fun k j hk => ?_) (fun k j hk => ?_)
          · unfold mor at hk
            unfold bkC
            by_cases hb2 : 26 ≤ k ∧ k ≤ 30
            · rw [if_pos hb2, if_pos hb2]; exact kE _ j (by unfold slt; omega) (by omega) (by omega) (by omega)
            · rw [if_neg hb2, if_neg hb2]; exact kE _ j (by unfold slt; omega) (by omega) (by omega) (by omega)
          · unfold cor at hk
            by_cases h61 : k = 61
            · subst h61
              rw [bkP_61 _ _ (by omega), bkP_61 _ _ (by omega), kE 68 _ (by unfold slt; omega) (by omega) (by omega) (by omega), kE 68 _ (by unfold slt; omega) (by omega) (by omega) (by omega), kE 61 _ (by unfold slt; omega) (by omega) (by omega) (by omega)]
            · by_cases h6 : k = 64
              · subst h6
                rw [bkP_64 _ _ (by omega), bkP_64 _ _ (by omega)]; exact kE 69 _ (by unfold slt; omega) (by omega) (by omega) (by omega)
              · rw [bkP_no _ _ h61 h6 (by omega) (by omega), bkP_no _ _ h61 h6 (by omega) (by omega)]; exact kE k j (by unfold slt; omega) (by omega) (by omega) (by omega)
          · unfold sor at hk
            by_cases h59 : k = 59
            · rw [bkP_no _ _ (by omega) (by omega) (by omega) (by omega), bkP_no _ _ (by omega) (by omega) (by omega) (by omega)]; exact kE k j (by unfold slt; omega) (by omega) (by omega) (by omega)
            · by_cases h55 : k = 55
              · have hj : j = 11 := by omega
                subst h55; subst hj
                rw [bkP_11, bkP_11]; exact kE 70 0 (by unfold slt; omega) (by omega) (by omega) (by omega)
              · have hs := bkP_sn M2 0 (j := j) (by omega)
                have hs0 := bkP_sn M 0 (j := j) (by omega)
                have hk6 : k = 65 ∨ k = 66 ∨ k = 67 := by omega
                rcases hk6 with rfl | rfl | rfl
                · rw [hs.1, hs0.1]; exact kE 71 _ (by unfold slt; omega) (by omega) (by omega) (by omega)
                · rw [hs.2.1, hs0.2.1]; exact kE 72 _ (by unfold slt; omega) (by omega) (by omega) (by omega)
                · rw [hs.2.2, hs0.2.2]; exact kE 73 _ (by unfold slt; omega) (by omega) (by omega) (by omega)
      · rw [eN 67 j (by omega) (by omega) (by omega) (by omega)]; exact h.2.2.2.1 j hj
      · by_cases hin : 20 * c ≤ j ∧ j < 20 * c + 20
        · have := (kB (j - 20 * c) (by omega)).2.2
          rw [show 20 * c + (j - 20 * c) = j by omega] at this
          rw [this, ge 67 _ (by decide)]; exact h.2.2.2.1 _ (by omega)
        · rw [kF 73 j (by unfold slt; omega) (by omega), ge 73 j (by decide)]; exact h.2.2.2.2 j hj
theorem p_back : PI 70 159 [] := by
  intro M h
  obtain ⟨hk1, hk2⟩ := h.2.1
  have hrg : rgI (f_back M) := by unfold f_back rgI; split <;> omega
  refine (x_back M M ⟨hk1.1, hk1.2.1⟩ hk1.2.2).mono (by decide) (fun q M1 hq => ⟨f_back M, hq.1, hrg, ?_⟩)
  obtain ⟨-, ha, hb⟩ := hq
  have h69 : ∀ c : Nat, (c : Int) < M 55 15 → ∀ j, j < 10 → M 69 (10 * c + j) = 0 ∨ M 69 (10 * c + j) = 1 := fun c hc j hj => by
    have := (hk2 c hc).1.2.2.2.2.2.2.2.1 j hj
    rw [bkP_64 _ _ hj] at this
    exact this.1
  by_cases h2 : M 55 15 = 0
  · rw [ha h2]
    exact (m_back M ⟨hk1.1, hk1.2.1⟩ h69 h.2.2.2.2).mono (by decide) (fun q2 M2 hq2 => ⟨hq2.1, by rw [hq2.2.1 h2]; exact h⟩)
  · obtain ⟨c, hc⟩ : ∃ c : Nat, M 55 15 = (c : Int) + 1 := ⟨(M 55 15 - 1).toNat, by omega⟩
    have hc2 : c < 2 := by omega
    have hcc : (c : Int) + 1 - 1 = (c : Int) := by omega
    have hM1 := hb h2
    rw [hc, hcc, Int.toNat_natCast] at hM1
    have hat := cpB_at (mset M 0 8 (c : Int)) (a := 26) (b := 45 + 5 * c) (by omega)
    have e1 : ∀ k j, ¬ (26 ≤ k ∧ k ≤ 30) → ¬ (k = 0 ∧ j = 8) → M1 k j = M k j := fun k j x y => by
      rw [hM1, hat.1 k j (by omega)]; unfold mset; rw [if_neg y]
    have ge : ∀ k j, 55 ≤ k → M1 k j = M k j := fun k j hk => e1 k j (by omega) (by omega)
    have e15 : M1 55 15 = M 55 15 := ge 55 15 (by decide)
    refine (m_back M1 (by rw [e15]; omega) (fun c hc j hj => by rw [ge 69 _ (by decide)]; exact h69 c (by rw [e15] at hc; exact hc) j hj) (fun j hj => by rw [ge 73 j (by decide)]; exact h.2.2.2.2 j hj)).mono (by decide) (fun q2 M2 hq2 => ⟨?_, ?_⟩)
    · rw [hq2.1, ← f_back_mv M1, mv_eq ge, f_back_mv]
    · have hkp := hq2.2.2 (by rw [e15]; exact h2)
      rw [e15, hc, hcc, Int.toNat_natCast] at hkp
      obtain ⟨kA, k11, kB, k15, kF⟩ := hkp
      have eN : ∀ k j, ¬ bot k j → ¬ (26 ≤ k ∧ k ≤ 30) → ¬ (k = 0 ∧ j = 8) → M2 k j = M k j := fun k j a b d => by rw [kF k j a]; exact e1 k j b d
      have e8 : M2 0 8 = (c : Int) := by rw [kF 0 8 (by unfold bot; omega), hM1, hat.1 0 8 (by omega), ms_eq]
      refine ⟨(hk2 c (by omega)).cg (fun k j hk => ?_) (fun k j hk => ?_) (fun k j hk => ?_), ⟨⟨by omega, by omega, by rw [e8, k15]⟩, fun x hx => ?_⟩, h.2.2.1.cg (fun k j hk => eN k j (by unfold bot; omega) (by omega) (by omega)), ⟨fun j hj => ?_, fun j hj => ?_⟩⟩
      · unfold mor at hk
        unfold bkC
        by_cases hb2 : 26 ≤ k ∧ k ≤ 30
        · rw [if_pos hb2, kF k j (by unfold bot; omega), hM1]
          have hk5 : k = 26 ∨ k = 27 ∨ k = 28 ∨ k = 29 ∨ k = 30 := by omega
          rcases hk5 with rfl | rfl | rfl | rfl | rfl
          · refine (hat.2.1 j (by omega)).trans ?_
            rw [ms_ne (by omega), show 26 + 19 + 5 * c = 45 + 5 * c by omega]
          · refine (hat.2.2.1 j (by omega)).1.trans ?_
            rw [ms_ne (by omega), show 27 + 19 + 5 * c = 45 + 5 * c + 1 by omega]
          · refine (hat.2.2.1 j (by omega)).2.trans ?_
            rw [ms_ne (by omega), show 28 + 19 + 5 * c = 45 + 5 * c + 2 by omega]
          · refine (hat.2.2.2 j (by omega)).1.trans ?_
            rw [ms_ne (by omega), show 29 + 19 + 5 * c = 45 + 5 * c + 3 by omega]
          · refine (hat.2.2.2 j (by omega)).2.trans ?_
            rw [ms_ne (by omega), show 30 + 19 + 5 * c = 45 + 5 * c + 4 by omega]
        · rw [if_neg hb2]; exact eN k j (by unfold bot; omega) hb2 (by omega)
      · unfold cor at hk
        by_cases h61 : k = 61
        · subst h61
          obtain ⟨i, hi⟩ : ∃ i, i = j / 4 := ⟨_, rfl⟩
          have hA := kA i (by omega)
          rw [bkP_61 _ _ (by omega), ← hi]
          by_cases hj0 : j % 4 = 0
          · rw [if_pos hj0, ← ge 68 _ (by decide), ← hA.1, show 4 * i = j by omega]
          · rw [if_neg hj0]
            by_cases hj1 : j % 4 = 1
            · rw [if_pos hj1, ← ge 68 _ (by decide), ← hA.2.1, show 4 * i + 1 = j by omega]
            · rw [if_neg hj1]; exact eN 61 j (by unfold bot; omega) (by omega) (by omega)
        · by_cases h6 : k = 64
          · subst h6
            rw [bkP_64 _ _ (by omega), ← ge 69 _ (by decide)]; exact (kA j (by omega)).2.2
          · rw [bkP_no _ _ h61 h6 (by omega) (by omega)]; exact eN k j (by unfold bot; omega) (by omega) (by omega)
      · unfold sor at hk
        by_cases h59 : k = 59
        · rw [bkP_no _ _ (by omega) (by omega) (by omega) (by omega)]; exact eN k j (by unfold bot; omega) (by omega) (by omega)
        · by_cases h55 : k = 55
          · have hj : j = 11 := by omega
            subst h55; subst hj
            rw [bkP_11, k11]; exact ge 70 c (by decide)
          · have hB := kB j (by omega)
            have hs := bkP_sn M c (j := j) (by omega)
            have hk6 : k = 65 ∨ k = 66 ∨ k = 67 := by omega
            rcases hk6 with rfl | rfl | rfl
            · rw [hs.1, hB.1]; exact ge 71 _ (by decide)
            · rw [hs.2.1, hB.2.1]; exact ge 72 _ (by decide)
            · rw [hs.2.2, hB.2.2]; exact ge 73 _ (by decide)
      · rw [k15] at hx
        have hb0 := hk2 x (by omega)
        have hx0 : x = 0 ∧ c = 1 := by omega
        obtain ⟨rfl, rfl⟩ := hx0
        refine hb0.cg (fun k j hk => ?_) (fun k j hk => ?_) (fun k j hk => ?_)
        · unfold mor at hk
          unfold bkC
          by_cases hb2 : 26 ≤ k ∧ k ≤ 30
          · rw [if_pos hb2, if_pos hb2]; exact eN _ j (by unfold bot; omega) (by omega) (by omega)
          · rw [if_neg hb2, if_neg hb2]; exact eN _ j (by unfold bot; omega) (by omega) (by omega)
        · unfold cor at hk
          by_cases h61 : k = 61
          · subst h61
            rw [bkP_61 _ _ (by omega), bkP_61 _ _ (by omega)]
            by_cases hj0 : j % 4 = 0
            · rw [if_pos hj0, if_pos hj0]; exact eN 68 _ (by unfold bot; omega) (by omega) (by omega)
            · rw [if_neg hj0, if_neg hj0]
              by_cases hj1 : j % 4 = 1
              · rw [if_pos hj1, if_pos hj1]; exact eN 68 _ (by unfold bot; omega) (by omega) (by omega)
              · rw [if_neg hj1, if_neg hj1]; exact eN 61 _ (by unfold bot; omega) (by omega) (by omega)
          · by_cases h6 : k = 64
            · subst h6
              rw [bkP_64 _ _ (by omega), bkP_64 _ _ (by omega)]; exact eN 69 _ (by unfold bot; omega) (by omega) (by omega)
            · rw [bkP_no _ _ h61 h6 (by omega) (by omega), bkP_no _ _ h61 h6 (by omega) (by omega)]; exact eN k j (by unfold bot; omega) (by omega) (by omega)
        · unfold sor at hk
          by_cases h59 : k = 59
          · rw [bkP_no _ _ (by omega) (by omega) (by omega) (by omega), bkP_no _ _ (by omega) (by omega) (by omega) (by omega)]; exact eN k j (by unfold bot; omega) (by omega) (by omega)
          · by_cases h55 : k = 55
            · have hj : j = 11 := by omega
              subst h55; subst hj
              rw [bkP_11, bkP_11]; exact eN 70 0 (by unfold bot; omega) (by omega) (by omega)
            · have hs := bkP_sn M2 0 (j := j) (by omega)
              have hs0 := bkP_sn M 0 (j := j) (by omega)
              have hk6 : k = 65 ∨ k = 66 ∨ k = 67 := by omega
              rcases hk6 with rfl | rfl | rfl
              · rw [hs.1, hs0.1]; exact eN 71 _ (by unfold bot; omega) (by omega) (by omega)
              · rw [hs.2.1, hs0.2.1]; exact eN 72 _ (by unfold bot; omega) (by omega) (by omega)
              · rw [hs.2.2, hs0.2.2]; exact eN 73 _ (by unfold bot; omega) (by omega) (by omega)
      · rw [(kB j hj).2.2, ge 73 _ (by decide)]; exact h.2.2.2.2 _ (by omega)
      · rw [eN 73 j (by unfold bot; omega) (by omega) (by omega)]; exact h.2.2.2.2 j hj

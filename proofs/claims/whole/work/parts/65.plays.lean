/-! lay -/
theorem p_lay : PI 47 112 [] := by
  intro M h
  have hX := h.2.2.1
  have h0 := hX.1
  unfold WFx at h0
  obtain ⟨n, hn⟩ : ∃ n : Nat, M 55 0 = (n : Int) := ⟨(M 55 0).toNat, by omega⟩
  have hn4 : n ≤ 400 := by omega
  have hx := x_lay (M 56) n M hn4 hX.2.1 (by rw [hX.2.2.1]; exact hn) (fun k hk => hX.2.2.2 k (by omega))
  have hm := fun (N : MM) (e0 : N 55 0 = n) (e1 : ∀ k, N 56 k = M 56 k) => m_lay (M 56) n N hn4 hX.2.1 e0 e1
  have hwd := prs_WF (tx := M 56) hn4 n D0 0 WFd_0
  generalize prs (M 56) n n D0 0 = Q at hx hm hwd
  have hrg : rgI (f_lay Q) := by
    have := hwd.1
    unfold f_lay rgI
    split <;> omega
  refine hx.mono (by decide) (fun q M1 hq => ⟨f_lay Q, hq.1, hrg, ?_⟩)
  obtain ⟨-, ha, hb⟩ := hq
  cases hl : layB Q with
  | false =>
    have hk := ha hl
    have hI1 : INV M1 := h.ke hk.eqT
    exact (hm M1 (by rw [hk 55 0 (by omega)]; exact hn) (fun k => hk 56 k (by omega))).mono (by decide) (fun q2 M2 hq2 => ⟨hq2.1, hI1.ke (itf_e (hq2.2.1 hl))⟩)
  | true =>
    obtain ⟨hR, h263, h08, hF⟩ := hb hl
    have ge : ∀ k j, 55 ≤ k → M1 k j = M k j := fun k j hk => hF k j (by unfold pfr18; omega)
    refine (hm M1 (by rw [ge 55 0 (by decide)]; exact hn) (fun k => ge 56 k (by decide))).mono (by decide) (fun q2 M2 hq2 => ⟨hq2.1, ?_⟩)
    obtain ⟨N, hD, hN1, hT⟩ := hq2.2.2 hl
    obtain ⟨⟨d1, d2, d3, d4, d5⟩, d6, d7, d8⟩ := hD
    obtain ⟨⟨t1, t2, t3, t4, t5⟩, t6, t7, t8, t9, t10, t11⟩ := hT
    have hlay : resF Q = -4 ∧ Q.1 58 0 ≠ 0 := by unfold layB at hl; exact of_decide_eq_true hl
    have hWt : WFt Q.1 := hwd.t hlay.2 (resF_no hlay.1).2
    have hH := hWt.H
    have hWn := hWt.W
    have eN : ∀ k j, ¬ cor k j → ¬ itf k j → ¬ (k = 55 ∧ (j = 11 ∨ j = 15)) → M2 k j = M1 k j := fun k j a b c => by rw [t11 k j a c]; exact hN1 k j b
    have eQ : ∀ k j, corb Q.1 k j → M2 k j = Q.1 k j := by
      intro k j hk
      unfold corb at hk
      by_cases h57 : k = 57
      · subst h57
        have hj : j = 0 ∨ j = 1 := by omega
        rcases hj with rfl | rfl
        · rw [t1, d1]
        · rw [t2, d2]
      · by_cases h61 : k = 61
        · subst h61
          obtain ⟨i, hi⟩ : ∃ i, i = j / 4 := ⟨_, rfl⟩
          have hj : j = 4 * i ∨ j = 4 * i + 1 ∨ j = 4 * i + 2 ∨ j = 4 * i + 3 := by omega
          have hd := d6 i (by omega)
          rw [t6 j (by omega)]
          rcases hj with rfl | rfl | rfl | rfl
          · exact hd.1
          · exact hd.2.1
          · exact hd.2.2.1
          · exact hd.2.2.2.1
        · by_cases h63 : k = 63
          · subst h63
            obtain ⟨i, hi⟩ : ∃ i, i = j / 3 := ⟨_, rfl⟩
            have hj : j = 3 * i ∨ j = 3 * i + 1 ∨ j = 3 * i + 2 := by omega
            have hd := d7 i (by omega)
            rw [t7 j (by omega)]
            rcases hj with rfl | rfl | rfl
            · exact hd.1
            · exact hd.2.1
            · exact hd.2.2
          · by_cases h64 : k = 64
            · subst h64
              rw [t8 j (by omega), d8 j (by omega)]
            · have hj : j = 0 := by omega
              subst hj
              have hk3 : k = 58 ∨ k = 59 ∨ k = 60 := by omega
              rcases hk3 with rfl | rfl | rfl
              · rw [t3, d3]
              · rw [t4, d4]
              · rw [t5, d5]
    have hC : RC M1 Q.1 := hR
    have eM : ∀ k j, k < 55 → M2 k j = M1 k j := fun k j hk => eN k j (by unfold cor; omega) (by unfold itf drf; omega) (by omega)
    obtain ⟨-, -, q0, r3, -⟩ := h.S
    have e08 : M2 0 8 = 0 := by rw [eM 0 8 (by decide)]; exact h08
    refine ⟨⟨hWt.cgb eQ, ⟨by omega, fun k hk => by omega⟩, hC.cgb hWt (fun k j hk => eM k j (by omega)) eQ, ?_, fun k hk => (by omega), q0, ?_, fun k hk => (by omega)⟩, ⟨⟨by omega, by omega, by rw [e08, t10]⟩, fun c hc => (by omega)⟩, h.2.2.1.cg (fun k j hk => ?_), h.2.2.2.cg (fun k j hk => ?_)⟩
    · rw [eM 26 3 (by decide), h263, t9]
    · rw [eM 26 6 (by decide), hF 26 6 (by unfold pfr18; omega)]; exact r3
    · rw [eN k j (by unfold cor; omega) (by unfold itf drf; omega) (by omega)]; exact hF k j (by unfold pfr18; omega)
    · rw [eN k j (by unfold cor; omega) (by unfold itf drf; omega) (by omega)]; exact hF k j (by unfold pfr18; omega)

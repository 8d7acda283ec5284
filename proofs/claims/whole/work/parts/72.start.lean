/-! the start -/
theorem zR_0 {k j : Nat} (h : k ≠ 32) : zR k j = 0 := ms_ne h j
theorem inv0 {M N : MM} (hc : cN M) (hM : ∀ k j, 55 ≤ k → M k j = 0) (h : mN M N) : INV N := by
  obtain ⟨W, N1, eW, n1, n2, n3, ht⟩ := h
  obtain ⟨⟨c1, c2, c3, c4, c5⟩, ⟨c6, c7⟩, c8, ⟨c9, c10⟩, ⟨c11, c12, c13⟩, cF⟩ := hc
  obtain ⟨⟨t1, t2, t3, t4, t5⟩, t6, t7, t8, t9, t10, t11⟩ := ht
  have eN : ∀ k j, ¬ drg k j → k ≠ 57 → N1 k j = M k j := fun k j a b => by rw [n3 k j a, eW, if_neg (fun z => b z.1)]
  have eP : ∀ k j, k ≠ 58 → k ≠ 61 → mset (mset (mset N1 58 1 1) 61 41 6) 61 42 1 k j = N1 k j := fun k j a b => by rw [ms_ne b, ms_ne b, ms_ne a]
  have eO : ∀ k j, ¬ cor k j → ¬ (k = 55 ∧ (j = 11 ∨ j = 15)) → k < 57 ∨ 65 ≤ k → N k j = M k j := fun k j a b c => by
    rw [t11 k j a b, eP k j (by omega) (by omega)]; exact eN k j (by unfold drg; omega) (by omega)
  have eC : ∀ k j, k < 55 → N k j = M k j := fun k j hk => eO k j (by unfold cor; omega) (by omega) (by omega)
  have v570 : N 57 0 = 7 := by rw [t1, eP _ _ (by decide) (by decide)]; exact n1.1
  have v571 : N 57 1 = 9 := by rw [t2, eP _ _ (by decide) (by decide)]; exact n1.2.1
  have v58 : N 58 0 = 1 := by rw [t3]; rfl
  have v59 : N 59 0 = 0 := by rw [t4, eP _ _ (by decide) (by decide)]; exact n1.2.2.2.1
  have v60 : N 60 0 = 0 := by rw [t5, eP _ _ (by decide) (by decide)]; exact n1.2.2.2.2
  have v610 : N 61 0 = 0 := by
    rw [t6 0 (by decide), ms_nj (by decide), ms_nj (by decide), ms_ne (by decide), eN 61 _ (by unfold drg; omega) (by decide)]; exact hM 61 _ (by decide)
  have v611 : N 61 1 = 6 := by rw [t6 1 (by decide)]; rfl
  have v612 : N 61 2 = 1 := by rw [t6 2 (by decide)]; rfl
  have v613 : N 61 3 = 0 := by
    rw [t6 3 (by decide), ms_nj (by decide), ms_nj (by decide), ms_ne (by decide), eN 61 _ (by unfold drg; omega) (by decide)]; exact hM 61 _ (by decide)
  have v64 : ∀ j, j < 10 → N 64 j = 0 := fun j hj => by rw [t8 j hj, eP _ _ (by decide) (by decide)]; exact n2 j hj
  have hh : hN N = 1 := by unfold hN; rw [v58]; rfl
  have hw : wN N = 0 := by unfold wN; rw [v59]; rfl
  have hnw : ∀ i, i < 10 → newB N i = false := fun i hi => by unfold newB; rw [v64 i hi]; rfl
  have hl : len N 0 = 7 := by unfold len; rw [show 4 * 0 = 0 from rfl, v610]; exact v570
  refine ⟨⟨⟨by omega, by omega, by omega, by omega, by omega, fun i hi => ?_, fun w hw2 => by omega, fun i hi => ⟨Or.inl (v64 i hi), fun _ => v64 i hi⟩, by rw [cnt_0 hnw]; omega⟩, ⟨by omega, fun k hk => by omega⟩, ⟨⟨?_, ?_, ?_, ?_, ?_⟩, fun i hi => ?_, fun s hs => ?_, fun w hw2 => by omega, fun i hi => ?_, ?_⟩, ?_, fun k hk => by omega, fun _ => false, ?_, fun k hk => by omega⟩, ⟨⟨by omega, by omega, ?_⟩, fun c hc => by omega⟩, ⟨?_, fun k => ?_, ?_, fun k hk => ?_⟩, ⟨fun j hj => ?_, fun j hj => ?_⟩⟩
  · have hi0 : i = 0 := by omega
    subst hi0
    rw [hl]
    exact ⟨Or.inl v610, ⟨by rw [show 4 * 0 + 1 = 1 from rfl, v611]; omega, by rw [show 4 * 0 + 1 = 1 from rfl, v611]; omega⟩, by rw [show 4 * 0 + 2 = 2 from rfl, v612]; omega, by rw [show 4 * 0 + 3 = 3 from rfl, v613]; omega⟩
  · rw [eC 19 0 (by decide), c1, v570]
  · rw [eC 19 1 (by decide), c2, v571]
  · rw [eC 18 1 (by decide), c3, v58]
  · rw [eC 18 5 (by decide), c4, v59]
  · rw [eC 18 9 (by decide), c5, v60]
  · have hi0 : i = 0 := by omega
    subst hi0
    exact ⟨by rw [eC 20 0 (by decide), c6]; exact v612.symm, by rw [eC 21 0 (by decide), c7]; exact v613.symm⟩
  · rw [eC 22 s (by decide), c8 s hs, mk_eq (q := fun i => decide (i < 1) && decide (bAnd (bShr 1 (s : Int)) 1 = 1)) (fun i hi => by
      unfold skP skB
      rw [hh]
      by_cases hi0 : i = 0
      · subst hi0; rw [show 4 * 0 + 2 = 2 from rfl, v612]
      · rw [decide_eq_false (show ¬ i < 1 by omega), Bool.false_and, Bool.false_and])]
    have hs5 : s = 0 ∨ s = 1 ∨ s = 2 ∨ s = 3 ∨ s = 4 := by omega
    rcases hs5 with rfl | rfl | rfl | rfl | rfl <;> decide +kernel
  · have hi0 : i = 0 := by omega
    subst hi0
    exact ⟨by rw [eC 27 0 (by decide), c9]; exact v610.symm, by rw [eC 28 0 (by decide), c10]; exact v611.symm⟩
  · rw [eC 26 2 (by decide), c11, ← mk_0]
    exact mk_eq (fun i hi => (hnw i hi).symm)
  · rw [eC 26 3 (by decide), c12, t9]
  · rw [eC 26 6 (by decide), c13]; decide +kernel
  · rw [eC 0 8 (by decide), t10, cF 0 8 (by decide) (by decide)]; exact zR_0 (by decide)
  · unfold WFx
    rw [eO 55 0 (by unfold cor; omega) (by omega) (by omega), hM 55 0 (by decide)]; omega
  · rw [eO 56 k (by unfold cor; omega) (by omega) (by omega), hM 56 k (by decide)]; omega
  · rw [eC 0 1 (by decide), cF 0 1 (by decide) (by decide), eO 55 0 (by unfold cor; omega) (by omega) (by omega), hM 55 0 (by decide)]; exact zR_0 (by decide)
  · rw [eO 55 0 (by unfold cor; omega) (by omega) (by omega), hM 55 0 (by decide)] at hk
    omega
  · rw [eO 67 j (by unfold cor; omega) (by omega) (by omega), hM 67 j (by decide)]; exact Or.inl rfl
  · rw [eO 73 j (by unfold cor; omega) (by omega) (by omega), hM 73 j (by decide)]; exact Or.inl rfl
set_option maxRecDepth 100000 in
theorem bs_0 : blk 163 0 [(.new 5, 0, 3), (.dup, 0, 1), (.invokespecial 43, 1, 3)] = true := by decide +kernel
set_option maxRecDepth 100000 in
theorem bs_7 : blk 163 7 [(.astore 1, 0, 1), (.new 6, 0, 3), (.dup, 0, 1), (.invokespecial 101, 1, 3)] = true := by decide +kernel
set_option maxRecDepth 100000 in
theorem bs_15 : blk 163 15 [(.astore 2, 0, 1), (.iconst 0, 0, 1), (.istore 3, 0, 1)] = true := by decide +kernel
theorem law_ok {L : Nat} {xs : Nat → Int} (hxs : ∀ j, rgI (xs j)) (hL : L ≤ 3072) : LawOK L xs := by
  intro S hS
  show S 0 [some (vR scr), none, none, none] [] ([], 0, 0) z0
  refine wpl_ok hS (J := S) (fun _ _ _ _ _ h => h) [(.new 5, 0, 3), (.dup, 0, 1), (.invokespecial 43, 1, 3)] 0 _ _ _ _ bs_0 ?_
  refine ex_ok 100 _ _ _ _ _ _ (b' := [(.invokespecial 43, 1, 3)]) (pc' := 4) (ls' := [some (vR scr), none, none, none]) (st' := [vR 0, vR 0]) (Z' := ([Sum.inr (5, newF 5)], 1, 12)) (M' := mnew z0 0) (M2 := z0) rfl (mn_z 0) ?_
  refine kNQ ct_43 (by decide) (by decide) (by decide) (c2 := 55) (s2 := 872) rfl rfl (by decide) (by decide) (by decide) rfl rfl ?_
  intro M0 hM0
  show S 7 [some (vR scr), none, none, none] [vR 0] (sh55, 55, 872) M0
  refine wpl_ok hS (J := S) (fun _ _ _ _ _ h => h) [(.astore 1, 0, 1), (.new 6, 0, 3), (.dup, 0, 1), (.invokespecial 101, 1, 3)] 7 _ _ _ _ bs_7 ?_
  have h55 : ∀ k j, 55 ≤ k → M0 k j = 0 := fun k j hk => by rw [hM0.2.2.2.2.2 k j (by omega) (by omega)]; exact zR_0 (by omega)
  refine ex_ok 100 _ _ _ _ _ _ (b' := [(.invokespecial 101, 1, 3)]) (pc' := 12) (ls' := [some (vR scr), some (vR 0), none, none]) (st' := [vR 55, vR 55]) (Z' := (hm_0, 56, 902)) (M' := mnew M0 55) (M2 := M0) rfl (mn_id (fun j => h55 55 j (by decide))) ?_
  refine kNQ (ct_101 M0 h55) (by decide) (by decide) (by decide) (c2 := 79) (s2 := 1739) rfl rfl (by decide) (by decide) (by decide) rfl rfl ?_
  intro N hN
  show S 15 [some (vR scr), some (vR 0), none, none] [vR 55] (sh0, 79, 1739) N
  refine wpl_ok hS (J := S) (fun _ _ _ _ _ h => h) [(.astore 2, 0, 1), (.iconst 0, 0, 1), (.istore 3, 0, 1)] 15 _ _ _ _ bs_15 ?_
  refine ex_ok 100 _ _ _ _ _ _ (b' := []) (pc' := 18) (ls' := [some (vR scr), some (vR 0), some (vR 55), some (vI 0)]) (st' := []) (Z' := (sh0, 79, 1739)) (M' := N) (M2 := N) rfl rfl ?_
  refine w_end ?_
  exact lw_loop hS hxs hL (by decide) (by decide) (L + 1) 0 N (inv0 hM0 h55 hN) (by omega) (by omega)

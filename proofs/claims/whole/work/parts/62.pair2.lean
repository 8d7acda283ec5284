/-! calls that change the book -/
theorem RS.cg2 {M M' T T' : MM} (hs : WFs T) (h : RS M T) (em : ∀ k j, (k = 26 ∧ (j = 3 ∨ j = 6)) ∨ ((k = 29 ∨ k = 30) ∧ j < 20) → M' k j = M k j) (e : ∀ k j, sor k j → T' k j = T k j) : RS M' T' := by
  have hs1 := hs.1
  obtain ⟨a, b, q, c, d⟩ := h
  have e0 := e 55 11 (by unfold sor; omega)
  refine ⟨by rw [em _ _ (by omega), e0]; exact a, fun k hk => ?_, q, by rw [em _ _ (by omega)]; exact c, fun k hk => ?_⟩
  · rw [e0] at hk
    rw [em _ _ (by omega), em _ _ (by omega), e _ _ (by unfold sor; omega), e _ _ (by unfold sor; omega)]
    exact b k hk
  · rw [e0] at hk
    rw [e _ _ (by unfold sor; omega)]
    exact d k hk
def corb (T : MM) (k j : Nat) : Prop := (k = 57 ∧ j < 2) ∨ ((k = 58 ∨ k = 59 ∨ k = 60) ∧ j = 0) ∨ (k = 61 ∧ j < 4 * hN T) ∨ (k = 63 ∧ j < 3 * wN T) ∨ (k = 64 ∧ j < 10)
theorem WFt.cgb {T T' : MM} (h : WFt T) (e : ∀ k j, corb T k j → T' k j = T k j) : WFt T' := by
  have hH := h.H
  have hWn := h.W
  have hn : ∀ i, i < 10 → newB T' i = newB T i := fun i hi => by unfold newB; rw [e 64 i (by unfold corb; omega)]
  obtain ⟨a, b, c, d, f, g, w, n, m⟩ := h
  have e0 := e 57 0 (by unfold corb; omega)
  have e1 := e 57 1 (by unfold corb; omega)
  have e2 := e 58 0 (by unfold corb; omega)
  have e3 := e 59 0 (by unfold corb; omega)
  have e4 := e 60 0 (by unfold corb; omega)
  refine ⟨by rw [e0]; exact a, by rw [e1]; exact b, by rw [e2]; exact c, by rw [e3]; exact d, by rw [e4, e2]; exact f, fun i hi => ?_, fun x hx => ?_, fun i hi => ?_, by rw [cnt_eq hn]; exact m⟩
  · rw [e2] at hi
    have h1 := g i hi
    have hl : len T' i = len T i := by
      unfold len
      rw [e 61 (4 * i) (by unfold corb; omega)]
      rcases h1.1 with h2 | h2 <;> rw [h2]
      · exact e0
      · exact e1
    rw [hl, e 61 (4 * i) (by unfold corb; omega), e 61 (4 * i + 1) (by unfold corb; omega), e 61 (4 * i + 2) (by unfold corb; omega), e 61 (4 * i + 3) (by unfold corb; omega)]
    exact h1
  · rw [e3] at hx
    rw [e 63 (3 * x) (by unfold corb; omega), e 63 (3 * x + 1) (by unfold corb; omega), e 63 (3 * x + 2) (by unfold corb; omega)]
    exact w x hx
  · rw [e2, e 64 i (by unfold corb; omega)]
    exact n i hi
theorem RC.cgb {M M' T T' : MM} (hW : WFt T) (h : RC M T) (em : ∀ k j, (18 ≤ k ∧ k ≤ 25) ∨ (k = 26 ∧ j = 2) ∨ ((k = 27 ∨ k = 28) ∧ j < 10) → M' k j = M k j) (e : ∀ k j, corb T k j → T' k j = T k j) : RC M' T' := by
  have hH := hW.H
  have hWn := hW.W
  have eh : hN T' = hN T := by unfold hN; rw [e 58 0 (by unfold corb; omega)]
  have ew : wN T' = wN T := by unfold wN; rw [e 59 0 (by unfold corb; omega)]
  obtain ⟨⟨a1, a2, a3, a4, a5⟩, b, c, d, f, g⟩ := h
  refine ⟨⟨?_, ?_, ?_, ?_, ?_⟩, fun i hi => ?_, fun s hs => ?_, fun w hw => ?_, fun i hi => ?_, ?_⟩
  · rw [em _ _ (by omega), e _ _ (by unfold corb; omega)]; exact a1
  · rw [em _ _ (by omega), e _ _ (by unfold corb; omega)]; exact a2
  · rw [em _ _ (by omega), e _ _ (by unfold corb; omega)]; exact a3
  · rw [em _ _ (by omega), e _ _ (by unfold corb; omega)]; exact a4
  · rw [em _ _ (by omega), e _ _ (by unfold corb; omega)]; exact a5
  · rw [eh] at hi
    rw [em _ _ (by omega), em _ _ (by omega), e _ _ (by unfold corb; omega), e _ _ (by unfold corb; omega)]
    exact b i hi
  · rw [em _ _ (by omega), c s hs]
    refine mk_eq (fun i hi => ?_)
    unfold skP skB
    rw [eh]
    by_cases hih : i < hN T
    · rw [e _ _ (by unfold corb; omega)]
    · rw [decide_eq_false hih, Bool.false_and, Bool.false_and]
  · rw [ew] at hw
    rw [em _ _ (by omega), em _ _ (by omega), em _ _ (by omega), e _ _ (by unfold corb; omega), e _ _ (by unfold corb; omega), e _ _ (by unfold corb; omega)]
    exact d w hw
  · rw [eh] at hi
    rw [em _ _ (by omega), em _ _ (by omega), e _ _ (by unfold corb; omega), e _ _ (by unfold corb; omega)]
    exact f i hi
  · rw [em _ _ (by omega), g]
    refine mk_eq (fun i hi => ?_)
    unfold newP newB
    rw [e 64 i (by unfold corb; omega)]
theorem corb_cor {T : MM} (h : WFt T) {k j : Nat} (hc : corb T k j) : cor k j := by
  have hH := h.H
  have hWn := h.W
  unfold corb at hc
  unfold cor
  omega
def xor (k j : Nat) : Prop := (k = 0 ∧ j = 1) ∨ k = 1 ∨ (k = 55 ∧ j = 0) ∨ k = 56
/-- the invariant behind a change of the book: G is the model's book behind it -/
theorem INV.book {M M1 M2 G : MM} (h : INV M) (hW : WFt G) (hs : WFs G) (hC : RC M1 G) (hS : RS M1 G) (e1 : ∀ k j, 18 ≤ k ∧ k ≤ 30 → M2 k j = M1 k j) (e2 : ∀ k j, cor k j ∨ sor k j → M2 k j = G k j) (e3 : ∀ k j, kor k j ∨ xor k j → M2 k j = M k j) (e5 : BO M2) : INV M2 := by
  refine ⟨⟨hW.cg (fun k j hk => e2 k j (Or.inl hk)), hs.cg (fun k j hk => e2 k j (Or.inr hk)), hC.cg hW (fun k j hk => e1 k j ?_) (fun k j hk => e2 k j (Or.inl hk)), hS.cg hs (fun k j hk => e1 k j ?_) (fun k j hk => e2 k j (Or.inr hk))⟩, h.2.1.cg (fun k j hk => e3 k j (Or.inl hk)), h.2.2.1.cg (fun k j hk => e3 k j (Or.inr hk)), e5⟩
  · unfold mor at hk; omega
  · unfold mor at hk; omega
/-- cells of the model are as they were -/
theorem ge_W {M M1 : MM} (h : WFt M) (e : ∀ k j, 55 ≤ k → M1 k j = M k j) : WFt M1 := h.cg (fun k j hk => e k j (by unfold cor at hk; omega))
theorem ge_s {M M1 : MM} (h : WFs M) (e : ∀ k j, 55 ≤ k → M1 k j = M k j) : WFs M1 := h.cg (fun k j hk => e k j (by unfold sor at hk; omega))
theorem g_change_mv (T : MM) (i r : Int) {k : Nat} (hk : 55 ≤ k) (j : Nat) : g_change (mv T) i r k j = g_change T i r k j := by
  unfold g_change
  show (if (0 ≤ i ∧ i < T 58 0) ∧ 0 ≤ r ∧ r < len T i.toNat then mset (mv T) 61 (4 * i.toNat + 1) r else mv T) k j = _
  split
  · unfold mset mv; rw [if_pos hk]
  · unfold mv; rw [if_pos hk]
theorem g_wed_mv (T : MM) (x y : Int) {k : Nat} (hk : 55 ≤ k) (j : Nat) : g_wed (mv T) x y k j = g_wed T x y k j := by
  unfold g_wed
  show (if okWed T x y then g_wedN (mv T) x.toNat y.toNat else mv T) k j = _
  split
  · unfold g_wedN mset mv; rw [if_pos hk]; rfl
  · unfold mv; rw [if_pos hk]
theorem g_seen_mv (T : MM) (d w b : Int) {k : Nat} (hk : 55 ≤ k) (j : Nat) : g_seen (mv T) d w b k j = g_seen T d w b k j := by
  unfold g_seen
  show (if okSeen T d w = true ∧ T 55 11 ≠ 20 then mset (mset (mset (mset (mv T) 65 (T 55 11).toNat d) 66 (T 55 11).toNat w) 67 (T 55 11).toNat b) 55 11 (T 55 11 + 1) else mv T) k j = _
  split
  · unfold mset mv; rw [if_pos hk]
  · unfold mv; rw [if_pos hk]
theorem g_change_no (T : MM) (i r : Int) {k j : Nat} (h : ¬ (k = 61 ∧ j % 4 = 1)) : g_change T i r k j = T k j := by
  unfold g_change
  split
  · unfold mset; rw [if_neg (by omega)]
  · rfl
theorem g_wed_no (T : MM) (x y : Int) {k j : Nat} (h : ¬ (k = 61 ∧ j % 4 < 2)) : g_wed T x y k j = T k j := by
  unfold g_wed
  split
  · unfold g_wedN mset; rw [if_neg (by omega), if_neg (by omega)]
  · rfl
theorem g_change_WF {T : MM} (h : WFt T) (i r : Int) : WFt (g_change T i r) := by
  unfold g_change
  split
  · rename_i hc; exact setR_WF h (i := i.toNat) hc.2
  · exact h
theorem g_wed_WF {T : MM} (h : WFt T) (i j : Int) : WFt (g_wed T i j) := by
  unfold g_wed
  split
  · rename_i hc
    unfold okWed at hc
    have := of_decide_eq_true hc
    have hH := h.H
    exact wedN_WF h (by omega)
  · exact h
theorem p_change (i r : Int) (hi : rgI i) (hr : rgI r) : PI 66 154 [vI i, vI r] := by
  intro M h
  refine (x_change i r M M h.W h.C hi hr).mono (by decide) (fun q M1 hq => ⟨f_change M i r, hq.1, ?_, ?_⟩)
  · unfold f_change rgI
    have hH := h.W.H
    split
    · have h1 := h.W.hs (i := i.toNat) (by omega)
      have h2 := h.W.ln (i := i.toNat) (by omega)
      omega
    · omega
  · obtain ⟨-, hC, hF⟩ := hq
    have ge : ∀ k j, 55 ≤ k → M1 k j = M k j := fun k j hk => hF k j (by omega)
    have hW1 := ge_W h.W ge
    refine (m_change i r M1 hW1 hi hr).mono (by decide) (fun q2 M2 hq2 => ⟨?_, ?_⟩)
    · rw [hq2.1, ← f_change_mv M1, mv_eq ge, f_change_mv]
    · have e2 : ∀ k j, 55 ≤ k → M2 k j = g_change M i r k j := fun k j hk => by rw [hq2.2, ← g_change_mv M1 i r hk, mv_eq ge, g_change_mv M i r hk]
      have e1 : ∀ k j, k < 55 → M2 k j = M1 k j := fun k j hk => by rw [hq2.2]; exact g_change_no M1 i r (by omega)
      refine h.book (g_change_WF h.W i r) (h.s.cg (fun k j hk => g_change_no M i r (by unfold sor at hk; omega))) hC (h.S.cg2 h.s (fun k j hk => hF k j (by omega)) (fun k j hk => g_change_no M i r (by unfold sor at hk; omega))) (fun k j hk => e1 k j (by omega)) (fun k j hk => e2 k j (by unfold cor sor at hk; omega)) (fun k j hk => ?_) (h.2.2.2.cg (fun k j hk => by rw [e2 k j (by omega)]; exact g_change_no M i r (by omega)))
      by_cases hk5 : 55 ≤ k
      · rw [e2 k j hk5]; exact g_change_no M i r (by unfold kor xor at hk; omega)
      · rw [e1 k j (by omega)]; exact hF k j (by unfold kor xor at hk; omega)
theorem p_wed (i j : Int) (hi : rgI i) (hj : rgI j) : PI 67 155 [vI i, vI j] := by
  intro M h
  refine (x_wed i j M M h.W h.C hi hj).mono (by decide) (fun q M1 hq => ⟨f_wed M i j, hq.1, ?_, ?_⟩)
  · unfold f_wed rgI
    have hH := h.W.H
    split
    · rename_i hc
      unfold okWed at hc
      have := of_decide_eq_true hc
      have h1 := h.W.hs (i := j.toNat) (by omega)
      have h2 := h.W.ln (i := j.toNat) (by omega)
      omega
    · omega
  · obtain ⟨-, hC, hF⟩ := hq
    have ge : ∀ k j, 55 ≤ k → M1 k j = M k j := fun k j hk => hF k j (by omega) (by omega)
    have hW1 := ge_W h.W ge
    refine (m_wed i j M1 hW1 hi hj).mono (by decide) (fun q2 M2 hq2 => ⟨?_, ?_⟩)
    · rw [hq2.1, ← f_wed_mv M1, mv_eq ge, f_wed_mv]
    · have e2 : ∀ k x, 55 ≤ k → M2 k x = g_wed M i j k x := fun k x hk => by rw [hq2.2, ← g_wed_mv M1 i j hk, mv_eq ge, g_wed_mv M i j hk]
      have e1 : ∀ k x, k < 55 → M2 k x = M1 k x := fun k x hk => by rw [hq2.2]; exact g_wed_no M1 i j (by omega)
      refine h.book (g_wed_WF h.W i j) (h.s.cg (fun k x hk => g_wed_no M i j (by unfold sor at hk; omega))) hC (h.S.cg2 h.s (fun k x hk => hF k x (by omega) (by omega)) (fun k x hk => g_wed_no M i j (by unfold sor at hk; omega))) (fun k x hk => e1 k x (by omega)) (fun k x hk => e2 k x (by unfold cor sor at hk; omega)) (fun k x hk => ?_) (h.2.2.2.cg (fun k x hk => by rw [e2 k x (by omega)]; exact g_wed_no M i j (by omega)))
      by_cases hk5 : 55 ≤ k
      · rw [e2 k x hk5]; exact g_wed_no M i j (by unfold kor xor at hk; omega)
      · rw [e1 k x (by omega)]; exact hF k x (by unfold kor xor at hk; omega) (by unfold kor xor at hk; omega)
theorem g_seen_no (T : MM) (d w b : Int) {k j : Nat} (h : ¬ (65 ≤ k ∧ k ≤ 67)) (h2 : ¬ (k = 55 ∧ j = 11)) : g_seen T d w b k j = T k j := by
  unfold g_seen
  split
  · unfold mset; rw [if_neg (by omega), if_neg (by omega), if_neg (by omega), if_neg (by omega)]
  · rfl
theorem g_seen_WF {T : MM} (h : WFs T) (d w b : Int) (hb : b = 0 ∨ b = 1) : WFs (g_seen T d w b) := by
  unfold g_seen
  split
  · rename_i hc
    obtain ⟨a, g⟩ := h
    have ho := hc.1
    unfold okSeen at ho
    rw [Bool.and_eq_true, decide_eq_true_iff] at ho
    have hd := isDayB_iff.mp ho.1
    have hne := hc.2
    refine ⟨by rw [ms_eq]; omega, fun k hk => ?_⟩
    rw [ms_eq] at hk
    simp only [mset, Nat.reduceEqDiff, false_and, if_false, true_and]
    by_cases hkn : k = (T 55 11).toNat
    · rw [if_pos hkn, if_pos hkn, if_pos hkn]; exact ⟨hd, ho.2, hb⟩
    · rw [if_neg hkn, if_neg hkn, if_neg hkn]; exact g k (by omega)
  · exact h
theorem p_seen (d w b : Int) (hd : rgL d) (hw : rgI w) (hb : b = 0 ∨ b = 1) : PI 62 149 [vL d, vI w, vI b] := by
  intro M h
  have hs1 := h.s.1
  refine (x_seen d w b M M h.W h.s h.C h.S hd hw hb).mono (by decide) (fun q M1 hq => ⟨f_seen M d w, hq.1, ?_, ?_⟩)
  · unfold f_seen rgI
    split
    · split <;> omega
    · omega
  · obtain ⟨-, hS, hF⟩ := hq
    have ge : ∀ k j, 55 ≤ k → M1 k j = M k j := fun k j hk => hF k j (by omega)
    refine (m_seen d w b M1 (ge_W h.W ge) (ge_s h.s ge) hd hw hb).mono (by decide) (fun q2 M2 hq2 => ⟨?_, ?_⟩)
    · rw [hq2.1, ← f_seen_mv M1, mv_eq ge, f_seen_mv]
    · have e2 : ∀ k j, 55 ≤ k → M2 k j = g_seen M d w b k j := fun k j hk => by rw [hq2.2, ← g_seen_mv M1 d w b hk, mv_eq ge, g_seen_mv M d w b hk]
      have e1 : ∀ k j, k < 55 → M2 k j = M1 k j := fun k j hk => by rw [hq2.2]; exact g_seen_no M1 d w b (by omega) (by omega)
      refine h.book (h.W.cg (fun k j hk => g_seen_no M d w b (by unfold cor at hk; omega) (by unfold cor at hk; omega))) (g_seen_WF h.s d w b hb) (h.C.cgb h.W (fun k j hk => hF k j (by omega)) (fun k j hk => g_seen_no M d w b (by unfold corb at hk; omega) (by unfold corb at hk; omega))) hS (fun k j hk => e1 k j (by omega)) (fun k j hk => e2 k j (by unfold cor sor at hk; omega)) (fun k j hk => ?_) ⟨fun j hj => ?_, fun j hj => ?_⟩
      · by_cases hk5 : 55 ≤ k
        · rw [e2 k j hk5]; exact g_seen_no M d w b (by unfold kor xor at hk; omega) (by unfold kor xor at hk; omega)
        · rw [e1 k j (by omega)]; exact hF k j (by unfold kor xor at hk; omega)
      · rw [e2 67 j (by omega)]
        unfold g_seen
        split
        · simp only [mset, Nat.reduceEqDiff, false_and, if_false, true_and]
          split
          · exact hb
          · exact h.2.2.2.1 j hj
        · exact h.2.2.2.1 j hj
      · rw [e2 73 j (by omega), g_seen_no M d w b (by omega) (by omega)]; exact h.2.2.2.2 j hj
theorem p_forget : PI 63 150 [] := by
  intro M h
  have hs1 := h.s.1
  obtain ⟨-, -, q0, r3, -⟩ := h.S
  refine (x_forget M M h.S).mono (by decide) (fun q M1 hq => ⟨M 55 11, hq.1, by unfold rgI; omega, ?_⟩)
  obtain ⟨-, rfl⟩ := hq
  refine (m_forget (mset M 26 3 0)).mono (by decide) (fun q2 M2 hq2 => ⟨by rw [hq2.1, ms_ne (by decide)], ?_⟩)
  have e : ∀ k j, ¬ (k = 26 ∧ j = 3) → ¬ (k = 55 ∧ j = 11) → M2 k j = M k j := fun k j h1 h2 => by
    rw [hq2.2]
    unfold mset
    rw [if_neg h2, if_neg h1]
  have e11 : M2 55 11 = 0 := by rw [hq2.2, ms_eq]
  have e3 : M2 26 3 = 0 := by rw [hq2.2, ms_ne (by decide), ms_eq]
  refine h.book (M1 := M2) (G := M2) (h.W.cg (fun k j hk => e k j (by unfold cor at hk; omega) (by unfold cor at hk; omega))) ⟨by rw [e11]; omega, fun k hk => by rw [e11] at hk; omega⟩ (h.C.cgb h.W (fun k j hk => e k j (by omega) (by omega)) (fun k j hk => e k j (by unfold corb at hk; omega) (by unfold corb at hk; omega))) ⟨by rw [e3, e11], fun k hk => (by rw [e11] at hk; omega), q0, by rw [e 26 6 (by omega) (by omega)]; exact r3, fun k hk => (by rw [e11] at hk; omega)⟩ (fun _ _ _ => rfl) (fun _ _ _ => rfl) (fun k j hk => e k j (by unfold kor xor at hk; omega) (by unfold kor xor at hk; omega)) (h.2.2.2.cg (fun k j hk => e k j (by omega) (by omega)))

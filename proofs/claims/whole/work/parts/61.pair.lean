/-! the invariant, and questions: the component's answer and the model's -/
def XI (M : MM) : Prop := WFx M ∧ (∀ k, -128 ≤ M 56 k ∧ M 56 k ≤ 127) ∧ RX M M
def BO (M : MM) : Prop := (∀ j, j < 20 → M 67 j = 0 ∨ M 67 j = 1) ∧ ∀ j, j < 40 → M 73 j = 0 ∨ M 73 j = 1
def INV (M : MM) : Prop := BI M M ∧ KI M ∧ XI M ∧ BO M
theorem XI.cg {M M' : MM} (h : XI M) (e : ∀ k j, (k = 0 ∧ j = 1) ∨ k = 1 ∨ (k = 55 ∧ j = 0) ∨ k = 56 → M' k j = M k j) : XI M' := by
  obtain ⟨a, b, c, d⟩ := h
  unfold WFx at a
  refine ⟨?_, fun k => ?_, ?_, fun k hk => ?_⟩
  · unfold WFx; rw [e 55 0 (by omega)]; exact a
  · rw [e 56 k (by omega)]; exact b k
  · rw [e 0 1 (by omega), e 55 0 (by omega)]; exact c
  · rw [e 55 0 (by omega)] at hk
    rw [e 1 k (by omega), e 56 k (by omega)]; exact d k hk
theorem BO.cg {M M' : MM} (h : BO M) (e : ∀ k j, k = 67 ∨ k = 73 → M' k j = M k j) : BO M' :=
  ⟨fun j hj => by rw [e 67 j (by omega)]; exact h.1 j hj, fun j hj => by rw [e 73 j (by omega)]; exact h.2 j hj⟩
theorem INV.ke {M M' : MM} (h : INV M) (e : eqT M M') : INV M' := by
  refine ⟨h.1.cg (fun k j hk => e k j ?_) (fun k j hk => e k j ?_) (fun k j hk => e k j ?_), h.2.1.cg (fun k j hk => e k j ?_), h.2.2.1.cg (fun k j hk => e k j ?_), h.2.2.2.cg (fun k j hk => e k j ?_)⟩
  · unfold mor at hk; unfold tmp; omega
  · unfold cor at hk; unfold tmp; omega
  · unfold sor at hk; unfold tmp; omega
  · unfold kor at hk; unfold tmp; omega
  · unfold tmp; omega
  · unfold tmp; omega
theorem kC.eqT {M M' : MM} (h : kC M M') : eqT M M' := fun k j hk => h k j (fun z => hk (by unfold tmp; omega))
theorem kC.mv {M M' : MM} (h : kC M M') : mv M' = mv M := mv_eq (fun k j hk => h k j (by omega))
theorem kC.pt {M M' : MM} (h : kC M M') : pt M' = pt M := pt_eq (fun k j h1 h2 => h k j (by omega))
theorem oQ.mono {d d' y : Nat} {a : List AV} {M : MM} {Q Q' : Option AV → MM → Prop} (h : oQ d y a M Q) (hd : d ≤ d') (hq : ∀ r M', Q r M' → Q' r M') : oQ d' y a M Q' :=
  Run.mono d d' hd h (fun r sh M' q => ⟨q.1, hq r M' q.2⟩)
def PI (y z : Nat) (a : List AV) : Prop := ∀ M, INV M → oQ 9 y (vR 0 :: a) M (fun r M1 => ∃ v : Int, r = some (Sum.inl v) ∧ rgI v ∧ oQ 9 z (vR 55 :: a) M1 (fun r2 M2 => r2 = some (Sum.inl v) ∧ INV M2))
def PL (y z : Nat) (a : List AV) : Prop := ∀ M, INV M → oQ 9 y (vR 0 :: a) M (fun r M1 => ∃ v : Int, r = some (Sum.inr (Sum.inl v)) ∧ rgL v ∧ oQ 9 z (vR 55 :: a) M1 (fun r2 M2 => r2 = some (Sum.inr (Sum.inl v)) ∧ INV M2))
theorem PI_q {d1 d2 y z : Nat} {a : List AV} (f : MM → Int) (hx : ∀ M, INV M → oQ d1 y (vR 0 :: a) M (fun r M' => r = some (Sum.inl (f M)) ∧ kC M M')) (hm : ∀ M, INV M → oQ d2 z (vR 55 :: a) M (fun r M' => r = some (Sum.inl (f M)) ∧ eqT M M')) (hf : ∀ T T', kC T T' → f T' = f T) (hr : ∀ M, INV M → rgI (f M)) (h1 : d1 ≤ 9) (h2 : d2 ≤ 9) : PI y z a := by
  intro M hI
  refine (hx M hI).mono h1 (fun r M1 q => ⟨f M, q.1, hr M hI, ?_⟩)
  have hI1 : INV M1 := hI.ke q.2.eqT
  refine (hm M1 hI1).mono h2 (fun r2 M2 q2 => ⟨by rw [q2.1, hf M M1 q.2], hI1.ke q2.2⟩)
theorem PL_q {d1 d2 y z : Nat} {a : List AV} (f : MM → Int) (hx : ∀ M, INV M → oQ d1 y (vR 0 :: a) M (fun r M' => r = some (Sum.inr (Sum.inl (f M))) ∧ kC M M')) (hm : ∀ M, INV M → oQ d2 z (vR 55 :: a) M (fun r M' => r = some (Sum.inr (Sum.inl (f M))) ∧ eqT M M')) (hf : ∀ T T', kC T T' → f T' = f T) (hr : ∀ M, INV M → rgL (f M)) (h1 : d1 ≤ 9) (h2 : d2 ≤ 9) : PL y z a := by
  intro M hI
  refine (hx M hI).mono h1 (fun r M1 q => ⟨f M, q.1, hr M hI, ?_⟩)
  have hI1 : INV M1 := hI.ke q.2.eqT
  refine (hm M1 hI1).mono h2 (fun r2 M2 q2 => ⟨by rw [q2.1, hf M M1 q.2], hI1.ke q2.2⟩)
theorem oI.e {d y : Nat} {a : List AV} {M : MM} {v : Int} (h : oI d y a M v) : oQ d y a M (fun r M' => r = some (Sum.inl v) ∧ eqT M M') := oQ.mono h (Nat.le_refl _) (fun r M' q => ⟨q.1, by rw [q.2]; exact eqT.rf _⟩)
theorem oL.e {d y : Nat} {a : List AV} {M : MM} {v : Int} (h : oL d y a M v) : oQ d y a M (fun r M' => r = some (Sum.inr (Sum.inl v)) ∧ eqT M M') := oQ.mono h (Nat.le_refl _) (fun r M' q => ⟨q.1, by rw [q.2]; exact eqT.rf _⟩)
theorem oI.k {d y : Nat} {a : List AV} {M : MM} {v : Int} (h : oI d y a M v) : oQ d y a M (fun r M' => r = some (Sum.inl v) ∧ kC M M') := oQ.mono h (Nat.le_refl _) (fun r M' q => ⟨q.1, by rw [q.2]; exact kC.rf _⟩)
theorem of_mv {f : MM → Int} (h : ∀ T, f (mv T) = f T) : ∀ T T', kC T T' → f T' = f T := fun T T' k => by rw [← h T', k.mv, h]
theorem INV.W {M : MM} (h : INV M) : WFt M := h.1.1
theorem INV.C {M : MM} (h : INV M) : RC M M := h.1.2.2.1
theorem INV.s {M : MM} (h : INV M) : WFs M := h.1.2.1
theorem INV.S {M : MM} (h : INV M) : RS M M := h.1.2.2.2
theorem p_up (d : Int) (hd : rgL d) : PI 49 123 [vL d] := PI_q (fun M => f_up M d) (fun M h => x_up d M M h.W h.C hd) (fun M h => (m_up d M h.W hd).e) (of_mv (fun T => f_up_mv T d)) (fun M h => by
  unfold f_up upM rgI
  have := mk_rg (upP M d)
  split <;> omega) (by decide) (by decide)
theorem p_hands (s d : Int) (hs : rgI s) (hd : rgL d) : PI 50 124 [vI s, vL d] := PI_q (fun M => f_hands M s d) (fun M h => x_hands s d M M h.W h.C hs hd) (fun M h => (m_hands s d M h.W hs hd).e) (of_mv (fun T => f_hands_mv T s d)) (fun M h => by
  unfold f_hands rgI
  have := hands_rg h.W s.toNat d
  split <;> omega) (by decide) (by decide)
theorem dayK_rg {p : Nat → Bool} {n : Nat} {d : Int} (hn : n ≤ 1000) (hd : isDayB d = true) : rgL (dayK (fstF p 0 n) d) := by
  have h1 := isDayB_iff.mp hd
  unfold dayK rgL
  cases hf : fstF p 0 n with
  | none => simp
  | some k =>
    have := (fstF_some.mp hf).2.1
    simp only
    omega
theorem p_judge (d w : Int) (hd : rgL d) (hw : rgI w) : PL 51 127 [vL d, vI w] := PL_q (fun M => f_judge M d w) (fun M h => x_judge d w M M h.W h.C hd hw) (fun M h => (m_judge d w M h.W hd hw).e) (of_mv (fun T => f_judge_mv T d w)) (fun M h => by
  unfold f_judge
  split
  · rename_i hc
    have h1 := isDayB_iff.mp hc.1
    cases hf : fstF (fun k => anyS M (d + k)) 0 1000 with
    | none => unfold rgL; simp
    | some k =>
      have h2 := (fstF_some.mp hf).2.1
      have h3 := shO_rg (T := M) (d := d + k) h.W
      unfold rgL
      simp only
      split <;> omega
  · unfold rgL; omega) (by decide) (by decide)
theorem p_still (w : Int) (hw : rgI w) : PI 52 128 [vI w] := PI_q (fun M => f_still M w) (fun M h => x_still w M M h.W h.C hw) (fun M h => (m_still w M h.W hw).e) (of_mv (fun T => f_still_mv T w)) (fun M h => by
  unfold f_still rgI
  have := stN_rg M w.toNat (2 * PN M)
  have := h.W.P
  split <;> omega) (by decide) (by decide)
theorem p_together (x d : Int) (hx : rgI x) (hd : rgL d) : PL 53 131 [vI x, vL d] := PL_q (fun M => f_together M x d) (fun M h => x_together x d M M h.W h.C hx hd) (fun M h => (m_together x d M h.W hx hd).e) (of_mv (fun T => f_together_mv T x d)) (fun M h => by
  unfold f_together
  have := h.W.P
  split
  · rename_i hc; exact dayK_rg (by omega) hc.2
  · unfold rgL; omega) (by decide) (by decide)
theorem p_often (x d n : Int) (hx : rgI x) (hd : rgL d) (hn : rgL n) : PL 54 132 [vI x, vL d, vL n] := PL_q (fun M => f_often M x d n) (fun M h => x_often x d n M M h.W h.C hx hd hn) (fun M h => (m_often x d n M h.W hx hd hn).e) (of_mv (fun T => f_often_mv T x d n)) (fun M h => by
  unfold f_often
  have hP := h.W.P
  split
  · rename_i hc
    have h1 := cnt_rg (fun k => auB M x (d + k)) (PN M)
    have h2 := cnt_rg (fun k => auB M x (d + k)) (n % PN M).toNat
    have h3 := Int.emod_nonneg n (show (PN M : Int) ≠ 0 by omega)
    have h4 := Int.emod_lt_of_pos n (show (0 : Int) < PN M by omega)
    have h5 : 0 ≤ n / PN M := Int.ediv_nonneg (by omega) (by omega)
    have h6 : n / PN M ≤ n := Int.ediv_le_self _ (by omega)
    have h7 : 0 ≤ n / PN M * cnt (fun k => auB M x (d + k)) (PN M) := Int.mul_nonneg h5 h1.1
    have h8 : n / PN M * cnt (fun k => auB M x (d + k)) (PN M) ≤ 1000000000000 * 132 := Int.mul_le_mul (by omega) (by omega) h1.1 (by omega)
    unfold rgL
    omega
  · unfold rgL; omega) (by decide) (by decide)
theorem p_longest (x : Int) (hx : rgI x) : PI 55 133 [vI x] := PI_q (fun M => f_longest M x) (fun M h => x_longest x M M h.W h.C hx) (fun M h => (m_longest x M h.W hx).e) (of_mv (fun T => f_longest_mv T x)) (fun M h => by
  unfold f_longest rgI
  have := lgM_rg M x (2 * PN M)
  have := h.W.P
  split
  · split <;> omega
  · omega) (by decide) (by decide)
theorem p_street (t d : Int) (ht : rgI t) (hd : rgL d) : PL 56 134 [vI t, vL d] := PL_q (fun M => f_street M t d) (fun M h => x_street t d M M h.W h.C ht hd) (fun M h => (m_street t d M h.W ht hd).e) (of_mv (fun T => f_street_mv T t d)) (fun M h => by
  unfold f_street
  have := h.W.P
  split
  · rename_i hc
    split
    · unfold rgL; omega
    · exact dayK_rg (by omega) hc.2.2
  · unfold rgL; omega) (by decide) (by decide)
theorem p_same (w : Int) (hw : rgI w) : PI 57 136 [vI w] := PI_q (fun M => f_same M w) (fun M h => x_same w M M h.W h.C hw) (fun M h => (m_same w M h.W hw).mono (Nat.le_refl _) (fun r M' q => ⟨q.1, fun k j hk => by
    obtain ⟨x, hx⟩ := q.2
    rw [hx]
    unfold tmp at hk
    unfold mset
    rw [if_neg (by omega)]⟩)) (of_mv (fun T => f_same_mv T w)) (fun M h => by
  unfold f_same rgI
  have h1 := msV_rg h.W (PN M)
  have hP := h.W.P
  obtain ⟨k, h2, h3, -⟩ := ms_facts h.W (PN M) (by omega)
  split
  · split <;> omega
  · omega) (by decide) (by decide)
theorem p_harvest (s d x : Int) (hs : rgI s) (hd : rgL d) (hx : rgL x) : PL 58 137 [vI s, vL d, vL x] := PL_q (fun M => f_harvest M s d x) (fun M h => x_harvest s d x M M h.W h.C hs hd hx) (fun M h => (m_harvest s d x M h.W hs hd hx).e) (of_mv (fun T => f_harvest_mv T s d x)) (fun M h => by
  unfold f_harvest
  have hP := h.W.P
  split
  · rename_i hc
    split
    · unfold rgL; omega
    · rename_i h0
      have h1 := hsum_rg h.W s.toNat d (PN M)
      generalize hsum M s.toNat d (PN M) = z at h0 h1
      have h2 := hvO_rg M s.toNat d (PN M) (x - (x - 1) / z * z) 0
      have h5 : 0 ≤ (x - 1) / z := Int.ediv_nonneg (by omega) (by omega)
      have h6 : (x - 1) / z ≤ x - 1 := Int.ediv_le_self _ (by omega)
      have h7 : 0 ≤ (x - 1) / z * PN M := Int.mul_nonneg h5 (by omega)
      have h8 : (x - 1) / z * PN M ≤ 1000000000000 * 132 := Int.mul_le_mul (by omega) (by omega) (by omega) (by omega)
      unfold rgL
      omega
  · unfold rgL; omega) (by decide) (by decide)
theorem p_house (i w : Int) (hi : rgI i) (hw : rgI w) : PI 48 116 [vI i, vI w] := PI_q (fun M => f_house M i w) (fun M h => (x_house i w M M h.W h.C hi hw).k) (fun M h => (m_house i w M h.W hi hw).e) (of_mv (fun T => f_house_mv T i w)) (fun M h => by
  unfold f_house rgI
  have hH := h.W.H
  split
  · rename_i hc
    obtain ⟨n, hn⟩ : ∃ n : Nat, i = (n : Int) := ⟨i.toNat, by omega⟩
    have h1 := h.W.hs (i := n) (by omega)
    have h2 := h.W.ln (i := n) (by omega)
    have h3 := (h.W.2.2.2.2.2.2.2.1 n (by omega)).1
    split
    · have hw4 : w = 0 ∨ w = 1 ∨ w = 2 ∨ w = 3 := by omega
      rw [hn]
      rcases hw4 with rfl | rfl | rfl | rfl
      · rw [show (4 * (n : Int) + 0).toNat = 4 * n by omega]; omega
      · rw [show (4 * (n : Int) + 1).toNat = 4 * n + 1 by omega]; omega
      · rw [show (4 * (n : Int) + 2).toNat = 4 * n + 2 by omega]; omega
      · rw [show (4 * (n : Int) + 3).toNat = 4 * n + 3 by omega]; omega
    · rw [hn, Int.toNat_natCast]; omega
  · omega) (by decide) (by decide)
theorem p_fire (z n d w : Int) (hz : rgI z) (hn : rgI n) (hd : rgL d) (hw : rgI w) : PI 65 153 [vI z, vI n, vL d, vI w] := PI_q (fun M => f_fire M z n d w) (fun M h => x_fire z n d w M M h.W h.C hz hn hd hw) (fun M h => (m_fire z n d w M h.W hz hn hd hw).e) (of_mv (fun T => f_fire_mv T z n d w)) (fun M h => by
  unfold f_fire rgI
  have h1 := cnt_rg (upP M (fd z n d)) 10
  have h2 := cnt_rg (fun k => rsB M (fd ((z + k) % 10000) n d) (M 60 0).toNat) 1
  have h3 := cnt_rg (fun k => rsB M (fd ((z + k) % 10000) n d) (M 60 0).toNat) 100
  split
  · split
    · omega
    · split <;> omega
  · omega) (by decide) (by decide)
theorem p_wedding (i j w : Int) (hi : rgI i) (hj : rgI j) (hw : rgI w) : PI 61 148 [vI i, vI j, vI w] := PI_q (fun M => f_wedding M i j w) (fun M h => x_wedding i j w M M h.W h.C hi hj hw) (fun M h => (m_wedding i j w M h.W hi hj hw).e) (of_mv (fun T => f_wedding_mv T i j w)) (fun M h => by
  unfold f_wedding rgI
  split
  · rename_i hc
    have ho : (0 ≤ i ∧ i < M 58 0) ∧ (0 ≤ j ∧ j < M 58 0) ∧ i ≠ j := by
      have := hc.1
      unfold okWed at this
      exact of_decide_eq_true this
    have hH := h.W.H
    have h1 := daysN_rg (wedN_WF h.W (i := i.toNat) (j := j.toNat) (by omega))
    have h2 := daysN_rg (wedN_WF h.W (i := j.toNat) (j := i.toNat) (by omega))
    split
    · omega
    · split <;> omega
  · omega) (by decide) (by decide)
theorem p_count (w : Int) (hw : rgI w) : PI 71 160 [vI w] := PI_q (fun M => f_count M w) (fun M h => (x_count w M M h.W h.C h.S h.2.2.1.2.2.1 h.2.1.1.2.2 hw).k) (fun M h => (m_count w M h.W hw).e) (of_mv (fun T => f_count_mv T w)) (fun M h => by
  unfold f_count rgI
  have hH := h.W.H
  have hWn := h.W.W
  have hP := h.W.P
  have h1 := cnt_rg (newB M) (hN M)
  have h2 := h.2.2.1.1
  unfold WFx at h2
  have h3 := h.s.1
  have h4 := h.2.1.1
  repeat' split
  all_goals omega) (by decide) (by decide)
theorem stm_e {M M' : MM} (h : ∀ k j, ¬ stm k j → M' k j = M k j) : eqT M M' := fun k j hk => h k j (fun z => hk (by unfold stm at z; unfold tmp; omega))
theorem okC_rg (M : MM) (h : INV M) (b : Bool) : 0 ≤ cnt (okC M b) (codes M) ∧ cnt (okC M b) (codes M) ≤ 1728 := by
  have h1 := cnt_rg (okC M b) (codes M)
  have h2 : 1 ≤ codes M ∧ codes M ≤ 1728 := pw_sm h.W (n := hN M) (Nat.le_refl _)
  omega
theorem bOr_rg (x y : Int) : rgI (bOr x y) := by
  unfold bOr rgI
  have h1 := (iN x ||| iN y).toInt_lt
  have h2 := (iN x ||| iN y).le_toInt
  omega
theorem smC_rg (T : MM) (b : Bool) (i : Nat) : ∀ c : Nat, rgI (smC T b i c)
  | 0 => by unfold smC rgI; omega
  | c + 1 => by
    rw [smC]
    split
    · exact bOr_rg _ _
    · exact smC_rg T b i c
theorem p_settled (i : Int) (hi : rgI i) : PI 59 142 [vI i] := PI_q (fun M => f_settled M i) (fun M h => x_settled i M M h.W h.C hi) (fun M h => (m_settled i M h.W h.s hi).mono (Nat.le_refl _) (fun r M' q => ⟨q.1, stm_e q.2⟩)) (of_mv (fun T => f_settled_mv T i)) (fun M h => by
  unfold f_settled
  have h1 := okC_rg M h false
  split
  · rename_i hc
    split
    · unfold rgI; omega
    · split
      · unfold rgI; omega
      · split
        · have := wtC_rg h.W false (bsC M false (codes M)); unfold rgI; omega
        · have hb := isNewB_iff.mp (show isNewB M i = true by rcases hc with hc | hc | hc <;> first | exact hc | (exfalso; omega))
          have hH := h.W.H
          have hl := h.W.ln (i := i.toNat) (by omega)
          have := dig_lt h.W (i := i.toNat) (by omega) (bsC M false (codes M))
          unfold rgI
          omega
  · unfold rgI; omega) (by decide) (by decide)
theorem p_fits (i : Int) (a : Bool) (hi : rgI i) : PI 64 151 [vI i, vI (b2i a)] := PI_q (fun M => f_fits M i a) (fun M h => x_fits i a M M h.W h.C h.s h.S hi) (fun M h => (m_fits i a M h.W h.s hi).mono (Nat.le_refl _) (fun r M' q => ⟨q.1, stm_e q.2⟩)) (of_mv (fun T => f_fits_mv T i a)) (fun M h => by
  unfold f_fits
  have h1 := okC_rg M h true
  split
  · rename_i hc
    split
    · unfold rgI; omega
    · split
      · unfold rgI; omega
      · split
        · exact smC_rg M true i.toNat (codes M)
        · have hb := isNewB_iff.mp (show isNewB M i = true by rcases hc with hc | hc <;> first | exact hc | (exfalso; omega))
          have hH := h.W.H
          have hl := h.W.ln (i := i.toNat) (by omega)
          have := dig_lt h.W (i := i.toNat) (by omega) (bsC M true (codes M))
          unfold rgI
          omega
  · unfold rgI; omega) (by decide) (by decide)

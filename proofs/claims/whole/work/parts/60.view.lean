/-! what the model's functions see: cells from 55 on -/
def mv (T : MM) : MM := fun k j => if 55 ≤ k then T k j else 0
theorem mv_eq {T T' : MM} (h : ∀ k j, 55 ≤ k → T' k j = T k j) : mv T' = mv T := by
  funext k j
  unfold mv
  by_cases hk : 55 ≤ k
  · rw [if_pos hk, if_pos hk]; exact h k j hk
  · rw [if_neg hk, if_neg hk]
theorem PN_mv (T : MM) : PN (mv T) = PN T := rfl
theorem hN_mv (T : MM) : hN (mv T) = hN T := rfl
theorem f_up_mv (T : MM) (d : Int) : f_up (mv T) d = f_up T d := rfl
theorem f_hands_mv (T : MM) (s d : Int) : f_hands (mv T) s d = f_hands T s d := rfl
theorem f_judge_mv (T : MM) (d w : Int) : f_judge (mv T) d w = f_judge T d w := rfl
theorem f_together_mv (T : MM) (x d : Int) : f_together (mv T) x d = f_together T x d := rfl
theorem f_often_mv (T : MM) (x d n : Int) : f_often (mv T) x d n = f_often T x d n := rfl
theorem f_street_mv (T : MM) (t d : Int) : f_street (mv T) t d = f_street T t d := rfl
theorem f_fire_mv (T : MM) (z n d w : Int) : f_fire (mv T) z n d w = f_fire T z n d w := rfl
theorem f_house_mv (T : MM) (i w : Int) : f_house (mv T) i w = f_house T i w := rfl
theorem f_change_mv (T : MM) (i r : Int) : f_change (mv T) i r = f_change T i r := rfl
theorem f_wed_mv (T : MM) (i j : Int) : f_wed (mv T) i j = f_wed T i j := rfl
theorem f_seen_mv (T : MM) (d w : Int) : f_seen (mv T) d w = f_seen T d w := rfl
theorem f_count_mv (T : MM) (w : Int) : f_count (mv T) w = f_count T w := rfl
theorem f_write_mv (T : MM) (n : Int) : f_write (mv T) n = f_write T n := rfl
theorem f_keep_mv (T : MM) : f_keep (mv T) = f_keep T := rfl
theorem f_back_mv (T : MM) : f_back (mv T) = f_back T := rfl
theorem f_wedding_mv (T : MM) (i j w : Int) : f_wedding (mv T) i j w = f_wedding T i j w := rfl
theorem stOn_mv (T : MM) (w : Nat) : ∀ n : Nat, stOn (mv T) w n = stOn T w n
  | 0 => rfl
  | n + 1 => by rw [stOn, stOn, stOn_mv T w n]; rfl
theorem stN_mv (T : MM) (w : Nat) : ∀ n : Nat, stN (mv T) w n = stN T w n
  | 0 => rfl
  | n + 1 => by rw [stN, stN, stN_mv T w n, stOn_mv]; rfl
theorem f_still_mv (T : MM) (w : Int) : f_still (mv T) w = f_still T w := by
  unfold f_still
  rw [stN_mv]
  rfl
theorem lgW_mv (T : MM) (x : Int) : ∀ n : Nat, lgW (mv T) x n = lgW T x n
  | 0 => rfl
  | n + 1 => by rw [lgW, lgW, lgW_mv T x n]; rfl
theorem lgM_mv (T : MM) (x : Int) : ∀ n : Nat, lgM (mv T) x n = lgM T x n
  | 0 => rfl
  | n + 1 => by rw [lgM, lgM, lgM_mv T x n, lgW_mv]
theorem lgE_mv (T : MM) (x : Int) : ∀ n : Nat, lgE (mv T) x n = lgE T x n
  | 0 => rfl
  | n + 1 => by rw [lgE, lgE, lgE_mv T x n]; rfl
theorem f_longest_mv (T : MM) (x : Int) : f_longest (mv T) x = f_longest T x := by
  unfold f_longest
  rw [lgE_mv, lgM_mv]
  rfl
theorem msV_mv (T : MM) : ∀ n : Nat, msV (mv T) n = msV T n
  | 0 => rfl
  | n + 1 => by rw [msV, msV, msV_mv T n]; rfl
theorem msD_mv (T : MM) (x : Int) : ∀ n : Nat, msD (mv T) x n = msD T x n
  | 0 => rfl
  | n + 1 => by rw [msD, msD, msD_mv T x n, msV_mv]; rfl
theorem f_same_mv (T : MM) (w : Int) : f_same (mv T) w = f_same T w := by
  unfold f_same
  rw [msV_mv, msD_mv]
  rfl
theorem hsum_mv (T : MM) (s : Nat) (d : Int) : ∀ n : Nat, hsum (mv T) s d n = hsum T s d n
  | 0 => rfl
  | n + 1 => by rw [hsum, hsum, hsum_mv T s d n]; rfl
theorem hvO_mv (T : MM) (s : Nat) (d : Int) : ∀ (n : Nat) (l : Int) (j : Nat), hvO (mv T) s d n l j = hvO T s d n l j
  | 0, _, _ => rfl
  | n + 1, l, j => by rw [hvO, hvO, hvO_mv T s d n]; rfl
theorem f_harvest_mv (T : MM) (s d h : Int) : f_harvest (mv T) s d h = f_harvest T s d h := by
  unfold f_harvest
  rw [PN_mv, hsum_mv, hvO_mv]
theorem f_years_pt (T : MM) (w k : Int) : f_years (pt T) w k = f_years T w k := by
  unfold f_years chg
  simp only [evS_pt, oneC_pt, twoC_pt, twoO_pt, hN_pt]
  rfl
theorem wp_mv (T : MM) : ∀ n i : Nat, wp (mv T) i n = wp T i n
  | 0, _ => rfl
  | n + 1, i => by rw [wp, wp, wp_mv T n]; rfl
theorem pw_mv (T : MM) : ∀ n : Nat, pw (mv T) n = pw T n
  | 0 => rfl
  | n + 1 => by rw [pw, pw, pw_mv T n]; rfl
theorem codes_mv (T : MM) : codes (mv T) = codes T := by unfold codes; rw [pw_mv, hN_mv]
theorem dig_mv (T : MM) (c i : Nat) : dig (mv T) c i = dig T c i := by unfold dig wgt; rw [wp_mv, hN_mv]; rfl
theorem newB_mv (T : MM) (i : Nat) : newB (mv T) i = newB T i := rfl
theorem cd_mv (T : MM) (c : Nat) : cd (mv T) c = mv (cd T c) := by
  unfold cd
  rw [show (fun i => (dig (mv T) c i : Int)) = (fun i => (dig T c i : Int)) from funext (fun i => by rw [dig_mv])]
  funext k j
  unfold rT
  rw [hN_mv, newB_mv]
  unfold mv
  by_cases h : k = 61 ∧ j % 4 = 1 ∧ j / 4 < hN T ∧ newB T (j / 4) = true
  · rw [if_pos h, if_pos (by omega)]; exact (if_pos h).symm
  · rw [if_neg h]
    by_cases hk : 55 ≤ k
    · rw [if_pos hk, if_pos hk]; exact (if_neg h).symm
    · rw [if_neg hk, if_neg hk]
theorem alS_mv (T : MM) : alS (mv T) = alS T := rfl
theorem fsB_mv (T : MM) (n : Nat) : fsB (mv T) n = fsB T n := rfl
theorem okC_mv (T : MM) (b : Bool) (c : Nat) : okC (mv T) b c = okC T b c := by
  unfold okC
  rw [cd_mv, alS_mv, fsB_mv]
  rfl
theorem okC_mv' (T : MM) (b : Bool) : okC (mv T) b = okC T b := funext (okC_mv T b)
theorem wtC_mv (T : MM) (b : Bool) (c : Nat) : wtC (mv T) b c = wtC T b c := by
  unfold wtC
  rw [cd_mv, msV_mv, PN_mv]
theorem bsC_mv (T : MM) (b : Bool) : ∀ c : Nat, bsC (mv T) b c = bsC T b c
  | 0 => rfl
  | c + 1 => by rw [bsC, bsC, bsC_mv T b c, okC_mv', wtC_mv, wtC_mv]
theorem smC_mv (T : MM) (b : Bool) (i : Nat) : ∀ c : Nat, smC (mv T) b i c = smC T b i c
  | 0 => rfl
  | c + 1 => by
    rw [smC, smC, smC_mv T b i c, okC_mv, cd_mv]
    rfl
theorem f_settled_mv (T : MM) (i : Int) : f_settled (mv T) i = f_settled T i := by
  unfold f_settled
  rw [codes_mv, okC_mv', bsC_mv, wtC_mv, dig_mv]
  rfl
theorem f_fits_mv (T : MM) (i : Int) (a : Bool) : f_fits (mv T) i a = f_fits T i a := by
  unfold f_fits
  rw [codes_mv, okC_mv', bsC_mv, smC_mv, dig_mv]
  rfl
theorem okSt_mv (T : MM) : okSt (mv T) = okSt T := by
  unfold okSt
  rw [codes_mv, okC_mv']
  rfl
theorem f_settle_mv (T : MM) : f_settle (mv T) = f_settle T := by
  unfold f_settle
  rw [okSt_mv]
  rfl
theorem g_settle_mv (T : MM) {k : Nat} (hk : 55 ≤ k) (j : Nat) : g_settle (mv T) k j = g_settle T k j := by
  unfold g_settle
  rw [okSt_mv]
  cases okSt T with
  | true =>
    rw [if_pos rfl, if_pos rfl, codes_mv, bsC_mv, cd_mv]
    unfold mv
    rw [if_pos hk]
  | false =>
    rw [if_neg (by decide), if_neg (by decide)]
    unfold mv
    rw [if_pos hk]

/-! ways to rest, by a code -/
def LN (T : MM) (i : Nat) : Nat := (len T i).toNat
def fac (T : MM) (i : Nat) : Nat := if newB T i then LN T i else 1
def wp (T : MM) : Nat → Nat → Nat
  | _, 0 => 1
  | i, n + 1 => fac T i * wp T (i + 1) n
def wgt (T : MM) (i : Nat) : Nat := wp T (i + 1) (hN T - (i + 1))
def pw (T : MM) : Nat → Nat
  | 0 => 1
  | n + 1 => pw T n * fac T n
def codes (T : MM) : Nat := pw T (hN T)
def dig (T : MM) (c i : Nat) : Nat := (c / wgt T i) % LN T i
/-- the rests of NEW houses are others -/
def rT (T : MM) (f : Nat → Int) : MM := fun k j => if k = 61 ∧ j % 4 = 1 ∧ j / 4 < hN T ∧ newB T (j / 4) = true then f (j / 4) else T k j
def cd (T : MM) (c : Nat) : MM := rT T (fun i => dig T c i)
theorem pw_wp (T : MM) : ∀ m i : Nat, pw T i * wp T i m = pw T (i + m)
  | 0, i => by rw [wp, Nat.mul_one]; rfl
  | m + 1, i => by
    rw [wp, ← Nat.mul_assoc, show pw T i * fac T i = pw T (i + 1) from rfl, pw_wp T m (i + 1)]
    congr 1
    omega
theorem LN_rg {T : MM} (h : WFt T) {i : Nat} (hi : i < hN T) : (LN T i : Int) = len T i ∧ 2 ≤ LN T i ∧ LN T i ≤ 12 := by
  have := h.ln hi
  unfold LN
  omega
theorem fac_pos {T : MM} (h : WFt T) {i : Nat} (hi : i < hN T) : 1 ≤ fac T i ∧ fac T i ≤ 12 := by
  have := LN_rg h hi
  unfold fac
  split <;> omega
theorem pw_rg {T : MM} (h : WFt T) : ∀ n : Nat, n ≤ hN T → 1 ≤ pw T n ∧ pw T n ≤ 12 ^ (cnt (newB T) n).toNat
  | 0, _ => by simp [pw, cnt]
  | n + 1, hn => by
    have h1 := pw_rg h n (by omega)
    have h2 := fac_pos h (i := n) (by omega)
    have h3 := cnt_rg (newB T) n
    rw [pw, cnt]
    refine ⟨Nat.mul_pos (by omega) (by omega), ?_⟩
    cases hb : newB T n with
    | false =>
      have : fac T n = 1 := by unfold fac; rw [hb]; rfl
      rw [this, Nat.mul_one]
      simpa using h1.2
    | true =>
      rw [if_pos rfl, show (cnt (newB T) n + 1).toNat = (cnt (newB T) n).toNat + 1 by omega, Nat.pow_succ]
      exact Nat.mul_le_mul h1.2 h2.2
theorem new3 {T : MM} (h : WFt T) : cnt (newB T) (hN T) ≤ 3 ∧ cnt (newB T) 10 = cnt (newB T) (hN T) := by
  have hH := h.H
  have h1 : cnt (newB T) 10 = cnt (newB T) (hN T) := by
    refine cnt_cut (by omega) (fun i h2 h3 => ?_)
    unfold newB
    have := (h.2.2.2.2.2.2.2.1 i h3).2 (by omega)
    exact decide_eq_false (by omega)
  have h2 := h.2.2.2.2.2.2.2.2
  exact ⟨by omega, h1⟩
theorem cnt_mono {p : Nat → Bool} : ∀ {n m : Nat}, n ≤ m → cnt p n ≤ cnt p m
  | n, 0, h => by rw [show n = 0 by omega]; exact Int.le_refl _
  | n, m + 1, h => by
    by_cases hn : n = m + 1
    · rw [hn]; exact Int.le_refl _
    · have := cnt_mono (p := p) (n := n) (m := m) (by omega)
      rw [cnt]
      split <;> omega
theorem pw_sm {T : MM} (h : WFt T) {n : Nat} (hn : n ≤ hN T) : 1 ≤ pw T n ∧ pw T n ≤ 1728 := by
  have h1 := pw_rg h n hn
  have h2 := (new3 h).1
  have h3 := cnt_mono (p := newB T) hn
  refine ⟨h1.1, Nat.le_trans h1.2 ?_⟩
  have : (cnt (newB T) n).toNat ≤ 3 := by omega
  exact Nat.le_trans (Nat.pow_le_pow_right (by decide) this) (by decide)
theorem wgt_pos {T : MM} (h : WFt T) {i : Nat} (hi : i < hN T) : 1 ≤ wgt T i := by
  have h1 := pw_wp T (hN T - (i + 1)) (i + 1)
  have h2 := (pw_sm h (n := i + 1 + (hN T - (i + 1))) (by omega)).1
  rw [← h1] at h2
  unfold wgt
  exact Nat.pos_of_ne_zero (fun hz => by rw [hz, Nat.mul_zero] at h2; omega)
theorem dig_lt {T : MM} (h : WFt T) {i : Nat} (hi : i < hN T) (c : Nat) : (dig T c i : Int) < len T i := by
  have := LN_rg h hi
  have h1 : dig T c i < LN T i := Nat.mod_lt _ (by omega)
  omega
theorem rT_SW (T : MM) (f : Nat → Int) : SW T (rT T f) := ⟨fun k j hk => by unfold rT; rw [if_neg (fun z => hk z.1)], fun i => ⟨by unfold rT; rw [if_neg (by omega)], by unfold rT; rw [if_neg (by omega)]⟩⟩
theorem rT_at (T : MM) (f : Nat → Int) {i : Nat} (hi : i < hN T) : rT T f 61 (4 * i) = T 61 (4 * i) ∧ rT T f 61 (4 * i + 1) = if newB T i then f i else T 61 (4 * i + 1) := by
  unfold rT
  rw [if_neg (by omega)]
  refine ⟨rfl, ?_⟩
  rw [show (4 * i + 1) / 4 = i by omega]
  by_cases hn : newB T i = true
  · rw [if_pos ⟨rfl, by omega, hi, hn⟩, if_pos hn]
  · rw [if_neg (fun z => hn z.2.2.2), if_neg hn]
theorem rT_len (T : MM) (f : Nat → Int) {i : Nat} (hi : i < hN T) : len (rT T f) i = len T i := by
  unfold len
  rw [(rT_at T f hi).1, (rT_SW T f).1 57 _ (by decide)]
theorem rT_WF {T : MM} (h : WFt T) {f : Nat → Int} (hf : ∀ i, i < hN T → newB T i = true → 0 ≤ f i ∧ f i < len T i) : WFt (rT T f) := by
  refine h.chg (rT_SW T f) (fun i hi => ?_)
  rw [rT_len T f hi, (rT_at T f hi).1, (rT_at T f hi).2]
  have := h.hs hi
  refine ⟨this.1, ?_⟩
  split
  · rename_i hn
    exact hf i hi hn
  · exact this.2.1
theorem rT_eq {T : MM} {f g : Nat → Int} (h : ∀ i, i < hN T → newB T i = true → f i = g i) : rT T f = rT T g := by
  funext k j
  unfold rT
  by_cases hc : k = 61 ∧ j % 4 = 1 ∧ j / 4 < hN T ∧ newB T (j / 4) = true
  · rw [if_pos hc, if_pos hc, h _ hc.2.2.1 hc.2.2.2]
  · rw [if_neg hc, if_neg hc]
theorem rT_self (T : MM) : rT T (fun i => T 61 (4 * i + 1)) = T := by
  funext k j
  unfold rT
  by_cases hc : k = 61 ∧ j % 4 = 1 ∧ j / 4 < hN T ∧ newB T (j / 4) = true
  · rw [if_pos hc]
    show T 61 (4 * (j / 4) + 1) = T k j
    rw [show 4 * (j / 4) + 1 = j by omega, hc.1]
  · rw [if_neg hc]
theorem rT_set {T : MM} {f : Nat → Int} {i : Nat} (hi : i < hN T) (hn : newB T i = true) (v : Int) (j : Nat) : mset (rT T f) 61 (4 * i + 1) v 61 j = rT T (fun x => if x = i then v else f x) 61 j := by
  unfold rT mset
  by_cases h1 : j = 4 * i + 1
  · subst h1
    rw [if_pos ⟨rfl, rfl⟩, if_pos ⟨rfl, by omega, by omega, by rw [show (4 * i + 1) / 4 = i by omega]; exact hn⟩]
    show v = if (4 * i + 1) / 4 = i then v else f ((4 * i + 1) / 4)
    rw [if_pos (by omega)]
  · rw [if_neg (fun z => h1 z.2)]
    by_cases hc : (61 : Nat) = 61 ∧ j % 4 = 1 ∧ j / 4 < hN T ∧ newB T (j / 4) = true
    · rw [if_pos hc]
      show (if (61 : Nat) = 61 ∧ j % 4 = 1 ∧ j / 4 < hN T ∧ newB T (j / 4) = true then f (j / 4) else T 61 j) = if j / 4 = i then v else f (j / 4)
      rw [if_pos hc, if_neg (by omega)]
    · rw [if_neg hc]
      show (if (61 : Nat) = 61 ∧ j % 4 = 1 ∧ j / 4 < hN T ∧ newB T (j / 4) = true then f (j / 4) else T 61 j) = T 61 j
      rw [if_neg hc]
theorem cd_SW (T : MM) (c : Nat) : SW T (cd T c) := rT_SW T _
theorem cd_WF {T : MM} (h : WFt T) (c : Nat) : WFt (cd T c) := rT_WF h (fun i hi _ => ⟨by omega, dig_lt h hi c⟩)
theorem cd_at {T : MM} (c : Nat) {i : Nat} (hi : i < hN T) : cd T c 61 (4 * i) = T 61 (4 * i) ∧ cd T c 61 (4 * i + 1) = if newB T i then (dig T c i : Int) else T 61 (4 * i + 1) := rT_at T _ hi
theorem wgt_step {T : MM} {i : Nat} (hi : i + 1 < hN T) : wgt T i = fac T (i + 1) * wgt T (i + 1) := by
  unfold wgt
  rw [show hN T - (i + 1) = (hN T - (i + 1 + 1)) + 1 by omega, wp]
theorem wgt_last {T : MM} {i : Nat} (hi : i + 1 = hN T) : wgt T i = 1 := by
  unfold wgt
  rw [show hN T - (i + 1) = 0 by omega, wp]
/-! the ways that are sought -/
def alS (T : MM) : Bool := (fstF (fun d => anyS T d) 0 (PN T)).isNone
def bdS (T : MM) (k : Nat) : Bool := shrt T (T 66 k).toNat (T 65 k) == decide (T 67 k = 1)
def fsB (T : MM) (n : Nat) : Bool := (fstF (bdS T) 0 n).isNone
def okC (T : MM) (b : Bool) (c : Nat) : Bool := if b then fsB (cd T c) (T 55 11).toNat else alS (cd T c)
def wtC (T : MM) (b : Bool) (c : Nat) : Int := if b then 0 else msV (cd T c) (PN T)
def bsC (T : MM) (b : Bool) : Nat → Nat
  | 0 => 0
  | c + 1 => if okC T b c && (decide (cnt (okC T b) c = 0) || decide (wtC T b c < wtC T b (bsC T b c))) then c else bsC T b c
def smC (T : MM) (b : Bool) (i : Nat) : Nat → Int
  | 0 => 0
  | c + 1 => if okC T b c then bOr (smC T b i c) (bShl 1 (cd T c 61 (4 * i + 1))) else smC T b i c
theorem wtC_rg {T : MM} (h : WFt T) (b : Bool) (c : Nat) : 0 ≤ wtC T b c ∧ wtC T b c ≤ 10 := by
  unfold wtC
  split
  · omega
  · have hP := h.P
    have := msV_rg (cd_WF h c) (PN T)
    have h2 := this.2.2 (by omega)
    omega
def f_settled (T : MM) (i : Int) : Int := if i = -1 ∨ i = -2 ∨ isNewB T i = true then (if i = -1 then cnt (okC T false) (codes T) else if cnt (okC T false) (codes T) = 0 then -4 else if i = -2 then wtC T false (bsC T false (codes T)) else dig T (bsC T false (codes T)) i.toNat) else -1
def f_fits (T : MM) (i : Int) (a : Bool) : Int := if i = -1 ∨ isNewB T i = true then (if i = -1 then cnt (okC T true) (codes T) else if cnt (okC T true) (codes T) = 0 then -4 else if a then smC T true i.toNat (codes T) else dig T (bsC T true (codes T)) i.toNat) else -1
def okSt (T : MM) : Bool := decide (cnt (newB T) (hN T) ≠ 0) && decide (cnt (okC T false) (codes T) ≠ 0)
def f_settle (T : MM) : Int := if okSt T then cnt (newB T) (hN T) else -2
def g_settle (T : MM) : MM := if okSt T then (fun k j => if k = 64 ∧ j < 10 then 0 else cd T (bsC T false (codes T)) k j) else T

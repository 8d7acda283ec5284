/-! contracts in the small machine, over the heap behind both constructors -/
def oQ (d y : Nat) (a : List AV) (M : MM) (Q : Option AV → MM → Prop) : Prop := Run d y a sh0 M 0 0 (fun r sh M' => sh = sh0 ∧ Q r M')
def oI (d y : Nat) (a : List AV) (M : MM) (v : Int) : Prop := oQ d y a M (fun r M' => r = some (Sum.inl v) ∧ M' = M)
def oL (d y : Nat) (a : List AV) (M : MM) (v : Int) : Prop := oQ d y a M (fun r M' => r = some (Sum.inr (Sum.inl v)) ∧ M' = M)
def oV (d y : Nat) (a : List AV) (M M' : MM) : Prop := oQ d y a M (fun r M'' => r = none ∧ M'' = M')
section CALLS
variable {d d' y n f pc : Nat} {args st rest : List AV} {ls : AL} {M M' : MM} {v : Int} {S : Nat → KK} {Rt : RR} {bt : Nat → BL} {sp : Nat → Bool} {Q : Option AV → MM → Prop}
theorem kQ (hc : oQ d' y args M Q) (hd : d' ≤ d) (hargs : (st.take n).reverse = args) (hrest : st.drop n = rest) (hn : n ≤ st.length) (hcat : cats rest ≤ 8) (hsp : sp pc = true) (hk : ∀ r M', Q r M' → S pc ls (r.toList ++ rest) (sh0, 0, 0) M') :
    wpc (Run d) 0 0 y n (wpl (Run d) none 0 0 (fun t => cond (sp t) (S t) (wpx (Run d) none 0 0 S Rt bt sp f t)) Rt [] pc) ls st (sh0, 0, 0) M := by
  subst hargs
  subst hrest
  refine ⟨hn, hcat, 0, 0, Nat.le_refl _, Nat.le_refl _, Run.mono d' d hd hc (fun r sh M' h => ?_)⟩
  obtain ⟨rfl, h⟩ := h
  refine ⟨Or.inl rfl, ?_⟩
  show cond (sp pc) (S pc) _ ls _ _ _
  rw [hsp]
  exact hk r M' h
theorem kI (hc : oI d' y args M v) (hd : d' ≤ d) (hargs : (st.take n).reverse = args) (hrest : st.drop n = rest) (hn : n ≤ st.length) (hcat : cats rest ≤ 8) (hsp : sp pc = true) (hk : S pc ls (Sum.inl v :: rest) (sh0, 0, 0) M) :
    wpc (Run d) 0 0 y n (wpl (Run d) none 0 0 (fun t => cond (sp t) (S t) (wpx (Run d) none 0 0 S Rt bt sp f t)) Rt [] pc) ls st (sh0, 0, 0) M :=
  kQ hc hd hargs hrest hn hcat hsp (fun r M' h => by obtain ⟨rfl, rfl⟩ := h; exact hk)
theorem kL (hc : oL d' y args M v) (hd : d' ≤ d) (hargs : (st.take n).reverse = args) (hrest : st.drop n = rest) (hn : n ≤ st.length) (hcat : cats rest ≤ 8) (hsp : sp pc = true) (hk : S pc ls (Sum.inr (Sum.inl v) :: rest) (sh0, 0, 0) M) :
    wpc (Run d) 0 0 y n (wpl (Run d) none 0 0 (fun t => cond (sp t) (S t) (wpx (Run d) none 0 0 S Rt bt sp f t)) Rt [] pc) ls st (sh0, 0, 0) M :=
  kQ hc hd hargs hrest hn hcat hsp (fun r M' h => by obtain ⟨rfl, rfl⟩ := h; exact hk)
theorem kV (hc : oV d' y args M M') (hd : d' ≤ d) (hargs : (st.take n).reverse = args) (hrest : st.drop n = rest) (hn : n ≤ st.length) (hcat : cats rest ≤ 8) (hsp : sp pc = true) (hk : S pc ls rest (sh0, 0, 0) M') :
    wpc (Run d) 0 0 y n (wpl (Run d) none 0 0 (fun t => cond (sp t) (S t) (wpx (Run d) none 0 0 S Rt bt sp f t)) Rt [] pc) ls st (sh0, 0, 0) M :=
  kQ hc hd hargs hrest hn hcat hsp (fun r M' h => by obtain ⟨rfl, rfl⟩ := h; exact hk)
end CALLS
theorem rcv_ok {st : List AV} {n y r ci : Nat} (h1 : st[n]? = some (vR r)) (h2 : (mz_T[y]?).map (fun e => e.2.2.2.2.2.1) = some ci) (h3 : cls sh0 r = some ci) : rcv sh0 st n y := by
  unfold rcv
  rw [h1]
  cases hq : mz_T[y]? with
  | none => rw [hq] at h2; cases h2
  | some e => rw [hq] at h2; cases h2; exact h3
set_option maxRecDepth 100000 in
theorem own1 : (mz_T[1]?).map (fun e => e.2.2.2.2.2.1) = some 0 := rfl
set_option maxRecDepth 100000 in
theorem own2 : (mz_T[2]?).map (fun e => e.2.2.2.2.2.1) = some 0 := rfl
set_option maxRecDepth 100000 in
theorem own3 : (mz_T[3]?).map (fun e => e.2.2.2.2.2.1) = some 0 := rfl
set_option maxRecDepth 100000 in
theorem own4 : (mz_T[4]?).map (fun e => e.2.2.2.2.2.1) = some 0 := rfl
set_option maxRecDepth 100000 in
theorem own5 : (mz_T[5]?).map (fun e => e.2.2.2.2.2.1) = some 0 := rfl
set_option maxRecDepth 100000 in
theorem own6 : (mz_T[6]?).map (fun e => e.2.2.2.2.2.1) = some 0 := rfl
set_option maxRecDepth 100000 in
theorem own8 : (mz_T[8]?).map (fun e => e.2.2.2.2.2.1) = some 1 := rfl
set_option maxRecDepth 100000 in
theorem own9 : (mz_T[9]?).map (fun e => e.2.2.2.2.2.1) = some 1 := rfl
set_option maxRecDepth 100000 in
theorem own12 : (mz_T[12]?).map (fun e => e.2.2.2.2.2.1) = some 1 := rfl
set_option maxRecDepth 100000 in
theorem own13 : (mz_T[13]?).map (fun e => e.2.2.2.2.2.1) = some 1 := rfl
set_option maxRecDepth 100000 in
theorem own15 : (mz_T[15]?).map (fun e => e.2.2.2.2.2.1) = some 1 := rfl
set_option maxRecDepth 100000 in
theorem own16 : (mz_T[16]?).map (fun e => e.2.2.2.2.2.1) = some 1 := rfl
set_option maxRecDepth 100000 in
theorem own17 : (mz_T[17]?).map (fun e => e.2.2.2.2.2.1) = some 1 := rfl
set_option maxRecDepth 100000 in
theorem own18 : (mz_T[18]?).map (fun e => e.2.2.2.2.2.1) = some 1 := rfl
set_option maxRecDepth 100000 in
theorem own19 : (mz_T[19]?).map (fun e => e.2.2.2.2.2.1) = some 1 := rfl
set_option maxRecDepth 100000 in
theorem own21 : (mz_T[21]?).map (fun e => e.2.2.2.2.2.1) = some 2 := rfl
set_option maxRecDepth 100000 in
theorem own22 : (mz_T[22]?).map (fun e => e.2.2.2.2.2.1) = some 2 := rfl
set_option maxRecDepth 100000 in
theorem own23 : (mz_T[23]?).map (fun e => e.2.2.2.2.2.1) = some 2 := rfl
set_option maxRecDepth 100000 in
theorem own24 : (mz_T[24]?).map (fun e => e.2.2.2.2.2.1) = some 2 := rfl
set_option maxRecDepth 100000 in
theorem own25 : (mz_T[25]?).map (fun e => e.2.2.2.2.2.1) = some 2 := rfl
set_option maxRecDepth 100000 in
theorem own26 : (mz_T[26]?).map (fun e => e.2.2.2.2.2.1) = some 2 := rfl
set_option maxRecDepth 100000 in
theorem own28 : (mz_T[28]?).map (fun e => e.2.2.2.2.2.1) = some 3 := rfl
set_option maxRecDepth 100000 in
theorem own29 : (mz_T[29]?).map (fun e => e.2.2.2.2.2.1) = some 3 := rfl
set_option maxRecDepth 100000 in
theorem own30 : (mz_T[30]?).map (fun e => e.2.2.2.2.2.1) = some 3 := rfl
set_option maxRecDepth 100000 in
theorem own31 : (mz_T[31]?).map (fun e => e.2.2.2.2.2.1) = some 3 := rfl
set_option maxRecDepth 100000 in
theorem own32 : (mz_T[32]?).map (fun e => e.2.2.2.2.2.1) = some 3 := rfl
set_option maxRecDepth 100000 in
theorem own33 : (mz_T[33]?).map (fun e => e.2.2.2.2.2.1) = some 3 := rfl
set_option maxRecDepth 100000 in
theorem own35 : (mz_T[35]?).map (fun e => e.2.2.2.2.2.1) = some 4 := rfl
set_option maxRecDepth 100000 in
theorem own36 : (mz_T[36]?).map (fun e => e.2.2.2.2.2.1) = some 4 := rfl
set_option maxRecDepth 100000 in
theorem own37 : (mz_T[37]?).map (fun e => e.2.2.2.2.2.1) = some 4 := rfl
set_option maxRecDepth 100000 in
theorem own38 : (mz_T[38]?).map (fun e => e.2.2.2.2.2.1) = some 4 := rfl
set_option maxRecDepth 100000 in
theorem own39 : (mz_T[39]?).map (fun e => e.2.2.2.2.2.1) = some 4 := rfl
set_option maxRecDepth 100000 in
theorem own40 : (mz_T[40]?).map (fun e => e.2.2.2.2.2.1) = some 4 := rfl
set_option maxRecDepth 100000 in
theorem own41 : (mz_T[41]?).map (fun e => e.2.2.2.2.2.1) = some 4 := rfl
set_option maxRecDepth 100000 in
theorem own42 : (mz_T[42]?).map (fun e => e.2.2.2.2.2.1) = some 4 := rfl
set_option maxRecDepth 100000 in
theorem own44 : (mz_T[44]?).map (fun e => e.2.2.2.2.2.1) = some 5 := rfl
set_option maxRecDepth 100000 in
theorem own45 : (mz_T[45]?).map (fun e => e.2.2.2.2.2.1) = some 5 := rfl
set_option maxRecDepth 100000 in
theorem own46 : (mz_T[46]?).map (fun e => e.2.2.2.2.2.1) = some 5 := rfl
set_option maxRecDepth 100000 in
theorem own47 : (mz_T[47]?).map (fun e => e.2.2.2.2.2.1) = some 5 := rfl
set_option maxRecDepth 100000 in
theorem own48 : (mz_T[48]?).map (fun e => e.2.2.2.2.2.1) = some 5 := rfl
set_option maxRecDepth 100000 in
theorem own49 : (mz_T[49]?).map (fun e => e.2.2.2.2.2.1) = some 5 := rfl
set_option maxRecDepth 100000 in
theorem own50 : (mz_T[50]?).map (fun e => e.2.2.2.2.2.1) = some 5 := rfl
set_option maxRecDepth 100000 in
theorem own51 : (mz_T[51]?).map (fun e => e.2.2.2.2.2.1) = some 5 := rfl
set_option maxRecDepth 100000 in
theorem own52 : (mz_T[52]?).map (fun e => e.2.2.2.2.2.1) = some 5 := rfl
set_option maxRecDepth 100000 in
theorem own53 : (mz_T[53]?).map (fun e => e.2.2.2.2.2.1) = some 5 := rfl
set_option maxRecDepth 100000 in
theorem own54 : (mz_T[54]?).map (fun e => e.2.2.2.2.2.1) = some 5 := rfl
set_option maxRecDepth 100000 in
theorem own55 : (mz_T[55]?).map (fun e => e.2.2.2.2.2.1) = some 5 := rfl
set_option maxRecDepth 100000 in
theorem own56 : (mz_T[56]?).map (fun e => e.2.2.2.2.2.1) = some 5 := rfl
set_option maxRecDepth 100000 in
theorem own57 : (mz_T[57]?).map (fun e => e.2.2.2.2.2.1) = some 5 := rfl
set_option maxRecDepth 100000 in
theorem own58 : (mz_T[58]?).map (fun e => e.2.2.2.2.2.1) = some 5 := rfl
set_option maxRecDepth 100000 in
theorem own59 : (mz_T[59]?).map (fun e => e.2.2.2.2.2.1) = some 5 := rfl
set_option maxRecDepth 100000 in
theorem own60 : (mz_T[60]?).map (fun e => e.2.2.2.2.2.1) = some 5 := rfl
set_option maxRecDepth 100000 in
theorem own61 : (mz_T[61]?).map (fun e => e.2.2.2.2.2.1) = some 5 := rfl
set_option maxRecDepth 100000 in
theorem own62 : (mz_T[62]?).map (fun e => e.2.2.2.2.2.1) = some 5 := rfl
set_option maxRecDepth 100000 in
theorem own63 : (mz_T[63]?).map (fun e => e.2.2.2.2.2.1) = some 5 := rfl
set_option maxRecDepth 100000 in
theorem own64 : (mz_T[64]?).map (fun e => e.2.2.2.2.2.1) = some 5 := rfl
set_option maxRecDepth 100000 in
theorem own65 : (mz_T[65]?).map (fun e => e.2.2.2.2.2.1) = some 5 := rfl
set_option maxRecDepth 100000 in
theorem own66 : (mz_T[66]?).map (fun e => e.2.2.2.2.2.1) = some 5 := rfl
set_option maxRecDepth 100000 in
theorem own67 : (mz_T[67]?).map (fun e => e.2.2.2.2.2.1) = some 5 := rfl
set_option maxRecDepth 100000 in
theorem own68 : (mz_T[68]?).map (fun e => e.2.2.2.2.2.1) = some 5 := rfl
set_option maxRecDepth 100000 in
theorem own69 : (mz_T[69]?).map (fun e => e.2.2.2.2.2.1) = some 5 := rfl
set_option maxRecDepth 100000 in
theorem own70 : (mz_T[70]?).map (fun e => e.2.2.2.2.2.1) = some 5 := rfl
set_option maxRecDepth 100000 in
theorem own71 : (mz_T[71]?).map (fun e => e.2.2.2.2.2.1) = some 5 := rfl
set_option maxRecDepth 100000 in
theorem own72 : (mz_T[72]?).map (fun e => e.2.2.2.2.2.1) = some 5 := rfl
set_option maxRecDepth 100000 in
theorem own73 : (mz_T[73]?).map (fun e => e.2.2.2.2.2.1) = some 5 := rfl
set_option maxRecDepth 100000 in
theorem own74 : (mz_T[74]?).map (fun e => e.2.2.2.2.2.1) = some 5 := rfl
set_option maxRecDepth 100000 in
theorem own75 : (mz_T[75]?).map (fun e => e.2.2.2.2.2.1) = some 5 := rfl
set_option maxRecDepth 100000 in
theorem own78 : (mz_T[78]?).map (fun e => e.2.2.2.2.2.1) = some 5 := rfl
set_option maxRecDepth 100000 in
theorem own79 : (mz_T[79]?).map (fun e => e.2.2.2.2.2.1) = some 5 := rfl
set_option maxRecDepth 100000 in
theorem own80 : (mz_T[80]?).map (fun e => e.2.2.2.2.2.1) = some 5 := rfl
set_option maxRecDepth 100000 in
theorem own81 : (mz_T[81]?).map (fun e => e.2.2.2.2.2.1) = some 5 := rfl
set_option maxRecDepth 100000 in
theorem own82 : (mz_T[82]?).map (fun e => e.2.2.2.2.2.1) = some 5 := rfl
set_option maxRecDepth 100000 in
theorem own83 : (mz_T[83]?).map (fun e => e.2.2.2.2.2.1) = some 5 := rfl
set_option maxRecDepth 100000 in
theorem own85 : (mz_T[85]?).map (fun e => e.2.2.2.2.2.1) = some 5 := rfl
set_option maxRecDepth 100000 in
theorem own86 : (mz_T[86]?).map (fun e => e.2.2.2.2.2.1) = some 5 := rfl
set_option maxRecDepth 100000 in
theorem own87 : (mz_T[87]?).map (fun e => e.2.2.2.2.2.1) = some 5 := rfl
set_option maxRecDepth 100000 in
theorem own88 : (mz_T[88]?).map (fun e => e.2.2.2.2.2.1) = some 5 := rfl
set_option maxRecDepth 100000 in
theorem own89 : (mz_T[89]?).map (fun e => e.2.2.2.2.2.1) = some 5 := rfl
set_option maxRecDepth 100000 in
theorem own90 : (mz_T[90]?).map (fun e => e.2.2.2.2.2.1) = some 5 := rfl
set_option maxRecDepth 100000 in
theorem own91 : (mz_T[91]?).map (fun e => e.2.2.2.2.2.1) = some 5 := rfl
set_option maxRecDepth 100000 in
theorem own92 : (mz_T[92]?).map (fun e => e.2.2.2.2.2.1) = some 5 := rfl
set_option maxRecDepth 100000 in
theorem own93 : (mz_T[93]?).map (fun e => e.2.2.2.2.2.1) = some 5 := rfl
set_option maxRecDepth 100000 in
theorem own94 : (mz_T[94]?).map (fun e => e.2.2.2.2.2.1) = some 5 := rfl
set_option maxRecDepth 100000 in
theorem own95 : (mz_T[95]?).map (fun e => e.2.2.2.2.2.1) = some 5 := rfl
set_option maxRecDepth 100000 in
theorem own96 : (mz_T[96]?).map (fun e => e.2.2.2.2.2.1) = some 5 := rfl
set_option maxRecDepth 100000 in
theorem own97 : (mz_T[97]?).map (fun e => e.2.2.2.2.2.1) = some 5 := rfl
set_option maxRecDepth 100000 in
theorem own98 : (mz_T[98]?).map (fun e => e.2.2.2.2.2.1) = some 5 := rfl
set_option maxRecDepth 100000 in
theorem own99 : (mz_T[99]?).map (fun e => e.2.2.2.2.2.1) = some 5 := rfl
set_option maxRecDepth 100000 in
theorem own100 : (mz_T[100]?).map (fun e => e.2.2.2.2.2.1) = some 5 := rfl
set_option maxRecDepth 100000 in
theorem own103 : (mz_T[103]?).map (fun e => e.2.2.2.2.2.1) = some 6 := rfl
set_option maxRecDepth 100000 in
theorem own104 : (mz_T[104]?).map (fun e => e.2.2.2.2.2.1) = some 6 := rfl
set_option maxRecDepth 100000 in
theorem own105 : (mz_T[105]?).map (fun e => e.2.2.2.2.2.1) = some 6 := rfl
set_option maxRecDepth 100000 in
theorem own107 : (mz_T[107]?).map (fun e => e.2.2.2.2.2.1) = some 6 := rfl
set_option maxRecDepth 100000 in
theorem own108 : (mz_T[108]?).map (fun e => e.2.2.2.2.2.1) = some 6 := rfl
set_option maxRecDepth 100000 in
theorem own109 : (mz_T[109]?).map (fun e => e.2.2.2.2.2.1) = some 6 := rfl
set_option maxRecDepth 100000 in
theorem own110 : (mz_T[110]?).map (fun e => e.2.2.2.2.2.1) = some 6 := rfl
set_option maxRecDepth 100000 in
theorem own111 : (mz_T[111]?).map (fun e => e.2.2.2.2.2.1) = some 6 := rfl
set_option maxRecDepth 100000 in
theorem own112 : (mz_T[112]?).map (fun e => e.2.2.2.2.2.1) = some 6 := rfl
set_option maxRecDepth 100000 in
theorem own113 : (mz_T[113]?).map (fun e => e.2.2.2.2.2.1) = some 6 := rfl
set_option maxRecDepth 100000 in
theorem own114 : (mz_T[114]?).map (fun e => e.2.2.2.2.2.1) = some 6 := rfl
set_option maxRecDepth 100000 in
theorem own116 : (mz_T[116]?).map (fun e => e.2.2.2.2.2.1) = some 6 := rfl
set_option maxRecDepth 100000 in
theorem own117 : (mz_T[117]?).map (fun e => e.2.2.2.2.2.1) = some 6 := rfl
set_option maxRecDepth 100000 in
theorem own118 : (mz_T[118]?).map (fun e => e.2.2.2.2.2.1) = some 6 := rfl
set_option maxRecDepth 100000 in
theorem own119 : (mz_T[119]?).map (fun e => e.2.2.2.2.2.1) = some 6 := rfl
set_option maxRecDepth 100000 in
theorem own120 : (mz_T[120]?).map (fun e => e.2.2.2.2.2.1) = some 6 := rfl
set_option maxRecDepth 100000 in
theorem own122 : (mz_T[122]?).map (fun e => e.2.2.2.2.2.1) = some 6 := rfl
set_option maxRecDepth 100000 in
theorem own123 : (mz_T[123]?).map (fun e => e.2.2.2.2.2.1) = some 6 := rfl
set_option maxRecDepth 100000 in
theorem own124 : (mz_T[124]?).map (fun e => e.2.2.2.2.2.1) = some 6 := rfl
set_option maxRecDepth 100000 in
theorem own125 : (mz_T[125]?).map (fun e => e.2.2.2.2.2.1) = some 6 := rfl
set_option maxRecDepth 100000 in
theorem own126 : (mz_T[126]?).map (fun e => e.2.2.2.2.2.1) = some 6 := rfl
set_option maxRecDepth 100000 in
theorem own127 : (mz_T[127]?).map (fun e => e.2.2.2.2.2.1) = some 6 := rfl
set_option maxRecDepth 100000 in
theorem own128 : (mz_T[128]?).map (fun e => e.2.2.2.2.2.1) = some 6 := rfl
set_option maxRecDepth 100000 in
theorem own129 : (mz_T[129]?).map (fun e => e.2.2.2.2.2.1) = some 6 := rfl
set_option maxRecDepth 100000 in
theorem own130 : (mz_T[130]?).map (fun e => e.2.2.2.2.2.1) = some 6 := rfl
set_option maxRecDepth 100000 in
theorem own131 : (mz_T[131]?).map (fun e => e.2.2.2.2.2.1) = some 6 := rfl
set_option maxRecDepth 100000 in
theorem own132 : (mz_T[132]?).map (fun e => e.2.2.2.2.2.1) = some 6 := rfl
set_option maxRecDepth 100000 in
theorem own133 : (mz_T[133]?).map (fun e => e.2.2.2.2.2.1) = some 6 := rfl
set_option maxRecDepth 100000 in
theorem own134 : (mz_T[134]?).map (fun e => e.2.2.2.2.2.1) = some 6 := rfl
set_option maxRecDepth 100000 in
theorem own135 : (mz_T[135]?).map (fun e => e.2.2.2.2.2.1) = some 6 := rfl
set_option maxRecDepth 100000 in
theorem own136 : (mz_T[136]?).map (fun e => e.2.2.2.2.2.1) = some 6 := rfl
set_option maxRecDepth 100000 in
theorem own137 : (mz_T[137]?).map (fun e => e.2.2.2.2.2.1) = some 6 := rfl
set_option maxRecDepth 100000 in
theorem own138 : (mz_T[138]?).map (fun e => e.2.2.2.2.2.1) = some 6 := rfl
set_option maxRecDepth 100000 in
theorem own139 : (mz_T[139]?).map (fun e => e.2.2.2.2.2.1) = some 6 := rfl
set_option maxRecDepth 100000 in
theorem own140 : (mz_T[140]?).map (fun e => e.2.2.2.2.2.1) = some 6 := rfl
set_option maxRecDepth 100000 in
theorem own141 : (mz_T[141]?).map (fun e => e.2.2.2.2.2.1) = some 6 := rfl
set_option maxRecDepth 100000 in
theorem own142 : (mz_T[142]?).map (fun e => e.2.2.2.2.2.1) = some 6 := rfl
set_option maxRecDepth 100000 in
theorem own143 : (mz_T[143]?).map (fun e => e.2.2.2.2.2.1) = some 6 := rfl
set_option maxRecDepth 100000 in
theorem own144 : (mz_T[144]?).map (fun e => e.2.2.2.2.2.1) = some 6 := rfl
set_option maxRecDepth 100000 in
theorem own145 : (mz_T[145]?).map (fun e => e.2.2.2.2.2.1) = some 6 := rfl
set_option maxRecDepth 100000 in
theorem own146 : (mz_T[146]?).map (fun e => e.2.2.2.2.2.1) = some 6 := rfl
set_option maxRecDepth 100000 in
theorem own147 : (mz_T[147]?).map (fun e => e.2.2.2.2.2.1) = some 6 := rfl
set_option maxRecDepth 100000 in
theorem own148 : (mz_T[148]?).map (fun e => e.2.2.2.2.2.1) = some 6 := rfl
set_option maxRecDepth 100000 in
theorem own149 : (mz_T[149]?).map (fun e => e.2.2.2.2.2.1) = some 6 := rfl
set_option maxRecDepth 100000 in
theorem own150 : (mz_T[150]?).map (fun e => e.2.2.2.2.2.1) = some 6 := rfl
set_option maxRecDepth 100000 in
theorem own151 : (mz_T[151]?).map (fun e => e.2.2.2.2.2.1) = some 6 := rfl
set_option maxRecDepth 100000 in
theorem own153 : (mz_T[153]?).map (fun e => e.2.2.2.2.2.1) = some 6 := rfl
set_option maxRecDepth 100000 in
theorem own154 : (mz_T[154]?).map (fun e => e.2.2.2.2.2.1) = some 6 := rfl
set_option maxRecDepth 100000 in
theorem own155 : (mz_T[155]?).map (fun e => e.2.2.2.2.2.1) = some 6 := rfl
set_option maxRecDepth 100000 in
theorem own156 : (mz_T[156]?).map (fun e => e.2.2.2.2.2.1) = some 6 := rfl
set_option maxRecDepth 100000 in
theorem own157 : (mz_T[157]?).map (fun e => e.2.2.2.2.2.1) = some 6 := rfl
set_option maxRecDepth 100000 in
theorem own158 : (mz_T[158]?).map (fun e => e.2.2.2.2.2.1) = some 6 := rfl
set_option maxRecDepth 100000 in
theorem own159 : (mz_T[159]?).map (fun e => e.2.2.2.2.2.1) = some 6 := rfl
set_option maxRecDepth 100000 in
theorem own160 : (mz_T[160]?).map (fun e => e.2.2.2.2.2.1) = some 6 := rfl

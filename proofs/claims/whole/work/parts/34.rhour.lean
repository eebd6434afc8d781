/-! the reference's land, and its hours -/
/-- only the row now -/
def Sr (M M' : Mem) : Prop := ∀ k, k ≠ 58 → M' k = M k
theorem Sr.rf {M : Mem} : Sr M M := fun _ _ => rfl
theorem Sr.tr {M M1 M2 : Mem} (h1 : Sr M M1) (h2 : Sr M1 M2) : Sr M M2 := fun k hk => (h2 k hk).trans (h1 k hk)
theorem Sr.wr {i : Nat} {M : Mem} {v : Int32} : Sr M (wr M 58 i v) := fun k hk => wr_n M 58 i v hk
theorem x8_within {k : Nat} (x : Int32) (M : Mem) (hk : k < 2 ^ 31 - 1) : fX8_within x 0 (nI k) M = some (bI (pIn (k + 1) x), M) := by
  unfold fX8_within pIn
  have e1 : (nI k < x) ↔ (k : Int) < x.toInt := by rw [Int32.lt_iff_toInt_lt, nI_toInt (by omega)]
  by_cases a : x.toInt < 0
  · rw [if_pos ((i0 x).mpr a), ck_b0, decide_eq_false (by omega)]; rfl
  · rw [if_neg (fun h => a ((i0 x).mp h))]
    by_cases c : (k : Int) < x.toInt
    · rw [if_pos (e1.mpr c), ck_b0, decide_eq_false (by omega)]; rfl
    · rw [if_neg (fun h => c (e1.mp h)), ck_b1, decide_eq_true (by omega)]; rfl
theorem x8_withinP {n : Nat} (x : Int32) (M : Mem) (hn : n < 2 ^ 31 - 1) : fX8_within x 0 (nI n - 1) M = some (bI (pIn n x), M) := by
  rcases Nat.eq_zero_or_pos n with h | h
  · subst h
    unfold fX8_within pIn
    by_cases a : x.toInt < 0
    · rw [if_pos ((i0 x).mpr a), ck_b0, decide_eq_false (by omega)]; rfl
    · rw [if_neg (fun h => a ((i0 x).mp h)), if_pos (by rw [Int32.lt_iff_toInt_lt]; show (-1 : Int) < _; omega), ck_b0, decide_eq_false (by omega)]; rfl
  · rw [sb1 h, x8_within x M (by omega), Nat.sub_add_cancel h]
theorem x8_isPerson {M : Mem} {L : Lan} (hC : RLn M 58 L) (hW : WF L) (x : Int32) : fX8_isPerson x M = some (bI (pIn (gN L) x), M) := by
  have hn := hW.1
  have h4 : M 58 4 = nI (gN L) := hC.2.2.2.2.2.2.1
  unfold fX8_isPerson
  simp (disch := omega) only [bde, bve, wme, ck_in, ck_b0, ck_b1, ck_bI, ix_nI, bI_0, bI_1, nI_1, lit_le, lit_lt, lit_eq, ↓reduceIte, ckl_4_56, ckl_0_56, ckl_3_56, ckl_1_56, ckl_5_56, ckl_2_56, ckl_1_2, ckl_0_2, ckl_0_256, ckl_0_8, ckl_33_34, ckl_32_34, ixl_0, ixl_1, ixl_2, ixl_3, ixl_4, ixl_5, ixl_8, ixl_10, ixl_32, ixl_33, ixl_40, h4, x8_withinP]
theorem x8_at (i f : Nat) (M : Mem) : fX8_at (nI i) (nI f) M = some (nI (16 + 5 * i + f), M) := by
  unfold fX8_at
  simp only [ad1, da1, mu1, ad2, da2, mu2, ad3, da3, mu3, ad4, da4, mu4, ad5, da5, mu5, ad8, da8, mu8, ad10, da10, mu10, ad16, da16, mu16, mu40, nI_add]
theorem x8_at0 (i : Nat) (M : Mem) : fX8_at (nI i) 0 M = some (nI (16 + 5 * i + 0), M) := x8_at i 0 M
theorem x8_at1 (i : Nat) (M : Mem) : fX8_at (nI i) 1 M = some (nI (16 + 5 * i + 1), M) := x8_at i 1 M
theorem x8_at2 (i : Nat) (M : Mem) : fX8_at (nI i) 2 M = some (nI (16 + 5 * i + 2), M) := x8_at i 2 M
theorem x8_at3 (i : Nat) (M : Mem) : fX8_at (nI i) 3 M = some (nI (16 + 5 * i + 3), M) := x8_at i 3 M
theorem x8_at4 (i : Nat) (M : Mem) : fX8_at (nI i) 4 M = some (nI (16 + 5 * i + 4), M) := x8_at i 4 M
theorem x8_personIs {i f : Nat} (M : Mem) (hi : i < 8) (hf : f < 5) : fX8_personIs (nI i) (nI f) M = some (M 58 (16 + 5 * i + f), M) := by
  unfold fX8_personIs
  simp (disch := omega) only [bde, bve, wme, ck_in, ck_b0, ck_b1, ck_bI, ix_nI, bI_0, bI_1, nI_1, lit_le, lit_lt, lit_eq, ↓reduceIte, ckl_4_56, ckl_0_56, ckl_3_56, ckl_1_56, ckl_5_56, ckl_2_56, ckl_1_2, ckl_0_2, ckl_0_256, ckl_0_8, ckl_33_34, ckl_32_34, ixl_0, ixl_1, ixl_2, ixl_3, ixl_4, ixl_5, ixl_8, ixl_10, ixl_32, ixl_33, ixl_40, x8_at]
theorem x8_Kd {M : Mem} {L : Lan} (hC : RLn M 58 L) {i : Nat} (hi : i < 8) : fX8_personIs (nI i) 0 M = some (nI (gKd L i), M) := by rw [← hC.1 i hi]; exact x8_personIs (f := 0) M hi (by decide)
theorem x8_Su {M : Mem} {L : Lan} (hC : RLn M 58 L) {i : Nat} (hi : i < 8) : fX8_personIs (nI i) 1 M = some (nI (gSu L i), M) := by rw [← hC.2.1 i hi]; exact x8_personIs (f := 1) M hi (by decide)
theorem x8_Sg {M : Mem} {L : Lan} (hC : RLn M 58 L) {i : Nat} (hi : i < 8) : fX8_personIs (nI i) 2 M = some (nI (gSg L i), M) := by rw [← hC.2.2.1 i hi]; exact x8_personIs (f := 2) M hi (by decide)
theorem x8_Nd {M : Mem} {L : Lan} (hC : RLn M 58 L) {i : Nat} (hi : i < 8) : fX8_personIs (nI i) 3 M = some (nI (gNd L i), M) := by rw [← hC.2.2.2.1 i hi]; exact x8_personIs (f := 3) M hi (by decide)
theorem x8_Mt {M : Mem} {L : Lan} (hC : RLn M 58 L) {i : Nat} (hi : i < 8) : fX8_personIs (nI i) 4 M = some (mI (gMt L i), M) := by rw [← hC.2.2.2.2.1 i hi]; exact x8_personIs (f := 4) M hi (by decide)
theorem x8_has {s k : Nat} (M : Mem) (hs : s < 2 ^ 31) (hk : k < 32) : fX8_has (nI s) (nI k) M = some (bI (s.testBit k), M) := by
  unfold fX8_has
  rw [shr_nI hk hs, and_1, tb_div]
  cases s.testBit k
  · rfl
  · rfl
theorem x8_isLit {M : Mem} {L : Lan} (hC : RLn M 58 L) (hW : WF L) {h : Nat} (hh : h < 32) : fX8_isLit (nI h) M = some (bI ((gL L).testBit h), M) := by
  have h3 : M 58 3 = nI (gL L) := hC.2.2.2.2.2.2.2.1
  have := hW.2.2.1
  unfold fX8_isLit
  simp (disch := omega) only [bde, bve, wme, ck_in, ck_b0, ck_b1, ck_bI, ix_nI, bI_0, bI_1, nI_1, lit_le, lit_lt, lit_eq, ↓reduceIte, ckl_4_56, ckl_0_56, ckl_3_56, ckl_1_56, ckl_5_56, ckl_2_56, ckl_1_2, ckl_0_2, ckl_0_256, ckl_0_8, ckl_33_34, ckl_32_34, ixl_0, ixl_1, ixl_2, ixl_3, ixl_4, ixl_5, ixl_8, ixl_10, ixl_32, ixl_33, ixl_40, h3, x8_has]
theorem x8_claimOf {M : Mem} {L : Lan} (hC : RLn M 58 L) (hW : WF L) {p h : Nat} (hp : p < gN L) (hh : h < 100) : fX8_claimOf (nI p) (nI h) M = some (nI (claimN L p h), M) := by
  have hn8 := hW.1
  have hp8 : p < 8 := by omega
  obtain ⟨w1, w2, w3, -⟩ := hW.2.2.2.1 p hp8
  unfold fX8_claimOf claimN
  simp (disch := omega) only [bde, bve, wme, ck_in, ck_b0, ck_b1, ck_bI, ix_nI, bI_0, bI_1, nI_1, lit_le, lit_lt, lit_eq, ↓reduceIte, ckl_4_56, ckl_0_56, ckl_3_56, ckl_1_56, ckl_5_56, ckl_2_56, ckl_1_2, ckl_0_2, ckl_0_256, ckl_0_8, ckl_33_34, ckl_32_34, ixl_0, ixl_1, ixl_2, ixl_3, ixl_4, ixl_5, ixl_8, ixl_10, ixl_32, ixl_33, ixl_40, q0, le0, ge0, lt0, gt0, q1, le1, ge1, lt1, gt1, q2, le2, ge2, lt2, gt2, q3, le3, ge3, lt3, gt3, q4, le4, ge4, lt4, gt4, q5, le5, ge5, lt5, gt5, q6, le6, ge6, lt6, gt6, q7, le7, ge7, lt7, gt7, q8, le8, ge8, lt8, gt8, q9, le9, ge9, lt9, gt9, q10, le10, ge10, lt10, gt10, q12, le12, ge12, lt12, gt12, q15, le15, ge15, lt15, gt15, q16, le16, ge16, lt16, gt16, q20, le20, ge20, lt20, gt20, q40, le40, ge40, lt40, gt40, q50, le50, ge50, lt50, gt50, q56, le56, ge56, lt56, gt56, q99, le99, ge99, lt99, gt99, q120, le120, ge120, lt120, gt120, q121, le121, ge121, lt121, gt121, q97, le97, ge97, lt97, gt97, q122, le122, ge122, lt122, gt122, q48, le48, ge48, lt48, gt48, q57, le57, ge57, lt57, gt57, q32, le32, ge32, lt32, gt32, q59, le59, ge59, lt59, gt59, q65535, le65535, ge65535, lt65535, gt65535, q99999, le99999, ge99999, lt99999, gt99999, q100000, le100000, ge100000, lt100000, gt100000, q90000, le90000, ge90000, lt90000, gt90000, q1000000, le1000000, ge1000000, lt1000000, gt1000000, ad1, da1, mu1, ad2, da2, mu2, ad3, da3, mu3, ad4, da4, mu4, ad5, da5, mu5, ad8, da8, mu8, ad10, da10, mu10, ad16, da16, mu16, mu40, x8_Su hC hp8, x8_Sg hC hp8, x8_Kd hC hp8, irm_2]
  repeat' split
  all_goals first | rfl | (exfalso; omega) | contradiction | (rw [nI_add]) | (rw [div_2 (by omega)])
theorem x8_firstOf {M : Mem} {L : Lan} (hC : RLn M 58 L) (hW : WF L) {p q h : Nat} (hp : p < gN L) (hq : q < gN L) (hh : h < 100) : fX8_firstOf (nI p) (nI q) (nI h) M = some (nI (firN L p q h), M) := by
  have hn := hW.1
  unfold fX8_firstOf firN
  have hmx : max p q < gN L := by omega
  have hmn : min p q < gN L := by omega
  have c1 := claimN_le hW (p := max p q) (by omega) h
  have c2 := claimN_le hW (p := min p q) (by omega) h
  simp (disch := omega) only [imin_nI, imax_nI, bve, x8_claimOf hC hW hmx hh, x8_claimOf hC hW hmn hh, bde, lit_le]
  split <;> rfl
theorem mI_lt0 {m : Nat} (h : m < 2 ^ 31) : (mI m < 0) = (m = 0) := by
  apply propext
  rcases Nat.eq_zero_or_pos m with h0 | h0
  · subst h0; simp only [iff_true]; decide
  · rw [mI_pos h0]
    constructor
    · intro h2; exact absurd h2 (nI_pos (by omega))
    · intro h2; omega
theorem x8_hasShadow {M : Mem} {L : Lan} (hC : RLn M 58 L) (hW : WF L) {p h : Nat} (hp : p < gN L) (hh : h < 32) : fX8_hasShadow (nI p) (nI h) M = some (bI (hasN L p h), M) := by
  have hn := hW.1
  have hm := (hW.2.2.2.2.1 p hp).1
  unfold fX8_hasShadow hasN
  simp (disch := omega) only [bde, bve, wme, ck_in, ck_b0, ck_b1, ck_bI, ix_nI, bI_0, bI_1, nI_1, lit_le, lit_lt, lit_eq, ↓reduceIte, ckl_4_56, ckl_0_56, ckl_3_56, ckl_1_56, ckl_5_56, ckl_2_56, ckl_1_2, ckl_0_2, ckl_0_256, ckl_0_8, ckl_33_34, ckl_32_34, ixl_0, ixl_1, ixl_2, ixl_3, ixl_4, ixl_5, ixl_8, ixl_10, ixl_32, ixl_33, ixl_40, x8_Mt hC (show p < 8 by omega), x8_isLit hC hW hh, mI_lt0]
  cases hl : (gL L).testBit h
  · simp [bI]
  · by_cases hm0 : gMt L p = 0
    · simp [hm0, bI]
    · obtain ⟨e1, e2⟩ := mI_mt hW hp hm0
      have hf := firN_or L p (gMt L p - 1) h
      rw [e1, x8_firstOf hC hW hp e2 (by omega), bde]
      by_cases hb : firN L p (gMt L p - 1) h = p
      · simp [hb, hm0, bI]
      · have : ¬ nI (firN L p (gMt L p - 1) h) = nI p := fun e => hb (nI_inj (by omega) (by omega) e)
        simp [hb, hm0, bI, this]
theorem x8_whoHave_L4 {M : Mem} {L : Lan} (hC : RLn M 58 L) (hW : WF L) {h : Nat} (hh : h < 32) : ∀ n p : Nat, p ≤ gN L → gN L - p < n → fX8_whoHave_L4 n (nI h) (nI (stN (fun q => hasN L q h) p)) (nI p) M = some (nI (havN L h), M) := by
  have hn8 := hW.1
  have h4 : M 58 4 = nI (gN L) := hC.2.2.2.2.2.2.1
  intro n
  induction n with
  | zero => intro p _ h; omega
  | succ n ih =>
    intro p hp hm
    rw [fX8_whoHave_L4]
    rcases Nat.lt_or_ge p (gN L) with hlt | hge
    · have hs := stN_lt (fun q => hasN L q h) p
      have hi := ih (p + 1) (by omega) (by omega)
      simp (disch := omega) only [bde, bve, wme, ck_in, ck_b0, ck_b1, ck_bI, ix_nI, bI_0, bI_1, nI_1, lit_le, lit_lt, lit_eq, ↓reduceIte, ckl_4_56, ckl_0_56, ckl_3_56, ckl_1_56, ckl_5_56, ckl_2_56, ckl_1_2, ckl_0_2, ckl_0_256, ckl_0_8, ckl_33_34, ckl_32_34, ixl_0, ixl_1, ixl_2, ixl_3, ixl_4, ixl_5, ixl_8, ixl_10, ixl_32, ixl_33, ixl_40, h4, Nat.not_le.mpr hlt, x8_hasShadow hC hW hlt hh, fX8_whoHave_L31, shl_1, nI_or, or_pow hs]
      rw [← hi]
      cases hb : hasN L p h
      · simp [stN, hb, nI_0', nI_or]
      · simp [stN, hb]
    · have he : p = gN L := by omega
      subst he
      simp (disch := omega) only [bde, bve, wme, ck_in, ck_b0, ck_b1, ck_bI, ix_nI, bI_0, bI_1, nI_1, lit_le, lit_lt, lit_eq, ↓reduceIte, ckl_4_56, ckl_0_56, ckl_3_56, ckl_1_56, ckl_5_56, ckl_2_56, ckl_1_2, ckl_0_2, ckl_0_256, ckl_0_8, ckl_33_34, ckl_32_34, ixl_0, ixl_1, ixl_2, ixl_3, ixl_4, ixl_5, ixl_8, ixl_10, ixl_32, ixl_33, ixl_40, h4, Nat.le_refl]
      rfl
theorem x8_whoHave {M : Mem} {L : Lan} (hC : RLn M 58 L) (hW : WF L) {h : Nat} (hh : h < 32) : fX8_whoHave (nI h) M = some (nI (havN L h), M) := by
  have hn8 := hW.1
  exact x8_whoHave_L4 hC hW hh fu 0 (Nat.zero_le _) (by show _ < 2000; omega)
theorem x8_isOver {M : Mem} {L : Lan} (hC : RLn M 58 L) (hW : WF L) : fX8_isOver M = some (bI (decide (gH L = 16)), M) := by
  have h0 : M 58 0 = nI (gH L) := hC.2.2.2.2.2.2.2.2.1
  have := hW.2.1
  unfold fX8_isOver
  simp (disch := omega) only [bde, bve, wme, ck_in, ck_b0, ck_b1, ck_bI, ix_nI, bI_0, bI_1, nI_1, lit_le, lit_lt, lit_eq, ↓reduceIte, ckl_4_56, ckl_0_56, ckl_3_56, ckl_1_56, ckl_5_56, ckl_2_56, ckl_1_2, ckl_0_2, ckl_0_256, ckl_0_8, ckl_33_34, ckl_32_34, ixl_0, ixl_1, ixl_2, ixl_3, ixl_4, ixl_5, ixl_8, ixl_10, ixl_32, ixl_33, ixl_40, h0, q16]
  by_cases h : gH L = 16
  · simp [h, bI]
  · simp [h, bI]
theorem mid_b (L : Lan) (p : Nat) : midN L p = sMs (sMe (parN L p) (gMe (parN L p) + bI (metA L p))) (gMs (parN L p) + bI (misA L p)) := by
  unfold midN midP
  cases metA L p <;> cases misA L p <;> simp [bI]
theorem x8_h166 {k15 : Int32 → Int32 → Int32 → Mem → Option (Unit × Mem)} {M : Mem} {p : Nat} {y1 y2 : Int32} {L : Lan} (hC : RLn M 58 (midN L p)) (hp : p < 8) : ∃ M1, fX8_hour_L166 k15 y1 y2 (nI p) (nI (sunA L p)) (nI (16 + 5 * p + 1)) M = k15 y1 y2 (nI (p + 1)) M1 ∧ RLn M1 58 (parN L (p + 1)) ∧ Sr M M1 := by
  refine ⟨wr M 58 (16 + 5 * p + 1) (nI (sunA L p)), ?_, ?_, Sr.wr⟩
  · unfold fX8_hour_L166
    simp (disch := omega) only [bde, bve, wme, ck_in, ck_b0, ck_b1, ck_bI, ix_nI, bI_0, bI_1, nI_1, lit_le, lit_lt, lit_eq, ↓reduceIte, ckl_4_56, ckl_0_56, ckl_3_56, ckl_1_56, ckl_5_56, ckl_2_56, ckl_1_2, ckl_0_2, ckl_0_256, ckl_0_8, ckl_33_34, ckl_32_34, ixl_0, ixl_1, ixl_2, ixl_3, ixl_4, ixl_5, ixl_8, ixl_10, ixl_32, ixl_33, ixl_40]
  · rw [← mid_par]
    exact rl_Su hC hp _
theorem x8_h106 {k15 : Int32 → Int32 → Int32 → Mem → Option (Unit × Mem)} {M : Mem} {p s : Nat} {L : Lan} {c2 : Bool} {X : Lan} (hX : X = sMe (parN L p) (gMe (parN L p) + bI (metA L p))) (hC : RLn M 58 X) (hW : WF L) (hp : p < gN L) (hh : gH L < 16) (hs : s < 2 ^ 31) (hc : c2 = misA L p) (he : litN L = true → s.testBit p = hasN L p (gH L)) :
    ∃ M1, fX8_hour_L106 k15 (nI (gH L)) (nI s) (nI p) (bI c2) (M 58 2) M = k15 (nI (gH L)) (nI s) (nI (p + 1)) M1 ∧ RLn M1 58 (parN L (p + 1)) ∧ Sr M M1 := by
  have hn8 := hW.1
  have hsu := (hW.2.2.2.1 p (by omega)).2.1
  have h2 : M 58 2 = gMs (parN L p) := by rw [hC.2.2.2.2.2.2.2.2.2.2.1, hX]; rfl
  have hM1 : RLn (wr M 58 2 (M 58 2 + bI c2)) 58 (midN L p) := by
    rw [mid_b, ← hX, h2, hc]
    exact rl_Ms hC _
  have hWm : WF (midN L p) := by
    have h := wf_par hW p
    rw [mid_b]
    exact h
  have e1 : gSu (midN L p) p = gSu L p := by rw [mid_b]; show gSu (parN L p) p = _; rw [par_Su, sunF_k]
  have e2 : gL (midN L p) = gL L := by rw [mid_b]; exact par_L L p
  obtain ⟨M1, f1, c1, s1⟩ := x8_h166 (k15 := k15) (y1 := nI (gH L)) (y2 := nI s) hM1 (show p < 8 by omega)
  refine ⟨M1, ?_, c1, Sr.wr.tr s1⟩
  rw [← f1]
  unfold fX8_hour_L106
  have hlit : litN L = (gL L).testBit (gH L) := rfl
  simp (disch := omega) only [bde, bve, wme, ck_in, ck_b0, ck_b1, ck_bI, ix_nI, bI_0, bI_1, nI_1, lit_le, lit_lt, lit_eq, ↓reduceIte, ckl_4_56, ckl_0_56, ckl_3_56, ckl_1_56, ckl_5_56, ckl_2_56, ckl_1_2, ckl_0_2, ckl_0_256, ckl_0_8, ckl_33_34, ckl_32_34, ixl_0, ixl_1, ixl_2, ixl_3, ixl_4, ixl_5, ixl_8, ixl_10, ixl_32, ixl_33, ixl_40, x8_Su hM1 (show p < 8 by omega), x8_at1, x8_isLit hM1 hWm (show gH L < 32 by omega), e1, e2, x8_has]
  rw [← hlit]
  cases hl : litN L
  · simp [sunA, hl]
  · have he := he hl
    rw [he]
    simp only [reduceCtorEq, ↓reduceIte]
    cases hb : hasN L p (gH L)
    · have e : imin 99 (nI (gSu L p + 1)) = nI (min 99 (gSu L p + 1)) := imin_nI (a := 99) (by decide) (by omega)
      simp [e, sunA, hl, hb]
    · have e : imax 0 (nI (gSu L p) - 1) = nI (gSu L p - 1) := by
        rcases Nat.eq_zero_or_pos (gSu L p) with h0 | h0
        · rw [h0]; decide
        · rw [sb1 h0]
          have := imax_nI (a := 0) (b := gSu L p - 1) (by decide) (by omega)
          rw [Nat.max_eq_right (Nat.zero_le _)] at this
          exact this
      simp [e, sunA, hl, hb]
theorem x8_h58 {k15 : Int32 → Int32 → Int32 → Mem → Option (Unit × Mem)} {M : Mem} {p s : Nat} {L : Lan} (hC : RLn M 58 (parN L p)) (hW : WF L) (hp : p < gN L) (hh : gH L < 16) (hs : s < 2 ^ 31) (he : litN L = true → s.testBit p = hasN L p (gH L)) (sv : Bool) (hv : sv = (!litN L || hasN L p (gH L))) :
    ∃ M1, fX8_hour_L58 k15 (nI (gH L)) (nI s) (nI p) (bI ((gNd L p).testBit (gH L))) (bI sv) M = k15 (nI (gH L)) (nI s) (nI (p + 1)) M1 ∧ RLn M1 58 (parN L (p + 1)) ∧ Sr M M1 := by
  have h1 : M 58 1 = gMe (parN L p) := hC.2.2.2.2.2.2.2.2.2.1
  have hm : metA L p = ((gNd L p).testBit (gH L) && sv) := by rw [hv]; rfl
  have hs2 : misA L p = ((gNd L p).testBit (gH L) && !sv) := by rw [hv]; rfl
  have hM1 : RLn (wr M 58 1 (M 58 1 + bI (metA L p))) 58 (sMe (parN L p) (gMe (parN L p) + bI (metA L p))) := by
    rw [h1]
    exact rl_Me hC _
  obtain ⟨M1, f1, c1, s1⟩ := x8_h106 (k15 := k15) (c2 := misA L p) rfl hM1 hW hp hh hs rfl he
  refine ⟨M1, ?_, c1, Sr.wr.tr s1⟩
  rw [← f1, hm, hs2]
  unfold fX8_hour_L58
  cases (gNd L p).testBit (gH L) <;> cases sv <;> simp [bI, fX8_hour_L81, fX8_hour_L82, fX8_hour_L105, ckl_1_56, ckl_2_56, wme, ixl_1, ixl_2]
theorem x8_h15 {L : Lan} {s : Nat} (hW : WF L) (hh : gH L < 16) (hs : s < 2 ^ 31) (he : litN L = true → ∀ p, p < gN L → s.testBit p = hasN L p (gH L)) : ∀ (n p : Nat) (M : Mem), RLn M 58 (parN L p) → p ≤ gN L → gN L - p < n →
    ∃ M1, fX8_hour_L15 n (nI (gH L)) (nI s) (nI p) M = some ((), M1) ∧ RLn M1 58 (stpN L) ∧ Sr M M1 := by
  have hn8 := hW.1
  intro n
  induction n with
  | zero => intro p M _ _ h; omega
  | succ n ih =>
    intro p M hC hp hm
    rw [fX8_hour_L15]
    have h4 : M 58 4 = nI (gN L) := by rw [hC.2.2.2.2.2.2.1, par_N]
    have h0 : M 58 0 = nI (gH L) := by rw [hC.2.2.2.2.2.2.2.2.1, par_H]
    rcases Nat.lt_or_ge p (gN L) with hlt | hge
    · have hp8 : p < 8 := by omega
      have hnd := (hW.2.2.2.1 p hp8).2.2.2
      have hWp := wf_par hW p
      obtain ⟨M1, e1, c1, s1⟩ := x8_h58 (k15 := fX8_hour_L15 n) hC hW hlt hh hs (fun h => he h p hlt) (!litN L || hasN L p (gH L)) rfl
      obtain ⟨M2, e2, c2, s2⟩ := ih (p + 1) M1 c1 hlt (by omega)
      refine ⟨M2, ?_, c2, s1.tr s2⟩
      rw [← e2, ← e1]
      simp (disch := omega) only [bde, bve, wme, ck_in, ck_b0, ck_b1, ck_bI, ix_nI, bI_0, bI_1, nI_1, lit_le, lit_lt, lit_eq, ↓reduceIte, ckl_4_56, ckl_0_56, ckl_3_56, ckl_1_56, ckl_5_56, ckl_2_56, ckl_1_2, ckl_0_2, ckl_0_256, ckl_0_8, ckl_33_34, ckl_32_34, ixl_0, ixl_1, ixl_2, ixl_3, ixl_4, ixl_5, ixl_8, ixl_10, ixl_32, ixl_33, ixl_40, h4, Nat.not_le.mpr hlt, x8_Nd hC hp8, par_Nd, x8_has, x8_isLit hC hWp (show gH L < 32 by omega), par_L]
      have hlit : litN L = (gL L).testBit (gH L) := rfl
      rw [← hlit]
      cases hl : litN L
      · simp [bI, fX8_hour_L53]
      · rw [he hl p hlt]
        cases hasN L p (gH L) <;> simp [bI, fX8_hour_L53]
    · have hpe : p = gN L := by omega
      subst hpe
      refine ⟨wr M 58 0 (M 58 0 + 1), ?_, ?_, Sr.wr⟩
      · simp (disch := omega) only [bde, bve, wme, ck_in, ck_b0, ck_b1, ck_bI, ix_nI, bI_0, bI_1, nI_1, lit_le, lit_lt, lit_eq, ↓reduceIte, ckl_4_56, ckl_0_56, ckl_3_56, ckl_1_56, ckl_5_56, ckl_2_56, ckl_1_2, ckl_0_2, ckl_0_256, ckl_0_8, ckl_33_34, ckl_32_34, ixl_0, ixl_1, ixl_2, ixl_3, ixl_4, ixl_5, ixl_8, ixl_10, ixl_32, ixl_33, ixl_40, h4, Nat.le_refl]
      · rw [h0, nI_1]
        exact rl_H hC _
theorem x8_hour {L : Lan} {M : Mem} (hC : RLn M 58 L) (hW : WF L) (hh : gH L < 16) : ∃ M1, fX8_hour M = some ((), M1) ∧ RLn M1 58 (stpN L) ∧ Sr M M1 := by
  have hn8 := hW.1
  have h0 : M 58 0 = nI (gH L) := hC.2.2.2.2.2.2.2.2.1
  have hb := stN_lt (fun p => hasN L p (gH L)) (gN L)
  have hb2 : 2 ^ gN L ≤ 2 ^ 8 := Nat.pow_le_pow_right (by decide) hn8
  have hs : havN L (gH L) < 2 ^ 31 := by unfold havN; omega
  obtain ⟨M1, e1, c1, s1⟩ := x8_h15 (s := havN L (gH L)) hW hh hs (fun _ p hp => by unfold havN; rw [stN_tb]; simp [hp]) fu 0 M hC (Nat.zero_le _) (by show _ < 2000; omega)
  refine ⟨M1, ?_, c1, s1⟩
  rw [← e1]
  unfold fX8_hour
  simp (disch := omega) only [bde, bve, wme, ck_in, ck_b0, ck_b1, ck_bI, ix_nI, bI_0, bI_1, nI_1, lit_le, lit_lt, lit_eq, ↓reduceIte, ckl_4_56, ckl_0_56, ckl_3_56, ckl_1_56, ckl_5_56, ckl_2_56, ckl_1_2, ckl_0_2, ckl_0_256, ckl_0_8, ckl_33_34, ckl_32_34, ixl_0, ixl_1, ixl_2, ixl_3, ixl_4, ixl_5, ixl_8, ixl_10, ixl_32, ixl_33, ixl_40, h0, x8_whoHave hC hW (show gH L < 32 by omega)]
  rfl
theorem x8_hg2 {m : Nat} (hm : m < 2 ^ 30) : ∀ (n k : Nat) (L : Lan) (M : Mem), RLn M 58 L → WF L → k ≤ m → gH L + (m - k) ≤ 16 → m - k < n → ∃ M1, fX8_hoursGo_L2 n (nI m) (nI k) M = some (gMe (hrsN (m - k) L), M1) ∧ RLn M1 58 (hrsN (m - k) L) ∧ Sr M M1 := by
  intro n
  induction n with
  | zero => intro k L M _ _ _ _ h; omega
  | succ n ih =>
    intro k L M hC hW hk hh hn
    rw [fX8_hoursGo_L2]
    rcases Nat.lt_or_ge k m with hlt | hge
    · obtain ⟨M1, e1, c1, s1⟩ := x8_hour hC hW (by omega)
      obtain ⟨M2, e2, c2, s2⟩ := ih (k + 1) (stpN L) M1 c1 (wf_stp hW (by omega)) (by omega) (by rw [stp_H]; omega) (by omega)
      have : m - k = (m - (k + 1)) + 1 := by omega
      rw [this]
      refine ⟨M2, ?_, c2, s1.tr s2⟩
      simp (disch := omega) only [bde, bve, wme, ck_in, ck_b0, ck_b1, ck_bI, ix_nI, bI_0, bI_1, nI_1, lit_le, lit_lt, lit_eq, ↓reduceIte, ckl_4_56, ckl_0_56, ckl_3_56, ckl_1_56, ckl_5_56, ckl_2_56, ckl_1_2, ckl_0_2, ckl_0_256, ckl_0_8, ckl_33_34, ckl_32_34, ixl_0, ixl_1, ixl_2, ixl_3, ixl_4, ixl_5, ixl_8, ixl_10, ixl_32, ixl_33, ixl_40, Nat.not_le.mpr hlt, e1]
      exact e2
    · have : m - k = 0 := by omega
      rw [this]
      have h1 : M 58 1 = gMe L := hC.2.2.2.2.2.2.2.2.2.1
      refine ⟨M, ?_, hC, Sr.rf⟩
      simp (disch := omega) only [bde, bve, wme, ck_in, ck_b0, ck_b1, ck_bI, ix_nI, bI_0, bI_1, nI_1, lit_le, lit_lt, lit_eq, ↓reduceIte, ckl_4_56, ckl_0_56, ckl_3_56, ckl_1_56, ckl_5_56, ckl_2_56, ckl_1_2, ckl_0_2, ckl_0_256, ckl_0_8, ckl_33_34, ckl_32_34, ixl_0, ixl_1, ixl_2, ixl_3, ixl_4, ixl_5, ixl_8, ixl_10, ixl_32, ixl_33, ixl_40, hge, h1]
      rfl
theorem x8_hoursGo {m : Nat} {L : Lan} {M : Mem} (hC : RLn M 58 L) (hW : WF L) (hm : gH L + m ≤ 16) : ∃ M1, fX8_hoursGo (nI m) M = some (gMe (hrsN m L), M1) ∧ RLn M1 58 (hrsN m L) ∧ Sr M M1 :=
  x8_hg2 (by omega) fu 0 L M hC hW (Nat.zero_le _) (by omega) (by show _ < 2000; omega)

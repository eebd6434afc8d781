/-! the reference's hours over a land whose mates need not be mutual (made by mk74.py) -/
def WFr (L : Lan) : Prop :=
  gN L ≤ 8 ∧ gH L ≤ 16 ∧ gL L < 65536 ∧ (∀ i, i < 8 → gKd L i ≤ 6 ∧ gSu L i ≤ 99 ∧ gSg L i ≤ 9 ∧ gNd L i < 65536) ∧ (∀ i, i < gN L → gMt L i ≤ gN L ∧ gMt L i ≠ i + 1) ∧ (∀ s, s < 10 → gSp L s ≤ gN L)
theorem WF.r {L : Lan} (h : WF L) : WFr L := ⟨h.1, h.2.1, h.2.2.1, h.2.2.2.1, fun i hi => ⟨(h.2.2.2.2.1 i hi).1, (h.2.2.2.2.1 i hi).2.1⟩, h.2.2.2.2.2⟩
theorem claimN_le_r {L : Lan} (hW : WFr L) {p : Nat} (hp : p < 8) (h : Nat) : claimN L p h ≤ 117 := by
  obtain ⟨-, -, -, h4, -⟩ := hW
  obtain ⟨-, h5, h6, -⟩ := h4 p hp
  unfold claimN
  repeat' split
  all_goals omega
theorem mI_mt_r {L : Lan} (hW : WFr L) {p : Nat} (hp : p < gN L) (h : ¬ gMt L p = 0) : mI (gMt L p) = nI (gMt L p - 1) ∧ gMt L p - 1 < gN L := by
  have := (hW.2.2.2.2.1 p hp).1
  exact ⟨mI_pos (by omega), by omega⟩
theorem wf_par_r {L : Lan} (hW : WFr L) (k : Nat) : WFr (parN L k) := by
  obtain ⟨a1, a2, a3, a4, a5, a6⟩ := hW
  unfold WFr
  rw [par_N, par_H, par_L, par_Kd, par_Su, par_Sg, par_Nd, par_Mt, par_Sp]
  refine ⟨a1, a2, a3, fun i hi => ?_, a5, a6⟩
  obtain ⟨b1, b2, b3, b4⟩ := a4 i hi
  refine ⟨b1, ?_, b3, b4⟩
  unfold sunF sunA
  repeat' split
  all_goals omega
theorem wf_H_r {L : Lan} (hW : WFr L) {h : Nat} (hh : h ≤ 16) : WFr (sH L h) := by
  obtain ⟨a1, a2, a3, a4, a5, a6⟩ := hW
  exact ⟨a1, hh, a3, a4, a5, a6⟩
theorem wf_stp_r {L : Lan} (hW : WFr L) (h : gH L < 16) : WFr (stpN L) := wf_H_r (wf_par_r hW _) (by omega)
theorem wf_hrs_r (k : Nat) : ∀ L : Lan, WFr L → gH L + k ≤ 16 → WFr (hrsN k L) := by
  induction k with
  | zero => intro L h _; exact h
  | succ k ih => intro L h hk; exact ih (stpN L) (wf_stp_r h (by omega)) (by rw [stp_H]; omega)
theorem x8_isLit_r {M : Mem} {L : Lan} (hC : RLn M 58 L) (hW : WFr L) {h : Nat} (hh : h < 32) : fX8_isLit (nI h) M = some (bI ((gL L).testBit h), M) := by
  have h3 : M 58 3 = nI (gL L) := hC.2.2.2.2.2.2.2.1
  have := hW.2.2.1
  unfold fX8_isLit
  simp (disch := omega) only [bde, bve, wme, ck_in, ck_b0, ck_b1, ck_bI, ix_nI, bI_0, bI_1, nI_1, lit_le, lit_lt, lit_eq, ↓reduceIte, ckl_4_56, ckl_0_56, ckl_3_56, ckl_1_56, ckl_5_56, ckl_2_56, ckl_1_2, ckl_0_2, ckl_0_256, ckl_0_8, ckl_33_34, ckl_32_34, ixl_0, ixl_1, ixl_2, ixl_3, ixl_4, ixl_5, ixl_8, ixl_10, ixl_32, ixl_33, ixl_40, h3, x8_has]
theorem x8_claimOf_r {M : Mem} {L : Lan} (hC : RLn M 58 L) (hW : WFr L) {p h : Nat} (hp : p < gN L) (hh : h < 100) : fX8_claimOf (nI p) (nI h) M = some (nI (claimN L p h), M) := by
  have hn8 := hW.1
  have hp8 : p < 8 := by omega
  obtain ⟨w1, w2, w3, -⟩ := hW.2.2.2.1 p hp8
  unfold fX8_claimOf claimN
  simp (disch := omega) only [bde, bve, wme, ck_in, ck_b0, ck_b1, ck_bI, ix_nI, bI_0, bI_1, nI_1, lit_le, lit_lt, lit_eq, ↓reduceIte, ckl_4_56, ckl_0_56, ckl_3_56, ckl_1_56, ckl_5_56, ckl_2_56, ckl_1_2, ckl_0_2, ckl_0_256, ckl_0_8, ckl_33_34, ckl_32_34, ixl_0, ixl_1, ixl_2, ixl_3, ixl_4, ixl_5, ixl_8, ixl_10, ixl_32, ixl_33, ixl_40, q0, le0, ge0, lt0, gt0, q1, le1, ge1, lt1, gt1, q2, le2, ge2, lt2, gt2, q3, le3, ge3, lt3, gt3, q4, le4, ge4, lt4, gt4, q5, le5, ge5, lt5, gt5, q6, le6, ge6, lt6, gt6, q7, le7, ge7, lt7, gt7, q8, le8, ge8, lt8, gt8, q9, le9, ge9, lt9, gt9, q10, le10, ge10, lt10, gt10, q12, le12, ge12, lt12, gt12, q15, le15, ge15, lt15, gt15, q16, le16, ge16, lt16, gt16, q20, le20, ge20, lt20, gt20, q40, le40, ge40, lt40, gt40, q50, le50, ge50, lt50, gt50, q56, le56, ge56, lt56, gt56, q99, le99, ge99, lt99, gt99, q120, le120, ge120, lt120, gt120, q121, le121, ge121, lt121, gt121, q97, le97, ge97, lt97, gt97, q122, le122, ge122, lt122, gt122, q48, le48, ge48, lt48, gt48, q57, le57, ge57, lt57, gt57, q32, le32, ge32, lt32, gt32, q59, le59, ge59, lt59, gt59, q65535, le65535, ge65535, lt65535, gt65535, q99999, le99999, ge99999, lt99999, gt99999, q100000, le100000, ge100000, lt100000, gt100000, q90000, le90000, ge90000, lt90000, gt90000, q1000000, le1000000, ge1000000, lt1000000, gt1000000, ad1, da1, mu1, ad2, da2, mu2, ad3, da3, mu3, ad4, da4, mu4, ad5, da5, mu5, ad8, da8, mu8, ad10, da10, mu10, ad16, da16, mu16, mu40, x8_Su hC hp8, x8_Sg hC hp8, x8_Kd hC hp8, irm_2]
  repeat' split
  all_goals first | rfl | (exfalso; omega) | contradiction | (rw [nI_add]) | (rw [div_2 (by omega)])
theorem x8_firstOf_r {M : Mem} {L : Lan} (hC : RLn M 58 L) (hW : WFr L) {p q h : Nat} (hp : p < gN L) (hq : q < gN L) (hh : h < 100) : fX8_firstOf (nI p) (nI q) (nI h) M = some (nI (firN L p q h), M) := by
  have hn := hW.1
  unfold fX8_firstOf firN
  have hmx : max p q < gN L := by omega
  have hmn : min p q < gN L := by omega
  have c1 := claimN_le_r hW (p := max p q) (by omega) h
  have c2 := claimN_le_r hW (p := min p q) (by omega) h
  simp (disch := omega) only [imin_nI, imax_nI, bve, x8_claimOf_r hC hW hmx hh, x8_claimOf_r hC hW hmn hh, bde, lit_le]
  split <;> rfl
theorem x8_hasShadow_r {M : Mem} {L : Lan} (hC : RLn M 58 L) (hW : WFr L) {p h : Nat} (hp : p < gN L) (hh : h < 32) : fX8_hasShadow (nI p) (nI h) M = some (bI (hasN L p h), M) := by
  have hn := hW.1
  have hm := (hW.2.2.2.2.1 p hp).1
  unfold fX8_hasShadow hasN
  simp (disch := omega) only [bde, bve, wme, ck_in, ck_b0, ck_b1, ck_bI, ix_nI, bI_0, bI_1, nI_1, lit_le, lit_lt, lit_eq, ↓reduceIte, ckl_4_56, ckl_0_56, ckl_3_56, ckl_1_56, ckl_5_56, ckl_2_56, ckl_1_2, ckl_0_2, ckl_0_256, ckl_0_8, ckl_33_34, ckl_32_34, ixl_0, ixl_1, ixl_2, ixl_3, ixl_4, ixl_5, ixl_8, ixl_10, ixl_32, ixl_33, ixl_40, x8_Mt hC (show p < 8 by omega), x8_isLit_r hC hW hh, mI_lt0]
  cases hl : (gL L).testBit h
  · simp [bI]
  · by_cases hm0 : gMt L p = 0
    · simp [hm0, bI]
    · obtain ⟨e1, e2⟩ := mI_mt_r hW hp hm0
      have hf := firN_or L p (gMt L p - 1) h
      rw [e1, x8_firstOf_r hC hW hp e2 (by omega), bde]
      by_cases hb : firN L p (gMt L p - 1) h = p
      · simp [hb, hm0, bI]
      · have : ¬ nI (firN L p (gMt L p - 1) h) = nI p := fun e => hb (nI_inj (by omega) (by omega) e)
        simp [hb, hm0, bI, this]
theorem x8_whoHave_L4_r {M : Mem} {L : Lan} (hC : RLn M 58 L) (hW : WFr L) {h : Nat} (hh : h < 32) : ∀ n p : Nat, p ≤ gN L → gN L - p < n → fX8_whoHave_L4 n (nI h) (nI (stN (fun q => hasN L q h) p)) (nI p) M = some (nI (havN L h), M) := by
  have hn8 := hW.1
  have h4 : M 58 4 = nI (gN L) := hC.2.2.2.2.2.2.1
  intro n
  induction n with
  | zero => intro p _ h; omega
  | succ n ih =>
    intro p hp hm
    rw [fX8_whoHave_L4]
    rcases Nat.lt_or_ge p (gN L) with hlt | hge
    · have hs := stN_lt (fun q => hasN L q h) p
      have hi := ih (p + 1) (by omega) (by omega)
      simp (disch := omega) only [bde, bve, wme, ck_in, ck_b0, ck_b1, ck_bI, ix_nI, bI_0, bI_1, nI_1, lit_le, lit_lt, lit_eq, ↓reduceIte, ckl_4_56, ckl_0_56, ckl_3_56, ckl_1_56, ckl_5_56, ckl_2_56, ckl_1_2, ckl_0_2, ckl_0_256, ckl_0_8, ckl_33_34, ckl_32_34, ixl_0, ixl_1, ixl_2, ixl_3, ixl_4, ixl_5, ixl_8, ixl_10, ixl_32, ixl_33, ixl_40, h4, Nat.not_le.mpr hlt, x8_hasShadow_r hC hW hlt hh, fX8_whoHave_L31, shl_1, nI_or, or_pow hs]
      rw [← hi]
      cases hb : hasN L p h
      · simp [stN, hb, nI_0', nI_or]
      · simp [stN, hb]
    · have he : p = gN L := by omega
      subst he
      simp (disch := omega) only [bde, bve, wme, ck_in, ck_b0, ck_b1, ck_bI, ix_nI, bI_0, bI_1, nI_1, lit_le, lit_lt, lit_eq, ↓reduceIte, ckl_4_56, ckl_0_56, ckl_3_56, ckl_1_56, ckl_5_56, ckl_2_56, ckl_1_2, ckl_0_2, ckl_0_256, ckl_0_8, ckl_33_34, ckl_32_34, ixl_0, ixl_1, ixl_2, ixl_3, ixl_4, ixl_5, ixl_8, ixl_10, ixl_32, ixl_33, ixl_40, h4, Nat.le_refl]
      rfl
theorem x8_whoHave_r {M : Mem} {L : Lan} (hC : RLn M 58 L) (hW : WFr L) {h : Nat} (hh : h < 32) : fX8_whoHave (nI h) M = some (nI (havN L h), M) := by
  have hn8 := hW.1
  exact x8_whoHave_L4_r hC hW hh fu 0 (Nat.zero_le _) (by show _ < 2000; omega)
theorem x8_isOver_r {M : Mem} {L : Lan} (hC : RLn M 58 L) (hW : WFr L) : fX8_isOver M = some (bI (decide (gH L = 16)), M) := by
  have h0 : M 58 0 = nI (gH L) := hC.2.2.2.2.2.2.2.2.1
  have := hW.2.1
  unfold fX8_isOver
  simp (disch := omega) only [bde, bve, wme, ck_in, ck_b0, ck_b1, ck_bI, ix_nI, bI_0, bI_1, nI_1, lit_le, lit_lt, lit_eq, ↓reduceIte, ckl_4_56, ckl_0_56, ckl_3_56, ckl_1_56, ckl_5_56, ckl_2_56, ckl_1_2, ckl_0_2, ckl_0_256, ckl_0_8, ckl_33_34, ckl_32_34, ixl_0, ixl_1, ixl_2, ixl_3, ixl_4, ixl_5, ixl_8, ixl_10, ixl_32, ixl_33, ixl_40, h0, q16]
  by_cases h : gH L = 16
  · simp [h, bI]
  · simp [h, bI]
theorem x8_h106_r {k15 : Int32 → Int32 → Int32 → Mem → Option (Unit × Mem)} {M : Mem} {p s : Nat} {L : Lan} {c2 : Bool} {X : Lan} (hX : X = sMe (parN L p) (gMe (parN L p) + bI (metA L p))) (hC : RLn M 58 X) (hW : WFr L) (hp : p < gN L) (hh : gH L < 16) (hs : s < 2 ^ 31) (hc : c2 = misA L p) (he : litN L = true → s.testBit p = hasN L p (gH L)) :
    ∃ M1, fX8_hour_L106 k15 (nI (gH L)) (nI s) (nI p) (bI c2) (M 58 2) M = k15 (nI (gH L)) (nI s) (nI (p + 1)) M1 ∧ RLn M1 58 (parN L (p + 1)) ∧ Sr M M1 := by
  have hn8 := hW.1
  have hsu := (hW.2.2.2.1 p (by omega)).2.1
  have h2 : M 58 2 = gMs (parN L p) := by rw [hC.2.2.2.2.2.2.2.2.2.2.1, hX]; rfl
  have hM1 : RLn (wr M 58 2 (M 58 2 + bI c2)) 58 (midN L p) := by
    rw [mid_b, ← hX, h2, hc]
    exact rl_Ms hC _
  have hWm : WFr (midN L p) := by
    have h := wf_par_r hW p
    rw [mid_b]
    exact h
  have e1 : gSu (midN L p) p = gSu L p := by rw [mid_b]; show gSu (parN L p) p = _; rw [par_Su, sunF_k]
  have e2 : gL (midN L p) = gL L := by rw [mid_b]; exact par_L L p
  obtain ⟨M1, f1, c1, s1⟩ := x8_h166 (k15 := k15) (y1 := nI (gH L)) (y2 := nI s) hM1 (show p < 8 by omega)
  refine ⟨M1, ?_, c1, Sr.wr.tr s1⟩
  rw [← f1]
  unfold fX8_hour_L106
  have hlit : litN L = (gL L).testBit (gH L) := rfl
  simp (disch := omega) only [bde, bve, wme, ck_in, ck_b0, ck_b1, ck_bI, ix_nI, bI_0, bI_1, nI_1, lit_le, lit_lt, lit_eq, ↓reduceIte, ckl_4_56, ckl_0_56, ckl_3_56, ckl_1_56, ckl_5_56, ckl_2_56, ckl_1_2, ckl_0_2, ckl_0_256, ckl_0_8, ckl_33_34, ckl_32_34, ixl_0, ixl_1, ixl_2, ixl_3, ixl_4, ixl_5, ixl_8, ixl_10, ixl_32, ixl_33, ixl_40, x8_Su hM1 (show p < 8 by omega), x8_at1, x8_isLit_r hM1 hWm (show gH L < 32 by omega), e1, e2, x8_has]
  rw [← hlit]
  cases hl : litN L
  · simp [sunA, hl]
  · have he := he hl
    rw [he]
    simp only [reduceCtorEq, ↓reduceIte]
    cases hb : hasN L p (gH L)
    · have e : imin 99 (nI (gSu L p + 1)) = nI (min 99 (gSu L p + 1)) := imin_nI (a := 99) (by decide) (by omega)
      simp [e, sunA, hl, hb]
    · have e : imax 0 (nI (gSu L p) - 1) = nI (gSu L p - 1) := by
        rcases Nat.eq_zero_or_pos (gSu L p) with h0 | h0
        · rw [h0]; decide
        · rw [sb1 h0]
          have := imax_nI (a := 0) (b := gSu L p - 1) (by decide) (by omega)
          rw [Nat.max_eq_right (Nat.zero_le _)] at this
          exact this
      simp [e, sunA, hl, hb]
theorem x8_h58_r {k15 : Int32 → Int32 → Int32 → Mem → Option (Unit × Mem)} {M : Mem} {p s : Nat} {L : Lan} (hC : RLn M 58 (parN L p)) (hW : WFr L) (hp : p < gN L) (hh : gH L < 16) (hs : s < 2 ^ 31) (he : litN L = true → s.testBit p = hasN L p (gH L)) (sv : Bool) (hv : sv = (!litN L || hasN L p (gH L))) :
    ∃ M1, fX8_hour_L58 k15 (nI (gH L)) (nI s) (nI p) (bI ((gNd L p).testBit (gH L))) (bI sv) M = k15 (nI (gH L)) (nI s) (nI (p + 1)) M1 ∧ RLn M1 58 (parN L (p + 1)) ∧ Sr M M1 := by
  have h1 : M 58 1 = gMe (parN L p) := hC.2.2.2.2.2.2.2.2.2.1
  have hm : metA L p = ((gNd L p).testBit (gH L) && sv) := by rw [hv]; rfl
  have hs2 : misA L p = ((gNd L p).testBit (gH L) && !sv) := by rw [hv]; rfl
  have hM1 : RLn (wr M 58 1 (M 58 1 + bI (metA L p))) 58 (sMe (parN L p) (gMe (parN L p) + bI (metA L p))) := by
    rw [h1]
    exact rl_Me hC _
  obtain ⟨M1, f1, c1, s1⟩ := x8_h106_r (k15 := k15) (c2 := misA L p) rfl hM1 hW hp hh hs rfl he
  refine ⟨M1, ?_, c1, Sr.wr.tr s1⟩
  rw [← f1, hm, hs2]
  unfold fX8_hour_L58
  cases (gNd L p).testBit (gH L) <;> cases sv <;> simp [bI, fX8_hour_L81, fX8_hour_L82, fX8_hour_L105, ckl_1_56, ckl_2_56, wme, ixl_1, ixl_2]
theorem x8_h15_r {L : Lan} {s : Nat} (hW : WFr L) (hh : gH L < 16) (hs : s < 2 ^ 31) (he : litN L = true → ∀ p, p < gN L → s.testBit p = hasN L p (gH L)) : ∀ (n p : Nat) (M : Mem), RLn M 58 (parN L p) → p ≤ gN L → gN L - p < n →
    ∃ M1, fX8_hour_L15 n (nI (gH L)) (nI s) (nI p) M = some ((), M1) ∧ RLn M1 58 (stpN L) ∧ Sr M M1 := by
  have hn8 := hW.1
  intro n
  induction n with
  | zero => intro p M _ _ h; omega
  | succ n ih =>
    intro p M hC hp hm
    rw [fX8_hour_L15]
    have h4 : M 58 4 = nI (gN L) := by rw [hC.2.2.2.2.2.2.1, par_N]
    have h0 : M 58 0 = nI (gH L) := by rw [hC.2.2.2.2.2.2.2.2.1, par_H]
    rcases Nat.lt_or_ge p (gN L) with hlt | hge
    · have hp8 : p < 8 := by omega
      have hnd := (hW.2.2.2.1 p hp8).2.2.2
      have hWp := wf_par_r hW p
      obtain ⟨M1, e1, c1, s1⟩ := x8_h58_r (k15 := fX8_hour_L15 n) hC hW hlt hh hs (fun h => he h p hlt) (!litN L || hasN L p (gH L)) rfl
      obtain ⟨M2, e2, c2, s2⟩ := ih (p + 1) M1 c1 hlt (by omega)
      refine ⟨M2, ?_, c2, s1.tr s2⟩
      rw [← e2, ← e1]
      simp (disch := omega) only [bde, bve, wme, ck_in, ck_b0, ck_b1, ck_bI, ix_nI, bI_0, bI_1, nI_1, lit_le, lit_lt, lit_eq, ↓reduceIte, ckl_4_56, ckl_0_56, ckl_3_56, ckl_1_56, ckl_5_56, ckl_2_56, ckl_1_2, ckl_0_2, ckl_0_256, ckl_0_8, ckl_33_34, ckl_32_34, ixl_0, ixl_1, ixl_2, ixl_3, ixl_4, ixl_5, ixl_8, ixl_10, ixl_32, ixl_33, ixl_40, h4, Nat.not_le.mpr hlt, x8_Nd hC hp8, par_Nd, x8_has, x8_isLit_r hC hWp (show gH L < 32 by omega), par_L]
      have hlit : litN L = (gL L).testBit (gH L) := rfl
      rw [← hlit]
      cases hl : litN L
      · simp [bI, fX8_hour_L53]
      · rw [he hl p hlt]
        cases hasN L p (gH L) <;> simp [bI, fX8_hour_L53]
    · have hpe : p = gN L := by omega
      subst hpe
      refine ⟨wr M 58 0 (M 58 0 + 1), ?_, ?_, Sr.wr⟩
      · simp (disch := omega) only [bde, bve, wme, ck_in, ck_b0, ck_b1, ck_bI, ix_nI, bI_0, bI_1, nI_1, lit_le, lit_lt, lit_eq, ↓reduceIte, ckl_4_56, ckl_0_56, ckl_3_56, ckl_1_56, ckl_5_56, ckl_2_56, ckl_1_2, ckl_0_2, ckl_0_256, ckl_0_8, ckl_33_34, ckl_32_34, ixl_0, ixl_1, ixl_2, ixl_3, ixl_4, ixl_5, ixl_8, ixl_10, ixl_32, ixl_33, ixl_40, h4, Nat.le_refl]
      · rw [h0, nI_1]
        exact rl_H hC _
theorem x8_hour_r {L : Lan} {M : Mem} (hC : RLn M 58 L) (hW : WFr L) (hh : gH L < 16) : ∃ M1, fX8_hour M = some ((), M1) ∧ RLn M1 58 (stpN L) ∧ Sr M M1 := by
  have hn8 := hW.1
  have h0 : M 58 0 = nI (gH L) := hC.2.2.2.2.2.2.2.2.1
  have hb := stN_lt (fun p => hasN L p (gH L)) (gN L)
  have hb2 : 2 ^ gN L ≤ 2 ^ 8 := Nat.pow_le_pow_right (by decide) hn8
  have hs : havN L (gH L) < 2 ^ 31 := by unfold havN; omega
  obtain ⟨M1, e1, c1, s1⟩ := x8_h15_r (s := havN L (gH L)) hW hh hs (fun _ p hp => by unfold havN; rw [stN_tb]; simp [hp]) fu 0 M hC (Nat.zero_le _) (by show _ < 2000; omega)
  refine ⟨M1, ?_, c1, s1⟩
  rw [← e1]
  unfold fX8_hour
  simp (disch := omega) only [bde, bve, wme, ck_in, ck_b0, ck_b1, ck_bI, ix_nI, bI_0, bI_1, nI_1, lit_le, lit_lt, lit_eq, ↓reduceIte, ckl_4_56, ckl_0_56, ckl_3_56, ckl_1_56, ckl_5_56, ckl_2_56, ckl_1_2, ckl_0_2, ckl_0_256, ckl_0_8, ckl_33_34, ckl_32_34, ixl_0, ixl_1, ixl_2, ixl_3, ixl_4, ixl_5, ixl_8, ixl_10, ixl_32, ixl_33, ixl_40, h0, x8_whoHave_r hC hW (show gH L < 32 by omega)]
  rfl
theorem x8_fr21_r {L : Lan} (hW : WFr L) {p : Nat} (hp : p < gN L) : ∀ (n h : Nat) (M : Mem), gH L ≤ h → h ≤ 16 → 16 - h < n → RLn M 58 (hrsN (h - gH L) L) → RLn M 60 L → M 57 5 = nI (stN (svB L p) h) → M 57 6 = nI (stN (shB L p) h) →
    ∃ M1, fX8_findRest_L21 n (nI p) M = some ((), M1) ∧ RLn M1 58 L ∧ M1 57 5 = nI (srvN L p) ∧ M1 57 6 = nI (shdN L p) ∧ M1 57 7 = nI (metR L p) ∧ M1 57 8 = nI (gSu (hrsN (16 - gH L) L) p) ∧ FR M M1 := by
  have hn8 := hW.1
  have hp8 : p < 8 := by omega
  have hnd := (hW.2.2.2.1 p hp8).2.2.2
  intro n
  induction n with
  | zero => intro h M _ _ h3; omega
  | succ n ih =>
    intro h M hg hh hn hC h60 h5 h6
    rw [fX8_findRest_L21]
    have hH : gH (hrsN (h - gH L) L) = h := by rw [hrs_H]; omega
    have hWh : WFr (hrsN (h - gH L) L) := wf_hrs_r _ L hW (by omega)
    have hpk : p < gN (hrsN (h - gH L) L) := by rw [hrs_N]; exact hp
    have h0 : M 58 0 = nI h := by have := hC.2.2.2.2.2.2.2.2.1; rw [hH] at this; exact this
    rcases Nat.lt_or_ge h 16 with hlt | hge
    · have h16 : ¬ h = 16 := by omega
      have hpw : 2 ^ h < 2 ^ 16 := Nat.pow_lt_pow_right (by decide) hlt
      have hs1 := stN_lt (svB L p) h
      have hs2 := stN_lt (shB L p) h
      have hsh : shB L p h = hasN (hrsN (h - gH L) L) p h := by simp [shB, hg]
      have hstp : stpN (hrsN (h - gH L) L) = hrsN (h + 1 - gH L) L := by rw [← hrs_s]; congr 1; omega
      -- what comes of L105, whatever the bit
      have fin : ∀ (M2 : Mem) (w : Nat) (sv : Bool), RLn M2 58 (hrsN (h - gH L) L) → RLn M2 60 L → M2 57 6 = nI (stN (shB L p) (h + 1)) → sv = svB L p h → w = (if sv = true then 2 ^ h else 0) → FR M M2 →
          ∃ M1, fX8_findRest_L105 (fX8_findRest_L21 n) (nI p) (nI w) (nI (stN (svB L p) h)) M2 = some ((), M1) ∧ RLn M1 58 L ∧ M1 57 5 = nI (srvN L p) ∧ M1 57 6 = nI (shdN L p) ∧ M1 57 7 = nI (metR L p) ∧ M1 57 8 = nI (gSu (hrsN (16 - gH L) L) p) ∧ FR M M1 := by
        intro M2 w sv c2 d2 e2 hsv hw f2
        have hor : stN (svB L p) h ||| w = stN (svB L p) (h + 1) := by
          show _ = stN (svB L p) h + _
          rw [← hsv, hw]
          cases sv
          · simp
          · simp only [↓reduceIte]; exact or_pow hs1
        obtain ⟨M3, e3, c3, s3⟩ := x8_hour_r (M := wr M2 57 5 (nI (stN (svB L p) (h + 1)))) (rl_same c2 (wr_n _ _ _ _ (by decide))) hWh (by omega)
        rw [hstp] at c3
        obtain ⟨M4, e4, a4, b4, c4, d4, g4, f4⟩ := ih (h + 1) M3 (by omega) (by omega) (by omega) c3 (rl_same d2 (by rw [s3 60 (by decide), wr_n _ _ _ _ (by decide)])) (by rw [s3 57 (by decide), wr_app, if_pos rfl, if_pos rfl]) (by rw [s3 57 (by decide), wr_app, if_pos rfl, if_neg (by decide)]; exact e2)
        refine ⟨M4, ?_, a4, b4, c4, d4, g4, ((f2.tr (FR.f57 (by decide))).tr (FR.of s3)).tr f4⟩
        unfold fX8_findRest_L105
        simp only [nI_or, hor, wme, e3, bde, e4]
      simp (disch := omega) only [bde, bve, wme, ck_in, ck_b0, ck_b1, ck_bI, ix_nI, bI_0, bI_1, nI_1, lit_le, lit_lt, lit_eq, ↓reduceIte, ckl_4_56, ckl_0_56, ckl_3_56, ckl_1_56, ckl_5_56, ckl_2_56, ckl_1_2, ckl_0_2, ckl_0_256, ckl_0_8, ckl_33_34, ckl_32_34, ixl_0, ixl_1, ixl_2, ixl_3, ixl_4, ixl_5, ixl_8, ixl_10, ixl_32, ixl_33, ixl_40, x8_isOver_r hC hWh, hH, h16, decide_false, h0, shl_1, x8_hasShadow_r hC hWh hpk (show h < 32 by omega)]
      rw [← hsh]
      have hsv : svB L p h = (!(gNd L p).testBit h || !(gL L).testBit h || shB L p h) := by simp [svB, hg]
      cases hb : shB L p h
      · have o6 : stN (shB L p) h ||| 0 = stN (shB L p) (h + 1) := by simp [stN, hb]
        simp only [reduceCtorEq, ↓reduceIte]
        unfold fX8_findRest_L63
        have z6 : nI (stN (shB L p) h) ||| 0 = nI (stN (shB L p) (h + 1)) := by rw [nI_0', nI_or, o6]
        rw [h6, z6]
        have cX : RLn (wr M 57 6 (nI (stN (shB L p) (h + 1)))) 58 (hrsN (h - gH L) L) := rl_same hC (wr_n _ _ _ _ (by decide))
        have dX : RLn (wr M 57 6 (nI (stN (shB L p) (h + 1)))) 60 L := rl_same h60 (wr_n _ _ _ _ (by decide))
        have g0 : wr M 57 6 (nI (stN (shB L p) (h + 1))) 58 0 = nI h := by rw [wr_n _ _ _ _ (by decide)]; exact h0
        have g5 : wr M 57 6 (nI (stN (shB L p) (h + 1))) 57 5 = nI (stN (svB L p) h) := by rw [wr_app, if_pos rfl, if_neg (by decide)]; exact h5
        have g6 : wr M 57 6 (nI (stN (shB L p) (h + 1))) 57 6 = nI (stN (shB L p) (h + 1)) := by rw [wr_app, if_pos rfl, if_pos rfl]
        have nd8 := x8_Nd cX hp8
        rw [hrs_Nd] at nd8
        have li := x8_isLit_r cX hWh (show h < 32 by omega)
        rw [hrs_L] at li
        simp (disch := omega) only [bde, bve, wme, ck_in, ck_b0, ck_b1, ck_bI, ix_nI, bI_0, bI_1, nI_1, lit_le, lit_lt, lit_eq, ↓reduceIte, ckl_4_56, ckl_0_56, ckl_3_56, ckl_1_56, ckl_5_56, ckl_2_56, ckl_1_2, ckl_0_2, ckl_0_256, ckl_0_8, ckl_33_34, ckl_32_34, ixl_0, ixl_1, ixl_2, ixl_3, ixl_4, ixl_5, ixl_8, ixl_10, ixl_32, ixl_33, ixl_40, g0, li, nd8, nI_and, and_pow, g5]
        rw [hb] at hsv
        have F := FR.f57 (M := M) (i := 6) (v := nI (stN (shB L p) (h + 1))) (by decide)
        cases hl : (gL L).testBit h
        · simp only [↓reduceIte, fX8_findRest_L100]
          exact fin _ (2 ^ h) true cX dX g6 (by rw [hsv, hl]; simp) rfl F
        · cases hd : (gNd L p).testBit h
          · simp only [reduceCtorEq, ↓reduceIte, fX8_findRest_L100]
            exact fin _ (2 ^ h) true cX dX g6 (by rw [hsv, hd]; simp) rfl F
          · have hz : ¬ (2 ^ h = 0) := by have := Nat.two_pow_pos h; omega
            simp (disch := omega) only [reduceCtorEq, ↓reduceIte, q0, hz]
            exact fin _ 0 false cX dX g6 (by rw [hsv, hl, hd]; rfl) rfl F
      · have o6 : stN (shB L p) h ||| 2 ^ h = stN (shB L p) (h + 1) := by rw [or_pow hs2]; simp [stN, hb]
        simp only [reduceCtorEq, ↓reduceIte]
        unfold fX8_findRest_L63
        rw [h6, nI_or, o6]
        have cX : RLn (wr M 57 6 (nI (stN (shB L p) (h + 1)))) 58 (hrsN (h - gH L) L) := rl_same hC (wr_n _ _ _ _ (by decide))
        have dX : RLn (wr M 57 6 (nI (stN (shB L p) (h + 1)))) 60 L := rl_same h60 (wr_n _ _ _ _ (by decide))
        have g5 : wr M 57 6 (nI (stN (shB L p) (h + 1))) 57 5 = nI (stN (svB L p) h) := by rw [wr_app, if_pos rfl, if_neg (by decide)]; exact h5
        have g6 : wr M 57 6 (nI (stN (shB L p) (h + 1))) 57 6 = nI (stN (shB L p) (h + 1)) := by rw [wr_app, if_pos rfl, if_pos rfl]
        simp only [wme, bI_0, reduceCtorEq, ↓reduceIte, g5, fX8_findRest_L100]
        exact fin _ (2 ^ h) true cX dX g6 (by rw [hsv, hb]; simp) rfl (FR.f57 (by decide))
    · have he : h = 16 := by omega
      subst he
      have su8 := x8_Su hC hp8
      have hM1 : RLn (wr M 57 8 (nI (gSu (hrsN (16 - gH L) L) p))) 58 (hrsN (16 - gH L) L) := rl_same hC (wr_n _ _ _ _ (by decide))
      have nd8 := x8_Nd hM1 hp8
      rw [hrs_Nd] at nd8
      have g5 : wr M 57 8 (nI (gSu (hrsN (16 - gH L) L) p)) 57 5 = nI (srvN L p) := by rw [wr_app, if_pos rfl, if_neg (by decide)]; exact h5
      have hpc : pcN (srvN L p &&& gNd L p) = metR L p := by rw [Nat.and_comm]; exact pc_and hnd
      have hlt : srvN L p &&& gNd L p < 65536 := by rw [Nat.and_comm]; exact and_lt hnd
      obtain ⟨M3, e3, a3, s3⟩ := x8_copyRow (d1 := 60) (d2 := 58) (by decide) (wr (wr M 57 8 (nI (gSu (hrsN (16 - gH L) L) p))) 57 7 (nI (metR L p)))
      refine ⟨M3, ?_, rl_copy (M := wr (wr M 57 8 (nI (gSu (hrsN (16 - gH L) L) p))) 57 7 (nI (metR L p))) (rl_same h60 (by rw [wr_n _ _ _ _ (by decide), wr_n _ _ _ _ (by decide)])) a3, ?_, ?_, ?_, ?_, ?_⟩
      · simp (disch := omega) only [bde, bve, wme, ck_in, ck_b0, ck_b1, ck_bI, ix_nI, bI_0, bI_1, nI_1, lit_le, lit_lt, lit_eq, ↓reduceIte, ckl_4_56, ckl_0_56, ckl_3_56, ckl_1_56, ckl_5_56, ckl_2_56, ckl_1_2, ckl_0_2, ckl_0_256, ckl_0_8, ckl_33_34, ckl_32_34, ixl_0, ixl_1, ixl_2, ixl_3, ixl_4, ixl_5, ixl_8, ixl_10, ixl_32, ixl_33, ixl_40, x8_isOver_r hC hWh, hH, decide_true, reduceCtorEq, su8, nd8, g5, nI_and, x8_bits, hlt, hpc, e3]
      · rw [s3 57 (by decide), wr_app, if_pos rfl, if_neg (by decide)]; exact g5
      · rw [s3 57 (by decide), wr_app, if_pos rfl, if_neg (by decide), wr_app, if_pos rfl, if_neg (by decide)]; exact h6
      · rw [s3 57 (by decide), wr_app, if_pos rfl, if_pos rfl]
      · rw [s3 57 (by decide), wr_app, if_pos rfl, if_neg (by decide), wr_app, if_pos rfl, if_pos rfl]
      · exact ((FR.f57 (by decide)).tr (FR.f57 (by decide))).tr (FR.row (by decide) s3)
theorem x8_findRest_r {M : Mem} {L : Lan} (hC : RLn M 58 L) (hW : WFr L) {p : Nat} (hp : p < gN L) :
    ∃ M1, fX8_findRest (nI p) M = some ((), M1) ∧ RLn M1 58 L ∧ M1 57 5 = nI (srvN L p) ∧ M1 57 6 = nI (shdN L p) ∧ M1 57 7 = nI (metR L p) ∧ M1 57 8 = nI (gSu (hrsN (16 - gH L) L) p) ∧ FR M M1 := by
  have hh := hW.2.1
  obtain ⟨M1, e1, a1, s1⟩ := x8_copyRow (d1 := 58) (d2 := 60) (by decide) M
  have c1 : RLn M1 58 L := rl_same hC (s1 58 (by decide))
  have d1 : RLn M1 60 L := rl_copy hC a1
  have z1 : stN (svB L p) (gH L) = 0 := st_below (fun k hk => by simp [svB, Nat.not_le.mpr hk])
  have z2 : stN (shB L p) (gH L) = 0 := st_below (fun k hk => by simp [shB, Nat.not_le.mpr hk])
  obtain ⟨M2, e2, a2, b2, c2, d2, g2, f2⟩ := x8_fr21_r hW hp fu (gH L) (wr (wr M1 57 5 0) 57 6 0) (Nat.le_refl _) hh (by show _ < 2000; omega)
    (by rw [Nat.sub_self]; exact rl_same c1 (by rw [wr_n _ _ _ _ (by decide), wr_n _ _ _ _ (by decide)])) (rl_same d1 (by rw [wr_n _ _ _ _ (by decide), wr_n _ _ _ _ (by decide)]))
    (by rw [z1, wr_app, if_pos rfl, if_neg (by decide), wr_app, if_pos rfl, if_pos rfl]; rfl) (by rw [z2, wr_app, if_pos rfl, if_pos rfl]; rfl)
  refine ⟨M2, ?_, a2, b2, c2, d2, g2, (((FR.row (by decide) s1).tr (FR.f57 (by decide))).tr (FR.f57 (by decide))).tr f2⟩
  unfold fX8_findRest
  simp only [e1, bde, wme, e2]

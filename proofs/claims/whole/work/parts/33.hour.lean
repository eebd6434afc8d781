/-! an hour goes by -/
def litN (L : Lan) : Bool := (gL L).testBit (gH L)
def sunA (L : Lan) (p : Nat) : Nat := if litN L = true then (if hasN L p (gH L) = true then gSu L p - 1 else min 99 (gSu L p + 1)) else gSu L p
def metA (L : Lan) (p : Nat) : Bool := (gNd L p).testBit (gH L) && (!litN L || hasN L p (gH L))
def misA (L : Lan) (p : Nat) : Bool := (gNd L p).testBit (gH L) && !(!litN L || hasN L p (gH L))
def sunF (L : Lan) (k : Nat) : Nat → Nat := fun j => if j < k then sunA L j else gSu L j
/-- the counters of one person; then the sun -/
def midP (L P : Lan) (p : Nat) : Lan := sMs (sMe P (if metA L p = true then gMe P + 1 else gMe P)) (if misA L p = true then gMs P + 1 else gMs P)
def parN (L : Lan) : Nat → Lan
  | 0 => L
  | k + 1 => sSu (midP L (parN L k) k) (uf (gSu (parN L k)) k (sunA L k))
def midN (L : Lan) (k : Nat) : Lan := midP L (parN L k) k
def stpN (L : Lan) : Lan := sH (parN L (gN L)) (gH L + 1)
theorem sMs_id (P : Lan) (v : Int32) : sMs (sMe P v) (gMs P) = sMe P v := rfl
theorem sMe_id (P : Lan) : sMe P (gMe P) = P := rfl
theorem sSu_id (P : Lan) : sSu P (gSu P) = P := rfl
theorem mid_m {L : Lan} {p : Nat} (h1 : metA L p = true) (h2 : misA L p = false) : midN L p = sMe (parN L p) (gMe (parN L p) + 1) := by
  unfold midN midP
  rw [h1, h2, if_pos rfl, if_neg (by decide), sMs_id]
theorem mid_s {L : Lan} {p : Nat} (h1 : metA L p = false) (h2 : misA L p = true) : midN L p = sMs (parN L p) (gMs (parN L p) + 1) := by
  unfold midN midP
  rw [h1, h2, if_pos rfl, if_neg (by decide), sMe_id]
theorem mid_0 {L : Lan} {p : Nat} (h1 : metA L p = false) (h2 : misA L p = false) : midN L p = parN L p := by
  unfold midN midP
  rw [h1, h2, if_neg (by decide), if_neg (by decide), sMs_id, sMe_id]
theorem par_Su (L : Lan) (k : Nat) : gSu (parN L k) = sunF L k := by
  induction k with
  | zero => funext j; simp [sunF, parN]
  | succ k ih =>
    show uf (gSu (parN L k)) k (sunA L k) = _
    rw [ih]
    funext j
    unfold uf sunF
    by_cases h : j = k
    · rw [if_pos h, if_pos (by omega), h]
    · rw [if_neg h]
      by_cases h2 : j < k
      · rw [if_pos h2, if_pos (by omega)]
      · rw [if_neg h2, if_neg (by omega)]
theorem sunF_k (L : Lan) (k : Nat) : sunF L k k = gSu L k := by simp [sunF]
theorem par_0 (L : Lan) : parN L 0 = L := rfl
theorem par_Kd (L : Lan) (k : Nat) : gKd (parN L k) = gKd L := by
  induction k with
  | zero => rfl
  | succ k ih => exact ih
theorem par_Sg (L : Lan) (k : Nat) : gSg (parN L k) = gSg L := by
  induction k with
  | zero => rfl
  | succ k ih => exact ih
theorem par_Nd (L : Lan) (k : Nat) : gNd (parN L k) = gNd L := by
  induction k with
  | zero => rfl
  | succ k ih => exact ih
theorem par_Mt (L : Lan) (k : Nat) : gMt (parN L k) = gMt L := by
  induction k with
  | zero => rfl
  | succ k ih => exact ih
theorem par_Sp (L : Lan) (k : Nat) : gSp (parN L k) = gSp L := by
  induction k with
  | zero => rfl
  | succ k ih => exact ih
theorem par_N (L : Lan) (k : Nat) : gN (parN L k) = gN L := by
  induction k with
  | zero => rfl
  | succ k ih => exact ih
theorem par_H (L : Lan) (k : Nat) : gH (parN L k) = gH L := by
  induction k with
  | zero => rfl
  | succ k ih => exact ih
theorem par_L (L : Lan) (k : Nat) : gL (parN L k) = gL L := by
  induction k with
  | zero => rfl
  | succ k ih => exact ih
theorem par_Dr (L : Lan) (k : Nat) : gDr (parN L k) = gDr L := by
  induction k with
  | zero => rfl
  | succ k ih => exact ih
theorem mid_par (L : Lan) (k : Nat) : sSu (midN L k) (uf (gSu (midN L k)) k (sunA L k)) = parN L (k + 1) := rfl
theorem mid_par0 (L : Lan) (k : Nat) (h : litN L = false) : midN L k = parN L (k + 1) := by
  rw [← mid_par L k]
  have e : uf (gSu (midN L k)) k (sunA L k) = gSu (midN L k) := by
    show uf (gSu (parN L k)) k (sunA L k) = gSu (parN L k)
    rw [par_Su]
    funext j
    unfold uf
    by_cases hj : j = k
    · rw [if_pos hj, hj, sunF_k]
      simp [sunA, h]
    · rw [if_neg hj]
  rw [e, sSu_id]
theorem wf_par {L : Lan} (hW : WF L) (k : Nat) : WF (parN L k) := by
  obtain ⟨a1, a2, a3, a4, a5, a6⟩ := hW
  unfold WF
  rw [par_N, par_H, par_L, par_Kd, par_Su, par_Sg, par_Nd, par_Mt, par_Sp]
  refine ⟨a1, a2, a3, fun i hi => ?_, a5, a6⟩
  obtain ⟨b1, b2, b3, b4⟩ := a4 i hi
  refine ⟨b1, ?_, b3, b4⟩
  unfold sunF sunA
  repeat' split
  all_goals omega
theorem wf_H {L : Lan} (hW : WF L) {h : Nat} (hh : h ≤ 16) : WF (sH L h) := by
  obtain ⟨a1, a2, a3, a4, a5, a6⟩ := hW
  exact ⟨a1, hh, a3, a4, a5, a6⟩
theorem wf_stp {L : Lan} (hW : WF L) (h : gH L < 16) : WF (stpN L) := wf_H (wf_par hW _) (by omega)
theorem stp_H (L : Lan) : gH (stpN L) = gH L + 1 := rfl
/-- only the land's own cells -/
def Sm (b : Nat) (M M' : Mem) : Prop := ∀ k, (k < b ∨ b + 6 < k) → M' k = M k
theorem Sm.rf {b : Nat} {M : Mem} : Sm b M M := fun _ _ => rfl
theorem Sm.tr {b : Nat} {M M1 M2 : Mem} (h1 : Sm b M M1) (h2 : Sm b M1 M2) : Sm b M M2 := fun k hk => (h2 k hk).trans (h1 k hk)
theorem Sm.wr {b c i : Nat} {M : Mem} {v : Int32} (h1 : b ≤ c) (h2 : c ≤ b + 6) : Sm b M (wr M c i v) := fun k hk => wr_n M c i v (by omega)
theorem x1_ph45 {k23 : Int32 → Int32 → Int32 → Mem → Option (Unit × Mem)} {M : Mem} {b p : Nat} {y1 : Int32} {L : Lan} (hC : CLn M b (parN L p)) (hW : WF L) (hh : gH L < 16) (hp : p < gN L) (has : Bool) (he : litN L = true → has = hasN L p (gH L)) :
    ∃ M1, fX1_passHour_L45 b k23 y1 (bI (litN L)) (nI p) (bI has) M = fX1_passHour_L82 b k23 y1 (bI (litN L)) (nI p) (bI has) M1 ∧ CLn M1 b (midN L p) ∧ Sm b M M1 := by
  have hn8 := hW.1
  have hnd := (hW.2.2.2.1 p (by omega)).2.2.2
  have h4 : M (b + 4) p = nI (gNd L p) := by rw [hC.2.2.2.1 p (by omega), par_Nd]
  have h9 : M b 8 = nI (gH L) := by rw [hC.2.2.2.2.2.2.2.2.1, par_H]
  have h10 : M b 9 = gMe (parN L p) := hC.2.2.2.2.2.2.2.2.2.1
  have h11 : M b 10 = gMs (parN L p) := hC.2.2.2.2.2.2.2.2.2.2.1
  have hm : metA L p = ((gNd L p).testBit (gH L) && (!litN L || has)) := by
    unfold metA
    cases hl : litN L
    · rfl
    · rw [he hl]
  have hs : misA L p = ((gNd L p).testBit (gH L) && !(!litN L || has)) := by
    unfold misA
    cases hl : litN L
    · rfl
    · rw [he hl]
  unfold fX1_passHour_L45
  simp (disch := omega) only [bde, bve, wme, ck_in, ck_b0, ck_b1, ck_bI, ix_nI, bI_0, bI_1, nI_1, lit_le, lit_lt, lit_eq, ↓reduceIte, ckl_4_56, ckl_0_56, ckl_3_56, ckl_1_56, ckl_5_56, ckl_2_56, ckl_1_2, ckl_0_2, ckl_0_256, ckl_0_8, ckl_33_34, ckl_32_34, ixl_0, ixl_1, ixl_2, ixl_3, ixl_4, ixl_5, ixl_8, ixl_10, ixl_32, ixl_33, ixl_40, h4, h9, x7_bit]
  cases hb : (gNd L p).testBit (gH L)
  · rw [hb] at hm hs
    rw [if_neg (by decide)]
    refine ⟨M, rfl, ?_, Sm.rf⟩
    rw [mid_0 (by rw [hm]; rfl) (by rw [hs]; rfl)]
    exact hC
  · rw [hb] at hm hs
    rw [if_pos rfl]
    have met : metA L p = true → misA L p = false → ∃ M1, fX1_passHour_L74 b k23 y1 (bI (litN L)) (nI p) (bI has) M = fX1_passHour_L82 b k23 y1 (bI (litN L)) (nI p) (bI has) M1 ∧ CLn M1 b (midN L p) ∧ Sm b M M1 := by
      intro e1 e2
      refine ⟨wr M b 9 (M b 9 + 1), ?_, ?_, Sm.wr (by omega) (by omega)⟩
      · simp only [fX1_passHour_L74, fX1_passHour_L79, fX1_tally, wme, bde]
        rfl
      · rw [mid_m e1 e2, h10]
        exact cl_Me hC _
    cases hl : litN L
    · rw [hl] at hm hs
      rw [hl] at met
      have met := met (by rw [hm]; rfl) (by rw [hs]; rfl)
      cases has
      · simpa [bI] using met
      · simpa [bI] using met
    · rw [hl] at hm hs
      rw [hl] at met
      cases has
      · have e1 : metA L p = false := by rw [hm]; rfl
        have e2 : misA L p = true := by rw [hs]; rfl
        refine ⟨wr M b 10 (M b 10 + 1), ?_, ?_, Sm.wr (by omega) (by omega)⟩
        · simp [bI, fX1_passHour_L79, fX1_tally, wme, bde]
        · rw [mid_s e1 e2, h11]
          exact cl_Ms hC _
      · have met := met (by rw [hm]; rfl) (by rw [hs]; rfl)
        simpa [bI] using met
theorem x1_ph82 {k23 : Int32 → Int32 → Int32 → Mem → Option (Unit × Mem)} {M : Mem} {b p : Nat} {y1 : Int32} {L : Lan} (hC : CLn M b (midN L p)) (hW : WF L) (hp : p < gN L) (has : Bool) (he : litN L = true → has = hasN L p (gH L)) :
    ∃ M1, fX1_passHour_L82 b k23 y1 (bI (litN L)) (nI p) (bI has) M = k23 y1 (bI (litN L)) (nI (p + 1)) M1 ∧ CLn M1 b (parN L (p + 1)) ∧ Sm b M M1 := by
  have hn8 := hW.1
  have hsu := (hW.2.2.2.1 p (by omega)).2.1
  have h2 : M (b + 2) p = nI (gSu L p) := (hC.2.1 p (by omega)).trans (by show nI (gSu (parN L p) p) = _; rw [par_Su, sunF_k])
  unfold fX1_passHour_L82
  cases hl : litN L
  · refine ⟨M, ?_, ?_, Sm.rf⟩
    · simp [bI, fX1_passHour_L125, bve, nI_1]
    · rw [← mid_par0 L p hl]; exact hC
  · have he := he hl
    refine ⟨wr M (b + 2) p (nI (sunA L p)), ?_, ?_, Sm.wr (by omega) (by omega)⟩
    · simp (disch := omega) only [bde, bve, wme, ck_in, ck_b0, ck_b1, ck_bI, ix_nI, bI_0, bI_1, nI_1, lit_le, lit_lt, lit_eq, ↓reduceIte, ckl_4_56, ckl_0_56, ckl_3_56, ckl_1_56, ckl_5_56, ckl_2_56, ckl_1_2, ckl_0_2, ckl_0_256, ckl_0_8, ckl_33_34, ckl_32_34, ixl_0, ixl_1, ixl_2, ixl_3, ixl_4, ixl_5, ixl_8, ixl_10, ixl_32, ixl_33, ixl_40, h2, ad1, da1, mu1, ad2, da2, mu2, ad3, da3, mu3, ad4, da4, mu4, ad5, da5, mu5, ad8, da8, mu8, ad10, da10, mu10, ad16, da16, mu16, mu40, fX1_passHour_L124, fX1_passHour_L125]
      unfold sunA
      rw [hl, ← he]
      cases has
      · have e : imin (nI (gSu L p + 1)) 99 = nI (min (gSu L p + 1) 99) := imin_nI (by omega) (by decide)
        simp [e, Nat.min_comm]
      · have e : imax (nI (gSu L p) - 1) 0 = nI (gSu L p - 1) := by
          rcases Nat.eq_zero_or_pos (gSu L p) with h0 | h0
          · rw [h0]; decide
          · rw [sb1 h0]
            have := imax_nI (a := gSu L p - 1) (b := 0) (by omega) (by decide)
            rw [Nat.max_eq_left (Nat.zero_le _)] at this
            exact this
        simp [e]
    · rw [← mid_par]
      exact cl_Su hC _
theorem x1_ph23 {L : Lan} {b s : Nat} (hW : WF L) (hh : gH L < 16) (hs : s < 2 ^ 31) (he : litN L = true → ∀ p, p < gN L → s.testBit p = hasN L p (gH L)) : ∀ (n p : Nat) (M : Mem), CLn M b (parN L p) → p ≤ gN L → gN L - p < n →
    ∃ M1, fX1_passHour_L23 b n (nI s) (bI (litN L)) (nI p) M = some ((), M1) ∧ CLn M1 b (stpN L) ∧ Sm b M M1 := by
  have hn8 := hW.1
  intro n
  induction n with
  | zero => intro p M _ _ h; omega
  | succ n ih =>
    intro p M hC hp hm
    rw [fX1_passHour_L23]
    have h7 : M b 6 = nI (gN L) := by rw [hC.2.2.2.2.2.2.1, par_N]
    have h9 : M b 8 = nI (gH L) := by rw [hC.2.2.2.2.2.2.2.2.1, par_H]
    rcases Nat.lt_or_ge p (gN L) with hlt | hge
    · simp (disch := omega) only [bde, bve, wme, ck_in, ck_b0, ck_b1, ck_bI, ix_nI, bI_0, bI_1, nI_1, lit_le, lit_lt, lit_eq, ↓reduceIte, ckl_4_56, ckl_0_56, ckl_3_56, ckl_1_56, ckl_5_56, ckl_2_56, ckl_1_2, ckl_0_2, ckl_0_256, ckl_0_8, ckl_33_34, ckl_32_34, ixl_0, ixl_1, ixl_2, ixl_3, ixl_4, ixl_5, ixl_8, ixl_10, ixl_32, ixl_33, ixl_40, h7, Nat.not_le.mpr hlt, x7_bit]
      obtain ⟨M1, e1, c1, s1⟩ := x1_ph45 (k23 := fX1_passHour_L23 b n) (y1 := nI s) hC hW hh hlt (s.testBit p) (fun h => he h p hlt)
      obtain ⟨M2, e2, c2, s2⟩ := x1_ph82 (k23 := fX1_passHour_L23 b n) (y1 := nI s) c1 hW hlt (s.testBit p) (fun h => he h p hlt)
      obtain ⟨M3, e3, c3, s3⟩ := ih (p + 1) M2 c2 hlt (by omega)
      refine ⟨M3, ?_, c3, (s1.tr s2).tr s3⟩
      rw [← e3, ← e2, ← e1]
      cases s.testBit p <;> simp [bI]
    · have hpe : p = gN L := by omega
      subst hpe
      refine ⟨wr M b 8 (M b 8 + 1), ?_, ?_, Sm.wr (by omega) (by omega)⟩
      · simp (disch := omega) only [bde, bve, wme, ck_in, ck_b0, ck_b1, ck_bI, ix_nI, bI_0, bI_1, nI_1, lit_le, lit_lt, lit_eq, ↓reduceIte, ckl_4_56, ckl_0_56, ckl_3_56, ckl_1_56, ckl_5_56, ckl_2_56, ckl_1_2, ckl_0_2, ckl_0_256, ckl_0_8, ckl_33_34, ckl_32_34, ixl_0, ixl_1, ixl_2, ixl_3, ixl_4, ixl_5, ixl_8, ixl_10, ixl_32, ixl_33, ixl_40, h7, Nat.le_refl]
      · rw [h9, nI_1]
        exact cl_H hC _
theorem x1_passHour {L : Lan} {M : Mem} {b : Nat} (hC : CLn M b L) (hW : WF L) (hh : gH L < 16) : ∃ M1, fX1_passHour b (nI (nowN L)) M = some ((), M1) ∧ CLn M1 b (stpN L) ∧ Sm b M M1 := by
  have hn8 := hW.1
  have hlt := hW.2.2.1
  have h8 : M b 7 = nI (gL L) := hC.2.2.2.2.2.2.2.1
  have h9 : M b 8 = nI (gH L) := hC.2.2.2.2.2.2.2.2.1
  have hnow : nowN L = havN L (gH L) := by unfold nowN; rw [if_pos hh]
  have hb := stN_lt (fun p => hasN L p (gH L)) (gN L)
  have hb2 : 2 ^ gN L ≤ 2 ^ 8 := Nat.pow_le_pow_right (by decide) hn8
  have hs : nowN L < 2 ^ 31 := by
    rw [hnow]
    unfold havN
    omega
  obtain ⟨M1, e1, c1, s1⟩ := x1_ph23 (s := nowN L) (b := b) hW hh hs (fun _ p hp => by rw [hnow]; unfold havN; rw [stN_tb]; simp [hp]) fu 0 M hC (Nat.zero_le _) (by show _ < 2000; omega)
  refine ⟨M1, ?_, c1, s1⟩
  rw [← e1]
  unfold fX1_passHour
  simp (disch := omega) only [bde, bve, wme, ck_in, ck_b0, ck_b1, ck_bI, ix_nI, bI_0, bI_1, nI_1, lit_le, lit_lt, lit_eq, ↓reduceIte, ckl_4_56, ckl_0_56, ckl_3_56, ckl_1_56, ckl_5_56, ckl_2_56, ckl_1_2, ckl_0_2, ckl_0_256, ckl_0_8, ckl_33_34, ckl_32_34, ixl_0, ixl_1, ixl_2, ixl_3, ixl_4, ixl_5, ixl_8, ixl_10, ixl_32, ixl_33, ixl_40, h8, h9, x7_bit, fX1_passHour_L20]
  show _ = fX1_passHour_L23 b fu (nI (nowN L)) (bI (litN L)) 0 M
  unfold litN
  cases (gL L).testBit (gH L) <;> simp [bI]
/-- k hours -/
def hrsN : Nat → Lan → Lan
  | 0, L => L
  | k + 1, L => hrsN k (stpN L)
theorem hrs_H (k : Nat) : ∀ L : Lan, gH (hrsN k L) = gH L + k := by
  induction k with
  | zero => intro L; rfl
  | succ k ih => intro L; show gH (hrsN k (stpN L)) = _; rw [ih, stp_H]; omega
theorem wf_hrs (k : Nat) : ∀ L : Lan, WF L → gH L + k ≤ 16 → WF (hrsN k L) := by
  induction k with
  | zero => intro L h _; exact h
  | succ k ih => intro L h hk; exact ih (stpN L) (wf_stp h (by omega)) (by rw [stp_H]; omega)
theorem x1_ph2 {b m : Nat} (hm : m < 2 ^ 30) : ∀ (n k : Nat) (L : Lan) (M : Mem), CLn M b L → WF L → k ≤ m → gH L + (m - k) ≤ 16 → m - k < n → ∃ M1, fX1_passHours_L2 b n (nI m) (nI k) M = some ((), M1) ∧ CLn M1 b (hrsN (m - k) L) ∧ Sm b M M1 := by
  intro n
  induction n with
  | zero => intro k L M _ _ _ _ h; omega
  | succ n ih =>
    intro k L M hC hW hk hh hn
    rw [fX1_passHours_L2]
    have h9 : M b 8 = nI (gH L) := hC.2.2.2.2.2.2.2.2.1
    rcases Nat.lt_or_ge k m with hlt | hge
    · obtain ⟨M1, e1, c1, s1⟩ := x1_passHour hC hW (by omega)
      obtain ⟨M2, e2, c2, s2⟩ := ih (k + 1) (stpN L) M1 c1 (wf_stp hW (by omega)) (by omega) (by rw [stp_H]; omega) (by omega)
      refine ⟨M2, ?_, ?_, s1.tr s2⟩
      · have h16 : ¬ 16 ≤ gH L := by omega
        simp (disch := omega) only [bde, bve, wme, ck_in, ck_b0, ck_b1, ck_bI, ix_nI, bI_0, bI_1, nI_1, lit_le, lit_lt, lit_eq, ↓reduceIte, ckl_4_56, ckl_0_56, ckl_3_56, ckl_1_56, ckl_5_56, ckl_2_56, ckl_1_2, ckl_0_2, ckl_0_256, ckl_0_8, ckl_33_34, ckl_32_34, ixl_0, ixl_1, ixl_2, ixl_3, ixl_4, ixl_5, ixl_8, ixl_10, ixl_32, ixl_33, ixl_40, h9, ge16, Nat.not_le.mpr hlt, h16, x1_havers hC hW, e1]
        exact e2
      · have : m - k = (m - (k + 1)) + 1 := by omega
        rw [this]
        exact c2
    · have : m - k = 0 := by omega
      rw [this]
      refine ⟨M, ?_, hC, Sm.rf⟩
      simp (disch := omega) only [bde, bve, wme, ck_in, ck_b0, ck_b1, ck_bI, ix_nI, bI_0, bI_1, nI_1, lit_le, lit_lt, lit_eq, ↓reduceIte, ckl_4_56, ckl_0_56, ckl_3_56, ckl_1_56, ckl_5_56, ckl_2_56, ckl_1_2, ckl_0_2, ckl_0_256, ckl_0_8, ckl_33_34, ckl_32_34, ixl_0, ixl_1, ixl_2, ixl_3, ixl_4, ixl_5, ixl_8, ixl_10, ixl_32, ixl_33, ixl_40, hge]
theorem x1_passHours {b m : Nat} {L : Lan} {M : Mem} (hC : CLn M b L) (hW : WF L) (hm : gH L + m ≤ 16) : ∃ M1, fX1_passHours b (nI m) M = some ((), M1) ∧ CLn M1 b (hrsN m L) ∧ Sm b M M1 :=
  x1_ph2 (by omega) fu 0 L M hC hW (Nat.zero_le _) (by omega) (by show _ < 2000; omega)

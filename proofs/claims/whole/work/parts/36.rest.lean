/-! the rest of a day, as the class runs it -/
theorem cp8 {α : Type} {x : Option α} : ck (cpb 0 0 8 8 8) x = x := ck_t (by decide)
theorem cp10 {α : Type} {x : Option α} : ck (cpb 0 0 10 10 10) x = x := ck_t (by decide)
theorem cpy8 {f g : Nat → Int32} {j : Nat} (h : j < 8) : va_cpy f g (ix 0) (ix 0) (ix 8) j = f j := by
  unfold va_cpy
  rw [ixl_0, ixl_8, if_pos (by omega)]
  simp
theorem cpy10 {f g : Nat → Int32} {j : Nat} (h : j < 10) : va_cpy f g (ix 0) (ix 0) (ix 10) j = f j := by
  unfold va_cpy
  rw [ixl_0, ixl_10, if_pos (by omega)]
  simp
theorem x1_become {M : Mem} {b d : Nat} {L : Lan} (hC : CLn M d L) (hbd : d + 6 < b ∨ b + 6 < d) : ∃ M1, fX1_become b d M = some ((), M1) ∧ CLn M1 b L ∧ Sm b M M1 := by
  obtain ⟨h1, h2, h3, h4, h5, h6, h7, h8, h9, h10, h11, h12⟩ := hC
  refine ⟨_, by unfold fX1_become; simp only [cp8, cp10, wme]; rfl, ?_, ?_⟩
  · refine ⟨?_, ?_, ?_, ?_, ?_, ?_, ?_, ?_, ?_, ?_, ?_, ?_⟩
    · intro j hj
      simp (disch := omega) only [wr_n, wrow_n, wrow_b, cpy8]
      exact h1 j hj
    · intro j hj
      simp (disch := omega) only [wr_n, wrow_n, wrow_b, cpy8]
      exact h2 j hj
    · intro j hj
      simp (disch := omega) only [wr_n, wrow_n, wrow_b, cpy8]
      exact h3 j hj
    · intro j hj
      simp (disch := omega) only [wr_n, wrow_n, wrow_b, cpy8]
      exact h4 j hj
    · intro j hj
      simp (disch := omega) only [wr_n, wrow_n, wrow_b, cpy8]
      exact h5 j hj
    · intro j hj
      simp (disch := omega) only [wr_n, wrow_n, wrow_b, cpy10]
      exact h6 j hj
    · simp (disch := omega) only [wr_n, wrow_n, wr_b, upd]
      simpa using h7
    · simp (disch := omega) only [wr_n, wrow_n, wr_b, upd]
      simpa using h8
    · simp (disch := omega) only [wr_n, wrow_n, wr_b, upd]
      simpa using h9
    · simp (disch := omega) only [wr_n, wrow_n, wr_b, upd]
      simpa using h10
    · simp (disch := omega) only [wr_n, wrow_n, wr_b, upd]
      simpa using h11
    · simp (disch := omega) only [wr_n, wrow_n, wr_b, upd]
      simpa using h12
  · intro k hk
    simp (disch := omega) only [wr_n, wrow_n]
/-- only the rest's cells -/
def SmR (M M' : Mem) : Prop := ∀ k, (k < 15 ∨ 23 < k) → M' k = M k
theorem SmR.rf {M : Mem} : SmR M M := fun _ _ => rfl
theorem SmR.tr {M M1 M2 : Mem} (h1 : SmR M M1) (h2 : SmR M1 M2) : SmR M M2 := fun k hk => (h2 k hk).trans (h1 k hk)
theorem SmR.of {M M1 : Mem} (h : Sm 16 M M1) : SmR M M1 := fun k hk => h k (by omega)
theorem SmR.wr {c i : Nat} {M : Mem} {v : Int32} (h1 : 15 ≤ c) (h2 : c ≤ 23) : SmR M (wr M c i v) := fun k hk => wr_n M c i v (by omega)
/-- who have a shadow at an hour of the rest -/
def havA (L : Lan) (h : Nat) : Nat := havN (hrsN (h - gH L) L) h
/-- the rest is run -/
def RSt (M : Mem) (L : Lan) : Prop := CLn M 16 (hrsN (16 - gH L) L) ∧ (∀ h, gH L ≤ h → h < 16 → M 23 h = nI (havA L h)) ∧ M 15 2 = nI (gH L) ∧ M 15 3 = nI (rstN L)
theorem x4_begin {M : Mem} {d : Nat} {L : Lan} (hC : CLn M d L) (hW : WF L) (hd : d + 6 < 15 ∨ 23 < d) : ∃ M1, fX4_begin d M = some ((), M1) ∧ CLn M1 16 L ∧ M1 15 2 = nI (gH L) ∧ M1 15 3 = nI (rstN L) ∧ SmR M M1 := by
  obtain ⟨M1, e1, c1, s1⟩ := x1_become (b := 16) hC (by omega)
  have cd : CLn (wr M1 15 2 (M1 d 8)) d L := cl_same hC (fun k h1 h2 => by rw [wr_n _ _ _ _ (by omega), s1 k (by omega)])
  have h8 : M1 d 8 = nI (gH L) := by rw [s1 d (by omega)]; exact hC.2.2.2.2.2.2.2.2.1
  refine ⟨wr (wr M1 15 2 (M1 d 8)) 15 3 (nI (rstN L)), ?_, ?_, ?_, ?_, ?_⟩
  · unfold fX4_begin
    simp only [e1, bde, wme, x1_hoursLeft cd hW]
  · exact cl_same c1 (fun k h1 h2 => by rw [wr_n _ _ _ _ (by omega), wr_n _ _ _ _ (by omega)])
  · rw [← h8]; simp [wr_app]
  · simp [wr_app]
  · exact ((SmR.of s1).tr (SmR.wr (by omega) (by omega))).tr (SmR.wr (by omega) (by omega))
theorem hrs_s (k : Nat) : ∀ L : Lan, hrsN (k + 1) L = stpN (hrsN k L) := by
  induction k with
  | zero => intro L; rfl
  | succ k ih => intro L; exact ih (stpN L)
theorem now_hav {L : Lan} (h : gH L < 16) : nowN L = havN L (gH L) := by unfold nowN; rw [if_pos h]
theorem x4_run5 {L : Lan} (hW : WF L) : ∀ (n h : Nat) (M : Mem), gH L ≤ h → h ≤ 16 → 16 - h < n → CLn M 16 (hrsN (h - gH L) L) → (∀ q, gH L ≤ q → q < h → M 23 q = nI (havA L q)) →
    ∃ M1, fX4_run_L5 n (nI h) M = some ((), M1) ∧ CLn M1 16 (hrsN (16 - gH L) L) ∧ (∀ q, gH L ≤ q → q < 16 → M1 23 q = nI (havA L q)) ∧ (∀ k, (k < 16 ∨ 23 < k) → M1 k = M k) := by
  intro n
  induction n with
  | zero => intro h M _ _ h3; omega
  | succ n ih =>
    intro h M hg hh hn hC hq
    rw [fX4_run_L5]
    have hH : gH (hrsN (h - gH L) L) = h := by rw [hrs_H]; omega
    have hWh : WF (hrsN (h - gH L) L) := wf_hrs _ L hW (by omega)
    rcases Nat.lt_or_ge h 16 with hlt | hge
    · have hnow : nowN (hrsN (h - gH L) L) = havA L h := by rw [now_hav (by omega), hH]; rfl
      have hC2 : CLn (wr M 23 h (nI (havA L h))) 16 (hrsN (h - gH L) L) := cl_same hC (fun k h1 h2 => wr_n _ _ _ _ (by omega))
      obtain ⟨M1, e1, c1, s1⟩ := x1_passHour hC2 hWh (by omega)
      rw [hnow] at e1
      have hstp : stpN (hrsN (h - gH L) L) = hrsN (h + 1 - gH L) L := by rw [← hrs_s]; congr 1; omega
      rw [hstp] at c1
      obtain ⟨M2, e2, c2, g2, s2⟩ := ih (h + 1) M1 (by omega) (by omega) (by omega) c1 (fun q h1 h2 => by
        rw [s1 23 (by omega), wr_app, if_pos rfl]
        by_cases hqh : q = h
        · rw [if_pos hqh, hqh]
        · rw [if_neg hqh]; exact hq q h1 (by omega))
      refine ⟨M2, ?_, c2, g2, fun k hk => by rw [s2 k hk, s1 k (by omega), wr_n _ _ _ _ (by omega)]⟩
      have h16 : ¬ 16 ≤ h := by omega
      simp (disch := omega) only [bde, bve, wme, ck_in, ck_b0, ck_b1, ck_bI, ix_nI, bI_0, bI_1, nI_1, lit_le, lit_lt, lit_eq, ↓reduceIte, ckl_4_56, ckl_0_56, ckl_3_56, ckl_1_56, ckl_5_56, ckl_2_56, ckl_1_2, ckl_0_2, ckl_0_256, ckl_0_8, ckl_33_34, ckl_32_34, ixl_0, ixl_1, ixl_2, ixl_3, ixl_4, ixl_5, ixl_8, ixl_10, ixl_32, ixl_33, ixl_40, ge16, h16, x1_havers hC hWh, hnow, wr_b, upd, e1]
      exact e2
    · have he : h = 16 := by omega
      subst he
      refine ⟨M, ?_, hC, hq, fun _ _ => rfl⟩
      rfl
theorem x4_run {M : Mem} {L : Lan} (hC : CLn M 16 L) (hW : WF L) (h2 : M 15 2 = nI (gH L)) (h3 : M 15 3 = nI (rstN L)) : ∃ M1, fX4_run M = some ((), M1) ∧ RSt M1 L ∧ SmR M M1 := by
  have hh := hW.2.1
  obtain ⟨M1, e1, c1, g1, s1⟩ := x4_run5 hW fu (gH L) M (Nat.le_refl _) hh (by show _ < 2000; omega) (by rw [Nat.sub_self]; exact hC) (fun q h1 h2 => by omega)
  refine ⟨M1, ?_, ⟨c1, g1, by rw [s1 15 (by omega)]; exact h2, by rw [s1 15 (by omega)]; exact h3⟩, fun k hk => s1 k (by omega)⟩
  unfold fX4_run
  simp only [bve, h2, e1]
theorem x4_see {M : Mem} {d : Nat} {L : Lan} (hC : CLn M d L) (hW : WF L) (hd : d + 6 < 15 ∨ 23 < d) : ∃ M1, fX4_see d M = some ((), M1) ∧ RSt M1 L ∧ SmR M M1 := by
  obtain ⟨M1, e1, c1, a1, b1, s1⟩ := x4_begin hC hW hd
  obtain ⟨M2, e2, c2, s2⟩ := x4_run c1 hW a1 b1
  refine ⟨M2, ?_, c2, s1.tr s2⟩
  unfold fX4_see
  simp only [e1, e2, bde]
theorem stp_Nd (L : Lan) : gNd (stpN L) = gNd L := par_Nd L _
theorem stp_L (L : Lan) : gL (stpN L) = gL L := par_L L _
theorem stp_N (L : Lan) : gN (stpN L) = gN L := par_N L _
theorem stp_Mt (L : Lan) : gMt (stpN L) = gMt L := par_Mt L _
theorem stp_Kd (L : Lan) : gKd (stpN L) = gKd L := par_Kd L _
theorem stp_Sg (L : Lan) : gSg (stpN L) = gSg L := par_Sg L _
theorem hrs_Nd (k : Nat) : ∀ L : Lan, gNd (hrsN k L) = gNd L := by
  induction k with
  | zero => intro L; rfl
  | succ k ih => intro L; rw [← stp_Nd L]; exact ih (stpN L)
theorem hrs_L (k : Nat) : ∀ L : Lan, gL (hrsN k L) = gL L := by
  induction k with
  | zero => intro L; rfl
  | succ k ih => intro L; rw [← stp_L L]; exact ih (stpN L)
theorem hrs_N (k : Nat) : ∀ L : Lan, gN (hrsN k L) = gN L := by
  induction k with
  | zero => intro L; rfl
  | succ k ih => intro L; rw [← stp_N L]; exact ih (stpN L)
theorem havA_lt {L : Lan} (hW : WF L) (h : Nat) : havA L h < 256 := by
  have hn := hW.1
  have := stN_lt (fun p => hasN (hrsN (h - gH L) L) p h) (gN (hrsN (h - gH L) L))
  rw [hrs_N] at this
  have h2 : 2 ^ gN L ≤ 2 ^ 8 := Nat.pow_le_pow_right (by decide) hn
  unfold havA havN
  rw [hrs_N]
  omega
/-- whether one has a shadow at an hour of the rest -/
def shB (L : Lan) (p h : Nat) : Bool := decide (gH L ≤ h) && hasN (hrsN (h - gH L) L) p h
theorem havA_tb {L : Lan} {p h : Nat} (hp : p < gN L) : (havA L h).testBit p = hasN (hrsN (h - gH L) L) p h := by
  unfold havA havN
  rw [stN_tb, hrs_N]
  simp [hp]
def shdN (L : Lan) (p : Nat) : Nat := stN (shB L p) 16
def svB (L : Lan) (p h : Nat) : Bool := decide (gH L ≤ h) && (!(gNd L p).testBit h || !(gL L).testBit h || shB L p h)
def mtB (L : Lan) (p h : Nat) : Bool := decide (gH L ≤ h) && ((gNd L p).testBit h && (!(gL L).testBit h || shB L p h))
/-- how many needs of one are met in the rest -/
def metR (L : Lan) (p : Nat) : Nat := cnN (mtB L p) 16
theorem rstN_tb {L : Lan} (hW : WF L) (i : Nat) : (rstN L).testBit i = (decide (gH L ≤ i) && decide (i < 16)) := rst_tb hW.2.1
theorem rstN_lt (L : Lan) : rstN L < 65536 := by
  have : 0 < 2 ^ gH L := Nat.two_pow_pos _
  unfold rstN
  omega
theorem x4_sh4 {M : Mem} {L : Lan} (hR : RSt M L) (hW : WF L) {p : Nat} (hp : p < gN L) : ∀ n h : Nat, h ≤ 16 → 16 - h < n → fX4_shadeOf_L4 n (nI p) (nI (stN (shB L p) h)) (nI h) M = some (nI (shdN L p), M) := by
  have hn8 := hW.1
  obtain ⟨r1, r2, r3, r4⟩ := hR
  have hrl := rstN_lt L
  intro n
  induction n with
  | zero => intro h _ h2; omega
  | succ n ih =>
    intro h hh hn
    rw [fX4_shadeOf_L4]
    rcases Nat.lt_or_ge h 16 with hlt | hge
    · have h16 : ¬ 16 ≤ h := by omega
      have hi := ih (h + 1) (by omega) (by omega)
      have hs := stN_lt (shB L p) h
      have hp16 : 2 ^ h < 2 ^ 16 := Nat.pow_lt_pow_right (by decide) hlt
      simp (disch := omega) only [bde, bve, wme, ck_in, ck_b0, ck_b1, ck_bI, ix_nI, bI_0, bI_1, nI_1, lit_le, lit_lt, lit_eq, ↓reduceIte, ckl_4_56, ckl_0_56, ckl_3_56, ckl_1_56, ckl_5_56, ckl_2_56, ckl_1_2, ckl_0_2, ckl_0_256, ckl_0_8, ckl_33_34, ckl_32_34, ixl_0, ixl_1, ixl_2, ixl_3, ixl_4, ixl_5, ixl_8, ixl_10, ixl_32, ixl_33, ixl_40, ge16, h16, r4, x7_bit, rstN_tb hW, hlt]
      by_cases hg : gH L ≤ h
      · have hv := havA_lt hW h
        simp (disch := omega) only [hg, decide_true, Bool.and_self, bde, bve, wme, ck_in, ck_b0, ck_b1, ck_bI, ix_nI, bI_0, bI_1, nI_1, lit_le, lit_lt, lit_eq, ↓reduceIte, ckl_4_56, ckl_0_56, ckl_3_56, ckl_1_56, ckl_5_56, ckl_2_56, ckl_1_2, ckl_0_2, ckl_0_256, ckl_0_8, ckl_33_34, ckl_32_34, ixl_0, ixl_1, ixl_2, ixl_3, ixl_4, ixl_5, ixl_8, ixl_10, ixl_32, ixl_33, ixl_40, r2 h hg hlt, x7_bit, havA_tb hp]
        cases hb : hasN (hrsN (h - gH L) L) p h
        · have : shB L p h = false := by simp [shB, hb]
          simp only [reduceCtorEq, ↓reduceIte, fX4_shadeOf_L42, bve, nI_1]
          rw [← hi]
          simp [stN, this]
        · have : shB L p h = true := by simp [shB, hb, hg]
          simp (disch := omega) only [↓reduceIte, fX4_shadeOf_L42, bve, nI_1, shl_1, nI_or, or_pow hs]
          rw [← hi]
          simp [stN, this]
      · have : shB L p h = false := by simp [shB, hg]
        simp only [hg, decide_false, Bool.false_and, reduceCtorEq, ↓reduceIte, fX4_shadeOf_L42, bve, nI_1]
        rw [← hi]
        simp [stN, this]
    · have he : h = 16 := by omega
      subst he
      rfl
theorem x4_shadeOf {M : Mem} {L : Lan} (hR : RSt M L) (hW : WF L) {p : Nat} (hp : p < gN L) : fX4_shadeOf (nI p) M = some (nI (shdN L p), M) := x4_sh4 hR hW hp fu 0 (by decide) (by decide)
def srvN (L : Lan) (p : Nat) : Nat := stN (svB L p) 16
theorem x4_servedOf {M : Mem} {L : Lan} (hR : RSt M L) (hW : WF L) {p : Nat} (hp : p < gN L) : fX4_servedOf (nI p) M = some (nI (srvN L p), M) := by
  have hn8 := hW.1
  unfold fX4_servedOf
  have h4 : M 20 p = nI (gNd L p) := by have := hR.1.2.2.2.1 p (by omega); rw [hrs_Nd] at this; exact this
  have h7 : M 16 7 = nI (gL L) := by have := hR.1.2.2.2.2.2.2.2.1; rw [hrs_L] at this; exact this
  simp (disch := omega) only [bde, bve, wme, ck_in, ck_b0, ck_b1, ck_bI, ix_nI, bI_0, bI_1, nI_1, lit_le, lit_lt, lit_eq, ↓reduceIte, ckl_4_56, ckl_0_56, ckl_3_56, ckl_1_56, ckl_5_56, ckl_2_56, ckl_1_2, ckl_0_2, ckl_0_256, ckl_0_8, ckl_33_34, ckl_32_34, ixl_0, ixl_1, ixl_2, ixl_3, ixl_4, ixl_5, ixl_8, ixl_10, ixl_32, ixl_33, ixl_40, x4_shadeOf hR hW hp, h4, h7, hR.2.2.2]
  congr 2
  apply b_st
  intro i hi
  rw [b_and, b_or, b_or, b_not _ hi, b_not _ hi, b_nI _ hi, b_nI _ hi, b_nI _ hi, b_nI _ hi, rstN_tb hW]
  unfold shdN svB
  rw [stN_tb]
  by_cases h1 : i < 16 <;> by_cases h2 : gH L ≤ i <;> simp [h1, h2]
theorem pc_and {L : Lan} {p : Nat} (hnd : gNd L p < 65536) : pcN (gNd L p &&& srvN L p) = metR L p := by
  unfold pcN metR
  apply cnN_congr
  intro k hk
  unfold srvN
  rw [Nat.testBit_and, stN_tb]
  unfold mtB svB
  cases (gNd L p).testBit k <;> simp [hk]
theorem and_lt {a b : Nat} (h : a < 65536) : a &&& b < 65536 := Nat.lt_of_le_of_lt Nat.and_le_left h
theorem x4_metOf {M : Mem} {L : Lan} (hR : RSt M L) (hW : WF L) {p : Nat} (hp : p < gN L) : fX4_metOf (nI p) M = some (nI (metR L p), M) := by
  have hn8 := hW.1
  have hnd := (hW.2.2.2.1 p (by omega)).2.2.2
  have hWh : WF (hrsN (16 - gH L) L) := wf_hrs _ L hW (by have := hW.2.1; omega)
  have h4 : M 20 p = nI (gNd L p) := by have := hR.1.2.2.2.1 p (by omega); rw [hrs_Nd] at this; exact this
  unfold fX4_metOf
  have hlt := and_lt (b := srvN L p) hnd
  simp (disch := omega) only [bde, bve, wme, ck_in, ck_b0, ck_b1, ck_bI, ix_nI, bI_0, bI_1, nI_1, lit_le, lit_lt, lit_eq, ↓reduceIte, ckl_4_56, ckl_0_56, ckl_3_56, ckl_1_56, ckl_5_56, ckl_2_56, ckl_1_2, ckl_0_2, ckl_0_256, ckl_0_8, ckl_33_34, ckl_32_34, ixl_0, ixl_1, ixl_2, ixl_3, ixl_4, ixl_5, ixl_8, ixl_10, ixl_32, ixl_33, ixl_40, x1_isPerson hR.1 hWh, hrs_N, pIn_t hp, x4_servedOf hR hW hp, h4, nI_and, bitCount, reduceCtorEq, pc_and hnd]
/-- sums over the people -/
def smN (f : Nat → Nat) : Nat → Nat
  | 0 => 0
  | n + 1 => smN f n + f n
theorem metR_le (L : Lan) (p : Nat) : metR L p ≤ 16 := cnN_le _ _
theorem smN_le {f : Nat → Nat} {c : Nat} (h : ∀ k, f k ≤ c) (n : Nat) : smN f n ≤ n * c := by
  induction n with
  | zero => simp [smN]
  | succ n ih =>
    show smN f n + f n ≤ _
    have := h n
    rw [Nat.succ_mul]
    omega
theorem x4_mA4 {M : Mem} {L : Lan} (hR : RSt M L) (hW : WF L) : ∀ n p : Nat, p ≤ gN L → gN L - p < n → fX4_metOfAll_L4 n (nI (smN (metR L) p)) (nI p) M = some (nI (smN (metR L) (gN L)), M) := by
  have hn8 := hW.1
  have h6 : M 16 6 = nI (gN L) := by have := hR.1.2.2.2.2.2.2.1; rw [hrs_N] at this; exact this
  intro n
  induction n with
  | zero => intro p _ h; omega
  | succ n ih =>
    intro p hp hm
    rw [fX4_metOfAll_L4]
    rcases Nat.lt_or_ge p (gN L) with hlt | hge
    · have hi := ih (p + 1) (by omega) (by omega)
      simp (disch := omega) only [bde, bve, wme, ck_in, ck_b0, ck_b1, ck_bI, ix_nI, bI_0, bI_1, nI_1, lit_le, lit_lt, lit_eq, ↓reduceIte, ckl_4_56, ckl_0_56, ckl_3_56, ckl_1_56, ckl_5_56, ckl_2_56, ckl_1_2, ckl_0_2, ckl_0_256, ckl_0_8, ckl_33_34, ckl_32_34, ixl_0, ixl_1, ixl_2, ixl_3, ixl_4, ixl_5, ixl_8, ixl_10, ixl_32, ixl_33, ixl_40, h6, Nat.not_le.mpr hlt, x4_metOf hR hW hlt, nI_add]
      exact hi
    · have he : p = gN L := by omega
      subst he
      simp (disch := omega) only [bde, bve, wme, ck_in, ck_b0, ck_b1, ck_bI, ix_nI, bI_0, bI_1, nI_1, lit_le, lit_lt, lit_eq, ↓reduceIte, ckl_4_56, ckl_0_56, ckl_3_56, ckl_1_56, ckl_5_56, ckl_2_56, ckl_1_2, ckl_0_2, ckl_0_256, ckl_0_8, ckl_33_34, ckl_32_34, ixl_0, ixl_1, ixl_2, ixl_3, ixl_4, ixl_5, ixl_8, ixl_10, ixl_32, ixl_33, ixl_40, h6, Nat.le_refl]
theorem x4_metOfAll {M : Mem} {L : Lan} (hR : RSt M L) (hW : WF L) : fX4_metOfAll M = some (nI (smN (metR L) (gN L)), M) := by
  have hn8 := hW.1
  exact x4_mA4 hR hW fu 0 (Nat.zero_le _) (by show _ < 2000; omega)
theorem x4_sunOf {M : Mem} {L : Lan} (hR : RSt M L) (hW : WF L) {p : Nat} (hp : p < gN L) : fX4_sunOf (nI p) M = some (nI (gSu (hrsN (16 - gH L) L) p), M) := by
  have hn8 := hW.1
  have hWh : WF (hrsN (16 - gH L) L) := wf_hrs _ L hW (by have := hW.2.1; omega)
  have h2 := hR.1.2.1 p (by omega)
  unfold fX4_sunOf
  simp (disch := omega) only [bde, bve, wme, ck_in, ck_b0, ck_b1, ck_bI, ix_nI, bI_0, bI_1, nI_1, lit_le, lit_lt, lit_eq, ↓reduceIte, ckl_4_56, ckl_0_56, ckl_3_56, ckl_1_56, ckl_5_56, ckl_2_56, ckl_1_2, ckl_0_2, ckl_0_256, ckl_0_8, ckl_33_34, ckl_32_34, ixl_0, ixl_1, ixl_2, ixl_3, ixl_4, ixl_5, ixl_8, ixl_10, ixl_32, ixl_33, ixl_40, x1_isPerson hR.1 hWh, hrs_N, pIn_t hp, reduceCtorEq]
  rw [h2]
/-- the first hour of the rest (from one on) at which one isn't served; 16: none -/
def cold (L : Lan) (p : Nat) : Nat → Nat → Nat
  | 0, h => h
  | n + 1, h => if gH L ≤ h ∧ svB L p h = false then h else cold L p n (h + 1)
theorem x4_fc29 {M : Mem} {L : Lan} (hW : WF L) {p s : Nat} (hs : s < 65536) (ht : ∀ h, h < 16 → s.testBit h = (decide (gH L ≤ h) && !svB L p h)) : ∀ n h : Nat, h ≤ 16 → 16 - h < n → fX4_firstCold_L29 n (nI s) (nI h) M = some (nI (cold L p (16 - h) h), M) := by
  intro n
  induction n with
  | zero => intro h _ h2; omega
  | succ n ih =>
    intro h hh hn
    rw [fX4_firstCold_L29]
    rcases Nat.lt_or_ge h 16 with hlt | hge
    · have h16 : ¬ 16 ≤ h := by omega
      have e : 16 - h = (16 - (h + 1)) + 1 := by omega
      simp (disch := omega) only [bde, bve, wme, ck_in, ck_b0, ck_b1, ck_bI, ix_nI, bI_0, bI_1, nI_1, lit_le, lit_lt, lit_eq, ↓reduceIte, ckl_4_56, ckl_0_56, ckl_3_56, ckl_1_56, ckl_5_56, ckl_2_56, ckl_1_2, ckl_0_2, ckl_0_256, ckl_0_8, ckl_33_34, ckl_32_34, ixl_0, ixl_1, ixl_2, ixl_3, ixl_4, ixl_5, ixl_8, ixl_10, ixl_32, ixl_33, ixl_40, ge16, h16, x7_bit, ht h hlt]
      rw [e]
      show _ = some (nI (if gH L ≤ h ∧ svB L p h = false then h else cold L p (16 - (h + 1)) (h + 1)), M)
      by_cases hc : gH L ≤ h ∧ svB L p h = false
      · rw [if_pos hc]
        simp [hc.1, hc.2]
      · rw [if_neg hc, ← ih (h + 1) (by omega) (by omega)]
        have : ¬ ((decide (gH L ≤ h) && !svB L p h) = true) := by
          simp only [Bool.and_eq_true, decide_eq_true_eq, Bool.not_eq_true']
          exact hc
        rw [if_neg this]
    · have he : h = 16 := by omega
      subst he
      rfl
theorem x4_firstCold {M : Mem} {L : Lan} (hR : RSt M L) (hW : WF L) {p : Nat} (hp : p < gN L) : fX4_firstCold (nI p) M = some (nI (cold L p 16 0), M) := by
  have hn8 := hW.1
  have hWh : WF (hrsN (16 - gH L) L) := wf_hrs _ L hW (by have := hW.2.1; omega)
  unfold fX4_firstCold
  have hb : nI (rstN L) &&& (nI (srvN L p) ^^^ (-1)) = nI (stN (fun h => decide (gH L ≤ h) && !svB L p h) 16) := by
    apply b_st
    intro i hi
    rw [b_and, b_not _ hi, b_nI _ hi, b_nI _ hi, rstN_tb hW]
    unfold srvN
    rw [stN_tb]
    by_cases h1 : i < 16 <;> by_cases h2 : gH L ≤ i <;> simp [h1, h2]
  have hlt := stN_lt (fun h => decide (gH L ≤ h) && !svB L p h) 16
  simp (disch := omega) only [bde, bve, wme, ck_in, ck_b0, ck_b1, ck_bI, ix_nI, bI_0, bI_1, nI_1, lit_le, lit_lt, lit_eq, ↓reduceIte, ckl_4_56, ckl_0_56, ckl_3_56, ckl_1_56, ckl_5_56, ckl_2_56, ckl_1_2, ckl_0_2, ckl_0_256, ckl_0_8, ckl_33_34, ckl_32_34, ixl_0, ixl_1, ixl_2, ixl_3, ixl_4, ixl_5, ixl_8, ixl_10, ixl_32, ixl_33, ixl_40, x1_isPerson hR.1 hWh, hrs_N, pIn_t hp, reduceCtorEq, x4_servedOf hR hW hp, hR.2.2.2, hb]
  have e := x4_fc29 (M := M) (p := p) hW (s := stN (fun h => decide (gH L ≤ h) && !svB L p h) 16) (by omega) (fun h hh => by rw [stN_tb]; simp [hh]) fu 0 (by omega) (by show _ < 2000; omega)
  rw [Nat.sub_zero] at e
  rw [nI_0']
  exact e

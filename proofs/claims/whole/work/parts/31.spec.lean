/-! layer 2: what a land is, and what it does, in plain numbers -/
abbrev Lan : Type := (Nat → Nat) × (Nat → Nat) × (Nat → Nat) × (Nat → Nat) × (Nat → Nat) × (Nat → Nat) × Nat × Nat × Nat × Int32 × Int32 × Int32
def gKd (L : Lan) : Nat → Nat := L.1
def gSu (L : Lan) : Nat → Nat := L.2.1
def gSg (L : Lan) : Nat → Nat := L.2.2.1
def gNd (L : Lan) : Nat → Nat := L.2.2.2.1
/-- 0: no mate; j + 1: the mate is j -/
def gMt (L : Lan) : Nat → Nat := L.2.2.2.2.1
def gSp (L : Lan) : Nat → Nat := L.2.2.2.2.2.1
def gN (L : Lan) : Nat := L.2.2.2.2.2.2.1
def gH (L : Lan) : Nat := L.2.2.2.2.2.2.2.1
def gL (L : Lan) : Nat := L.2.2.2.2.2.2.2.2.1
def gMe (L : Lan) : Int32 := L.2.2.2.2.2.2.2.2.2.1
def gMs (L : Lan) : Int32 := L.2.2.2.2.2.2.2.2.2.2.1
def gDr (L : Lan) : Int32 := L.2.2.2.2.2.2.2.2.2.2.2
def uf (f : Nat → Nat) (i v : Nat) : Nat → Nat := fun j => if j = i then v else f j
def sKd (L : Lan) (f : Nat → Nat) : Lan := (f, gSu L, gSg L, gNd L, gMt L, gSp L, gN L, gH L, gL L, gMe L, gMs L, gDr L)
def sSu (L : Lan) (f : Nat → Nat) : Lan := (gKd L, f, gSg L, gNd L, gMt L, gSp L, gN L, gH L, gL L, gMe L, gMs L, gDr L)
def sSg (L : Lan) (f : Nat → Nat) : Lan := (gKd L, gSu L, f, gNd L, gMt L, gSp L, gN L, gH L, gL L, gMe L, gMs L, gDr L)
def sNd (L : Lan) (f : Nat → Nat) : Lan := (gKd L, gSu L, gSg L, f, gMt L, gSp L, gN L, gH L, gL L, gMe L, gMs L, gDr L)
def sMt (L : Lan) (f : Nat → Nat) : Lan := (gKd L, gSu L, gSg L, gNd L, f, gSp L, gN L, gH L, gL L, gMe L, gMs L, gDr L)
def sSp (L : Lan) (f : Nat → Nat) : Lan := (gKd L, gSu L, gSg L, gNd L, gMt L, f, gN L, gH L, gL L, gMe L, gMs L, gDr L)
def sN (L : Lan) (v : Nat) : Lan := (gKd L, gSu L, gSg L, gNd L, gMt L, gSp L, v, gH L, gL L, gMe L, gMs L, gDr L)
def sH (L : Lan) (v : Nat) : Lan := (gKd L, gSu L, gSg L, gNd L, gMt L, gSp L, gN L, v, gL L, gMe L, gMs L, gDr L)
def sL (L : Lan) (v : Nat) : Lan := (gKd L, gSu L, gSg L, gNd L, gMt L, gSp L, gN L, gH L, v, gMe L, gMs L, gDr L)
def sMe (L : Lan) (v : Int32) : Lan := (gKd L, gSu L, gSg L, gNd L, gMt L, gSp L, gN L, gH L, gL L, v, gMs L, gDr L)
def sMs (L : Lan) (v : Int32) : Lan := (gKd L, gSu L, gSg L, gNd L, gMt L, gSp L, gN L, gH L, gL L, gMe L, v, gDr L)
def sDr (L : Lan) (v : Int32) : Lan := (gKd L, gSu L, gSg L, gNd L, gMt L, gSp L, gN L, gH L, gL L, gMe L, gMs L, v)
/-- the class's land at b -/
def CLn (M : Mem) (b : Nat) (L : Lan) : Prop :=
  (∀ i, i < 8 → M (b + 1) i = nI (gKd L i)) ∧ (∀ i, i < 8 → M (b + 2) i = nI (gSu L i)) ∧ (∀ i, i < 8 → M (b + 3) i = nI (gSg L i)) ∧ (∀ i, i < 8 → M (b + 4) i = nI (gNd L i)) ∧ (∀ i, i < 8 → M (b + 5) i = mI (gMt L i)) ∧ (∀ i, i < 10 → M (b + 6) i = mI (gSp L i)) ∧
  M b 6 = nI (gN L) ∧ M b 7 = nI (gL L) ∧ M b 8 = nI (gH L) ∧ M b 9 = gMe L ∧ M b 10 = gMs L ∧ M b 11 = gDr L
/-- the reference's land in the row a -/
def RLn (M : Mem) (a : Nat) (L : Lan) : Prop :=
  (∀ i, i < 8 → M a (16 + 5 * i + 0) = nI (gKd L i)) ∧ (∀ i, i < 8 → M a (16 + 5 * i + 1) = nI (gSu L i)) ∧ (∀ i, i < 8 → M a (16 + 5 * i + 2) = nI (gSg L i)) ∧ (∀ i, i < 8 → M a (16 + 5 * i + 3) = nI (gNd L i)) ∧ (∀ i, i < 8 → M a (16 + 5 * i + 4) = mI (gMt L i)) ∧ (∀ i, i < 10 → M a (6 + i) = mI (gSp L i)) ∧
  M a 4 = nI (gN L) ∧ M a 3 = nI (gL L) ∧ M a 0 = nI (gH L) ∧ M a 1 = gMe L ∧ M a 2 = gMs L ∧ M a 5 = gDr L
/-- what is always so -/
def WF (L : Lan) : Prop :=
  gN L ≤ 8 ∧ gH L ≤ 16 ∧ gL L < 65536 ∧ (∀ i, i < 8 → gKd L i ≤ 6 ∧ gSu L i ≤ 99 ∧ gSg L i ≤ 9 ∧ gNd L i < 65536) ∧ (∀ i, i < gN L → gMt L i ≤ gN L ∧ gMt L i ≠ i + 1 ∧ (∀ j, gMt L i = j + 1 → gMt L j = i + 1)) ∧ (∀ s, s < 10 → gSp L s ≤ gN L)
def claimN (L : Lan) (p h : Nat) : Nat :=
  if gKd L p = 1 then gSu L p + 2 * gSg L p
  else if gKd L p = 2 then gSu L p + 10
  else if gKd L p = 3 then (gSu L p + 10) / 2
  else if gKd L p = 4 then (if h % 2 = 0 then (gSu L p + 10) / 2 else 0)
  else if gKd L p = 5 then (if h % 2 = p % 2 then 50 else 0)
  else if gKd L p = 6 then (if h = 8 then 99 else gSu L p + 2 * gSg L p)
  else gSu L p
theorem claimN_le {L : Lan} (hW : WF L) {p : Nat} (hp : p < 8) (h : Nat) : claimN L p h ≤ 117 := by
  obtain ⟨-, -, -, h4, -⟩ := hW
  obtain ⟨-, h5, h6, -⟩ := h4 p hp
  unfold claimN
  repeat' split
  all_goals omega
def firN (L : Lan) (a b h : Nat) : Nat := if claimN L (max a b) h ≤ claimN L (min a b) h then min a b else max a b
def hasN (L : Lan) (p h : Nat) : Bool := (gL L).testBit h && (gMt L p == 0 || firN L p (gMt L p - 1) h == p)
def havN (L : Lan) (h : Nat) : Nat := stN (fun p => hasN L p h) (gN L)
theorem x1_claimOf {M : Mem} {b : Nat} {L : Lan} (hC : CLn M b L) (hW : WF L) {p h : Nat} (hp : p < gN L) (hh : h < 100) : fX1_claimOf b (nI p) (nI h) M = some (nI (claimN L p h), M) := by
  have hp8 : p < 8 := Nat.lt_of_lt_of_le hp hW.1
  obtain ⟨h1, h2, h3, h4, h5, h6, h7, -⟩ := hC
  obtain ⟨w1, w2, w3, -⟩ := hW.2.2.2.1 p hp8
  have hn8 := hW.1
  unfold fX1_claimOf
  simp (disch := omega) only [bde, bve, wme, ck_in, ck_b0, ck_b1, ck_bI, ix_nI, bI_0, bI_1, nI_1, lit_le, lit_lt, lit_eq, ↓reduceIte, ckl_4_56, ckl_0_56, ckl_3_56, ckl_1_56, ckl_5_56, ckl_2_56, ckl_1_2, ckl_0_2, ckl_0_256, ckl_0_8, ckl_33_34, ckl_32_34, ixl_0, ixl_1, ixl_2, ixl_3, ixl_4, ixl_5, ixl_8, ixl_10, ixl_32, ixl_33, ixl_40, h7, nI_le0, irm_2]
  rw [if_pos hp]
  unfold claimN
  by_cases he : h % 2 = 0
  all_goals
    simp (disch := omega) only [fX1_claimOf_L25, fX1_claimOf_L134, bde, bve, wme, ck_in, ck_b0, ck_b1, ck_bI, ix_nI, bI_0, bI_1, nI_1, lit_le, lit_lt, lit_eq, ↓reduceIte, ckl_4_56, ckl_0_56, ckl_3_56, ckl_1_56, ckl_5_56, ckl_2_56, ckl_1_2, ckl_0_2, ckl_0_256, ckl_0_8, ckl_33_34, ckl_32_34, ixl_0, ixl_1, ixl_2, ixl_3, ixl_4, ixl_5, ixl_8, ixl_10, ixl_32, ixl_33, ixl_40, q0, le0, ge0, lt0, gt0, q1, le1, ge1, lt1, gt1, q2, le2, ge2, lt2, gt2, q3, le3, ge3, lt3, gt3, q4, le4, ge4, lt4, gt4, q5, le5, ge5, lt5, gt5, q6, le6, ge6, lt6, gt6, q7, le7, ge7, lt7, gt7, q8, le8, ge8, lt8, gt8, q9, le9, ge9, lt9, gt9, q10, le10, ge10, lt10, gt10, q12, le12, ge12, lt12, gt12, q15, le15, ge15, lt15, gt15, q16, le16, ge16, lt16, gt16, q20, le20, ge20, lt20, gt20, q40, le40, ge40, lt40, gt40, q50, le50, ge50, lt50, gt50, q56, le56, ge56, lt56, gt56, q99, le99, ge99, lt99, gt99, q120, le120, ge120, lt120, gt120, q121, le121, ge121, lt121, gt121, q97, le97, ge97, lt97, gt97, q122, le122, ge122, lt122, gt122, q48, le48, ge48, lt48, gt48, q57, le57, ge57, lt57, gt57, q32, le32, ge32, lt32, gt32, q59, le59, ge59, lt59, gt59, q65535, le65535, ge65535, lt65535, gt65535, q99999, le99999, ge99999, lt99999, gt99999, q100000, le100000, ge100000, lt100000, gt100000, q90000, le90000, ge90000, lt90000, gt90000, q1000000, le1000000, ge1000000, lt1000000, gt1000000, ad1, da1, mu1, ad2, da2, mu2, ad3, da3, mu3, ad4, da4, mu4, ad5, da5, mu5, ad8, da8, mu8, ad10, da10, mu10, ad16, da16, mu16, mu40, h1, h2, h3, irm_2, he]
  all_goals
    repeat' split
  all_goals first | rfl | (exfalso; omega) | contradiction | (rw [nI_add]) | (rw [div_2 (by omega)]) | (exfalso; simp_all; done) | (exfalso; simp_all; omega)
/-- x is one of 0 .. n - 1 -/
def pIn (n : Nat) (x : Int32) : Bool := decide (0 ≤ x.toInt ∧ x.toInt < (n : Int))
theorem i0 (x : Int32) : x < 0 ↔ x.toInt < 0 := Int32.lt_iff_toInt_lt
theorem pIn_nI {n i : Nat} (h : i < 2 ^ 31) : pIn n (nI i) = decide (i < n) := by
  unfold pIn
  rw [nI_toInt h]
  congr 1
  apply propext
  omega
theorem pIn_t {n i : Nat} (h : i < n) (hn : n ≤ 2 ^ 31) : pIn n (nI i) = true := by rw [pIn_nI (by omega)]; simpa using h
theorem pIn_ex {n : Nat} {x : Int32} (h : pIn n x = true) (hn : n ≤ 2 ^ 31) : ∃ i, i < n ∧ x = nI i := by
  have h := of_decide_eq_true h
  obtain ⟨j, hj, rfl⟩ := nI_of (x := x) (by rw [i0]; omega)
  rw [nI_toInt hj] at h
  exact ⟨j, by omega, rfl⟩
theorem or_pow {s p : Nat} (h : s < 2 ^ p) : s ||| 2 ^ p = s + 2 ^ p := by
  have h2 := Nat.two_pow_add_eq_or_of_lt h 1
  rw [Nat.mul_one] at h2
  rw [Nat.or_comm, ← h2, Nat.add_comm]
theorem x7_bit {s p : Nat} (M : Mem) (hs : s < 2 ^ 31) (hp : p < 32) : fX7_bit (nI s) (nI p) M = some (bI (s.testBit p), M) := by
  unfold fX7_bit
  rw [ush_nI hp (by omega), and_1, tb_div]
theorem x7_isWithin {k : Nat} (x : Int32) (M : Mem) (hk : k < 2 ^ 31 - 1) : fX7_isWithin x (nI k) M = some (bI (pIn (k + 1) x), M) := by
  unfold fX7_isWithin pIn
  have e1 : (nI k < x) ↔ (k : Int) < x.toInt := by rw [Int32.lt_iff_toInt_lt, nI_toInt (by omega)]
  by_cases a : x.toInt < 0
  · rw [if_pos ((i0 x).mpr a), ck_b0, decide_eq_false (by omega)]; rfl
  · rw [if_neg (fun h => a ((i0 x).mp h))]
    by_cases c : (k : Int) < x.toInt
    · rw [if_pos (e1.mpr c), ck_b0, decide_eq_false (by omega)]; rfl
    · rw [if_neg (fun h => c (e1.mp h)), ck_b1, decide_eq_true (by omega)]; rfl
theorem x1_isPerson {M : Mem} {b : Nat} {L : Lan} (hC : CLn M b L) (hW : WF L) (x : Int32) : fX1_isPerson b x M = some (bI (pIn (gN L) x), M) := by
  have hn := hW.1
  have h6 : M b 6 = nI (gN L) := hC.2.2.2.2.2.2.1
  unfold fX1_isPerson pIn
  rw [h6]
  have e1 : (nI (gN L) ≤ x) ↔ (gN L : Int) ≤ x.toInt := by rw [Int32.le_iff_toInt_le, nI_toInt (by omega)]
  by_cases a : x.toInt < 0
  · rw [if_pos ((i0 x).mpr a), ck_b0, decide_eq_false (by omega)]; rfl
  · rw [if_neg (fun h => a ((i0 x).mp h))]
    by_cases c : (gN L : Int) ≤ x.toInt
    · rw [if_pos (e1.mpr c), ck_b0, decide_eq_false (by omega)]; rfl
    · rw [if_neg (fun h => c (e1.mp h)), ck_b1, decide_eq_true (by omega)]; rfl
theorem x1_areTwo {M : Mem} {b : Nat} {L : Lan} (hC : CLn M b L) (hW : WF L) (x y : Int32) : fX1_areTwo b x y M = some (bI (pIn (gN L) x && pIn (gN L) y && decide (x ≠ y)), M) := by
  unfold fX1_areTwo
  rw [x1_isPerson hC hW, bde]
  cases pIn (gN L) x
  · rfl
  · rw [if_neg (by decide), x1_isPerson hC hW, bde]
    cases pIn (gN L) y
    · rfl
    · rw [if_neg (by decide)]
      by_cases h : x = y
      · rw [if_pos h]; simp [h, ck_b0, bI]
      · rw [if_neg h]; simp [h, ck_b1, bI]
theorem x1_everybody {M : Mem} {b : Nat} {L : Lan} (hC : CLn M b L) (hW : WF L) : fX1_everybody b M = some (nI (2 ^ gN L - 1), M) := by
  have hn := hW.1
  have h6 : M b 6 = nI (gN L) := hC.2.2.2.2.2.2.1
  unfold fX1_everybody
  rw [h6, shl_1 (by omega), sb1 (Nat.two_pow_pos _)]
theorem pw16 {h : Nat} (hh : h ≤ 16) : 65535 * 2 ^ h % 2 ^ 16 = 65536 - 2 ^ h := by
  have : ∀ h, h < 17 → 65535 * 2 ^ h % 2 ^ 16 = 65536 - 2 ^ h := by decide +kernel
  exact this h (by omega)
/-- the hours of the rest, as a set -/
def rstN (L : Lan) : Nat := 65536 - 2 ^ gH L
theorem x1_hoursLeft {M : Mem} {b : Nat} {L : Lan} (hC : CLn M b L) (hW : WF L) : fX1_hoursLeft b M = some (nI (rstN L), M) := by
  have hn := hW.2.1
  have h8 : M b 8 = nI (gH L) := hC.2.2.2.2.2.2.2.2.1
  unfold fX1_hoursLeft
  have hp : 2 ^ gH L ≤ 2 ^ 16 := Nat.pow_le_pow_right (by decide) hn
  rw [h8, show (65535 : Int32) = nI 65535 from rfl, shl_nI (by omega) (by omega), nI_and, show (65535 : Nat) = 2 ^ 16 - 1 from rfl, Nat.and_two_pow_sub_one_eq_mod, pw16 hn]
  rfl
theorem firN_or (L : Lan) (a b h : Nat) : firN L a b h = a ∨ firN L a b h = b := by
  unfold firN
  split <;> omega
theorem x1_stronger {M : Mem} {b : Nat} {L : Lan} (hC : CLn M b L) (hW : WF L) {p q h : Nat} (hp : p < gN L) (hq : q < gN L) (hh : h < 100) : fX1_stronger b (nI p) (nI q) (nI h) M = some (nI (firN L p q h), M) := by
  have hn := hW.1
  unfold fX1_stronger firN
  have hmx : max p q < gN L := by omega
  have hmn : min p q < gN L := by omega
  have c1 := claimN_le hW (p := max p q) (by omega) h
  have c2 := claimN_le hW (p := min p q) (by omega) h
  simp (disch := omega) only [imin_nI, imax_nI, bve, x1_claimOf hC hW hmx hh, x1_claimOf hC hW hmn hh, bde, lit_le]
  split <;> rfl
theorem mI_mt {L : Lan} (hW : WF L) {p : Nat} (hp : p < gN L) (h : ¬ gMt L p = 0) : mI (gMt L p) = nI (gMt L p - 1) ∧ gMt L p - 1 < gN L := by
  have := (hW.2.2.2.2.1 p hp).1
  exact ⟨mI_pos (by omega), by omega⟩
theorem x1_havers_L29 {M : Mem} {b : Nat} {L : Lan} (hC : CLn M b L) (hW : WF L) (hh : gH L < 16) (hl : (gL L).testBit (gH L) = true) : ∀ n p : Nat, p ≤ gN L → gN L - p < n →
    fX1_havers_L29 b n (nI (stN (fun q => hasN L q (gH L)) p)) (nI p) M = some (nI (havN L (gH L)), M) := by
  have hn8 := hW.1
  obtain ⟨h1, h2, h3, h4, h5, h6, h7, h8, h9, -⟩ := id hC
  intro n
  induction n with
  | zero => intro p _ h; omega
  | succ n ih =>
    intro p hp hm
    rw [fX1_havers_L29]
    rcases Nat.lt_or_ge p (gN L) with hlt | hge
    · have hs := stN_lt (fun q => hasN L q (gH L)) p
      have hp8 : 2 ^ p < 2 ^ 8 := Nat.pow_lt_pow_right (by decide) (by omega)
      have hi := ih (p + 1) (by omega) (by omega)
      have hm1 := (hW.2.2.2.2.1 p hlt).1
      simp (disch := omega) only [bde, bve, wme, ck_in, ck_b0, ck_b1, ck_bI, ix_nI, bI_0, bI_1, nI_1, lit_le, lit_lt, lit_eq, ↓reduceIte, ckl_4_56, ckl_0_56, ckl_3_56, ckl_1_56, ckl_5_56, ckl_2_56, ckl_1_2, ckl_0_2, ckl_0_256, ckl_0_8, ckl_33_34, ckl_32_34, ixl_0, ixl_1, ixl_2, ixl_3, ixl_4, ixl_5, ixl_8, ixl_10, ixl_32, ixl_33, ixl_40, h7, h5, h9, mI_m1, Nat.not_le.mpr hlt]
      by_cases hm0 : gMt L p = 0
      · have hh : hasN L p (gH L) = true := by simp [hasN, hl, hm0]
        simp (disch := omega) only [hm0, bde, bve, wme, ck_in, ck_b0, ck_b1, ck_bI, ix_nI, bI_0, bI_1, nI_1, lit_le, lit_lt, lit_eq, ↓reduceIte, ckl_4_56, ckl_0_56, ckl_3_56, ckl_1_56, ckl_5_56, ckl_2_56, ckl_1_2, ckl_0_2, ckl_0_256, ckl_0_8, ckl_33_34, ckl_32_34, ixl_0, ixl_1, ixl_2, ixl_3, ixl_4, ixl_5, ixl_8, ixl_10, ixl_32, ixl_33, ixl_40, fX1_havers_L66, fX1_havers_L72, shl_1, nI_or, or_pow hs]
        rw [← hi]
        simp [stN, hh]
      · obtain ⟨e1, e2⟩ := mI_mt hW hlt hm0
        have hf := firN_or L p (gMt L p - 1) (gH L)
        rw [if_neg hm0, e1, x1_stronger hC hW hlt e2 (by omega), bde]
        by_cases hb : firN L p (gMt L p - 1) (gH L) = p
        · have hh : hasN L p (gH L) = true := by simp [hasN, hl, hb]
          rw [hb, if_pos rfl]
          simp (disch := omega) only [bde, bve, wme, ck_in, ck_b0, ck_b1, ck_bI, ix_nI, bI_0, bI_1, nI_1, lit_le, lit_lt, lit_eq, ↓reduceIte, ckl_4_56, ckl_0_56, ckl_3_56, ckl_1_56, ckl_5_56, ckl_2_56, ckl_1_2, ckl_0_2, ckl_0_256, ckl_0_8, ckl_33_34, ckl_32_34, ixl_0, ixl_1, ixl_2, ixl_3, ixl_4, ixl_5, ixl_8, ixl_10, ixl_32, ixl_33, ixl_40, fX1_havers_L66, fX1_havers_L72, shl_1, nI_or, or_pow hs]
          rw [← hi]
          simp [stN, hh]
        · have hh : hasN L p (gH L) = false := by simp [hasN, hl, hb, hm0]
          rw [if_neg (fun e => hb (nI_inj (by omega) (by omega) e))]
          simp (disch := omega) only [bde, bve, wme, ck_in, ck_b0, ck_b1, ck_bI, ix_nI, bI_0, bI_1, nI_1, lit_le, lit_lt, lit_eq, ↓reduceIte, ckl_4_56, ckl_0_56, ckl_3_56, ckl_1_56, ckl_5_56, ckl_2_56, ckl_1_2, ckl_0_2, ckl_0_256, ckl_0_8, ckl_33_34, ckl_32_34, ixl_0, ixl_1, ixl_2, ixl_3, ixl_4, ixl_5, ixl_8, ixl_10, ixl_32, ixl_33, ixl_40, fX1_havers_L72]
          rw [← hi]
          simp [stN, hh]
    · have he : p = gN L := by omega
      subst he
      simp (disch := omega) only [bde, bve, wme, ck_in, ck_b0, ck_b1, ck_bI, ix_nI, bI_0, bI_1, nI_1, lit_le, lit_lt, lit_eq, ↓reduceIte, ckl_4_56, ckl_0_56, ckl_3_56, ckl_1_56, ckl_5_56, ckl_2_56, ckl_1_2, ckl_0_2, ckl_0_256, ckl_0_8, ckl_33_34, ckl_32_34, ixl_0, ixl_1, ixl_2, ixl_3, ixl_4, ixl_5, ixl_8, ixl_10, ixl_32, ixl_33, ixl_40, h7, Nat.le_refl]
      rfl
theorem havN_dark {L : Lan} {h : Nat} (hl : (gL L).testBit h = false) : havN L h = 0 := by
  unfold havN
  have : (fun p => hasN L p h) = fun _ => false := by funext p; simp [hasN, hl]
  rw [this]
  have : ∀ n, stN (fun _ => false) n = 0 := by
    intro n
    induction n with
    | zero => rfl
    | succ n ih => simp [stN, ih]
  exact this _
/-- who has a shadow now -/
def nowN (L : Lan) : Nat := if gH L < 16 then havN L (gH L) else 0
theorem x1_havers {M : Mem} {b : Nat} {L : Lan} (hC : CLn M b L) (hW : WF L) : fX1_havers b M = some (nI (nowN L), M) := by
  have hn8 := hW.1
  have hh16 := hW.2.1
  have hlt := hW.2.2.1
  obtain ⟨h1, h2, h3, h4, h5, h6, h7, h8, h9, -⟩ := id hC
  have hv : nowN L = if gH L < 16 then havN L (gH L) else 0 := rfl
  unfold fX1_havers
  by_cases c : gH L < 16
  · rw [hv, if_pos c]
    simp (disch := omega) only [bde, bve, wme, ck_in, ck_b0, ck_b1, ck_bI, ix_nI, bI_0, bI_1, nI_1, lit_le, lit_lt, lit_eq, ↓reduceIte, ckl_4_56, ckl_0_56, ckl_3_56, ckl_1_56, ckl_5_56, ckl_2_56, ckl_1_2, ckl_0_2, ckl_0_256, ckl_0_8, ckl_33_34, ckl_32_34, ixl_0, ixl_1, ixl_2, ixl_3, ixl_4, ixl_5, ixl_8, ixl_10, ixl_32, ixl_33, ixl_40, h9, h8, ge16, x7_bit, Nat.not_le.mpr c]
    cases hl : (gL L).testBit (gH L)
    · simp only [havN_dark hl, ↓reduceIte]; rfl
    · simp only [reduceCtorEq, ↓reduceIte]
      exact x1_havers_L29 hC hW (by omega) hl fu 0 (Nat.zero_le _) (by show _ < 2000; omega)
  · rw [hv, if_neg c]
    simp (disch := omega) only [bde, bve, wme, ck_in, ck_b0, ck_b1, ck_bI, ix_nI, bI_0, bI_1, nI_1, lit_le, lit_lt, lit_eq, ↓reduceIte, ckl_4_56, ckl_0_56, ckl_3_56, ckl_1_56, ckl_5_56, ckl_2_56, ckl_1_2, ckl_0_2, ckl_0_256, ckl_0_8, ckl_33_34, ckl_32_34, ixl_0, ixl_1, ixl_2, ixl_3, ixl_4, ixl_5, ixl_8, ixl_10, ixl_32, ixl_33, ixl_40, h9, ge16, Nat.not_lt.mp c]
    rfl

/-! of, change, share, part, go, now, cold -/
theorem now_tb {L : Lan} {p : Nat} (hp : p < gN L) (hh : gH L < 16) : (nowN L).testBit p = hasN L p (gH L) := by
  rw [now_hav hh]
  unfold havN
  rw [stN_tb]
  simp [hp]
theorem now_lt {L : Lan} (hW : WF L) : nowN L < 256 := by
  unfold nowN
  split
  · have h := stN_lt (fun p => hasN L p (gH L)) (gN L)
    have h2 : 2 ^ gN L ≤ 2 ^ 8 := Nat.pow_le_pow_right (by decide) hW.1
    unfold havN
    omega
  · omega
theorem lt_or_cases {w n : Nat} (h : w < n) : w = n - 1 ∨ w < n - 1 := by omega
theorem tw_of {S : Sta} (hW : WFS S) (x y : Int32) : Two (fX7_of x y) (fX8_of x y) S := by
  have hn := hW.1.1
  have hh := hW.1.2.1
  cases hp : pIn (gN (tLa S)) x
  · refine two_fd hW (i := 0) (by decide) (fun M h => ?_) (fun M h => ?_)
    · unfold fX7_of
      rw [x1_isPerson h.1 hW.1, hp, bde, ifF]
      exact fd7 0 M
    · unfold fX8_of fX8_of_L18
      rw [x8_isPerson h.1 hW.1, hp, bde, ifF]
      exact fd8 0 M
  · cases hq : pIn 7 y
    · have n0 : ¬ y = 0 := pf_no hq (c := 0) (by decide) (by decide)
      have n1 : ¬ y = 1 := pf_no hq (c := 1) (by decide) (by decide)
      have n2 : ¬ y = 2 := pf_no hq (c := 2) (by decide) (by decide)
      have n3 : ¬ y = 3 := pf_no hq (c := 3) (by decide) (by decide)
      have n4 : ¬ y = 4 := pf_no hq (c := 4) (by decide) (by decide)
      have n5 : ¬ y = 5 := pf_no hq (c := 5) (by decide) (by decide)
      have n6 : ¬ y = 6 := pf_no hq (c := 6) (by decide) (by decide)
      refine two_fd hW (i := 0) (by decide) (fun M h => ?_) (fun M h => ?_)
      · unfold fX7_of
        rw [x1_isPerson h.1 hW.1, hp, bde, ifT, if_neg n0, if_neg n1, if_neg n2, if_neg n3, if_neg n4, if_neg n5, if_neg n6]
        exact fd7 0 M
      · unfold fX8_of fX8_of_L18
        rw [x8_isPerson h.1 hW.1, hp, bde, ifT, show (6 : Int32) = nI 6 from rfl, x8_within _ M (by decide), hq, bde, ifF]
        exact fd8 0 M
    · obtain ⟨p, hpn, rfl⟩ := pIn_ex hp (by omega)
      obtain ⟨w, hw, rfl⟩ := pIn_ex hq (by decide)
      have hp8 : p < 8 := by omega
      have r8 : ∀ M, AR M S → fX8_of (nI p) (nI w) M = (if 5 ≤ nI w then (bd (fX8_isOver M) fun r6 M5 => (if r6 = 0 then (if nI w = 5 then (ck (inb 0 56) (bd (fX8_claimOf (nI p) (M5 58 (ix 0)) M5) fun r10 M9 => (some (r10, M9)))) else (ck (inb 0 56) (bd (fX8_hasShadow (nI p) (M5 58 (ix 0)) M5) fun r8 M7 => (if r8 = 0 then (some (0, M7)) else (some (1, M7)))))) else (some (0, M5)))) else (bd (fX8_personIs (nI p) (nI w) M) fun r12 M11 => (some (r12, M11)))) := by
        intro M h
        unfold fX8_of
        rw [x8_isPerson h.1 hW.1, hp, bde, ifT, show (6 : Int32) = nI 6 from rfl, x8_within _ M (by decide), hq, bde, ifT]
      have r7 : ∀ M, AC M S → fX7_of (nI p) (nI w) M = (if nI w = 0 then (ck (inb (nI p) 8) (some (M 2 (ix (nI p)), M))) else (if nI w = 1 then (ck (inb (nI p) 8) (some (M 3 (ix (nI p)), M))) else (if nI w = 2 then (ck (inb (nI p) 8) (some (M 4 (ix (nI p)), M))) else (if nI w = 3 then (ck (inb (nI p) 8) (some (M 5 (ix (nI p)), M))) else (if nI w = 4 then (ck (inb (nI p) 8) (some (M 6 (ix (nI p)), M))) else (if nI w = 5 then (if 16 ≤ (M 1 8) then (some (0, M)) else (bd (fX1_claimOf 1 (nI p) (M 1 8) M) fun r4 M3 => (some (r4, M3)))) else (if nI w = 6 then (bd (fX1_havers 1 M) fun r6 M5 => (bd (fX7_bit r6 (nI p) M5) fun r8 M7 => (some (r8, M7)))) else (bd (fX7_found 0 M) fun r10 M9 => (some (r10, M9)))))))))) := by
        intro M h
        unfold fX7_of
        rw [x1_isPerson h.1 hW.1, hp, bde, ifT]
      have l8 := now_lt hW.1
      rcases (show w = 0 ∨ w = 1 ∨ w = 2 ∨ w = 3 ∨ w = 4 ∨ w = 5 ∨ w = 6 by omega) with rfl | rfl | rfl | rfl | rfl | rfl | rfl
      · refine two_q0 hW (nI (gKd (tLa S) p)) (fun M h => ?_) (fun M h => ?_)
        · rw [r7 M h]; simp (disch := omega) only [bde, bve, wme, ck_in, ck_b0, ck_b1, ck_bI, ix_nI, bI_0, bI_1, nI_1, lit_le, lit_lt, lit_eq, ↓reduceIte, ckl_4_56, ckl_0_56, ckl_3_56, ckl_1_56, ckl_5_56, ckl_2_56, ckl_1_2, ckl_0_2, ckl_0_256, ckl_0_8, ckl_33_34, ckl_32_34, ixl_0, ixl_1, ixl_2, ixl_3, ixl_4, ixl_5, ixl_8, ixl_10, ixl_32, ixl_33, ixl_40, q0, le0, ge0, lt0, gt0, q1, le1, ge1, lt1, gt1, q2, le2, ge2, lt2, gt2, q3, le3, ge3, lt3, gt3, q4, le4, ge4, lt4, gt4, q5, le5, ge5, lt5, gt5, q6, le6, ge6, lt6, gt6, q7, le7, ge7, lt7, gt7, q8, le8, ge8, lt8, gt8, q9, le9, ge9, lt9, gt9, q10, le10, ge10, lt10, gt10, q12, le12, ge12, lt12, gt12, q15, le15, ge15, lt15, gt15, q16, le16, ge16, lt16, gt16, q20, le20, ge20, lt20, gt20, q40, le40, ge40, lt40, gt40, q50, le50, ge50, lt50, gt50, q56, le56, ge56, lt56, gt56, q99, le99, ge99, lt99, gt99, q120, le120, ge120, lt120, gt120, q121, le121, ge121, lt121, gt121, q97, le97, ge97, lt97, gt97, q122, le122, ge122, lt122, gt122, q48, le48, ge48, lt48, gt48, q57, le57, ge57, lt57, gt57, q32, le32, ge32, lt32, gt32, q59, le59, ge59, lt59, gt59, q65535, le65535, ge65535, lt65535, gt65535, q99999, le99999, ge99999, lt99999, gt99999, q100000, le100000, ge100000, lt100000, gt100000, q90000, le90000, ge90000, lt90000, gt90000, q1000000, le1000000, ge1000000, lt1000000, gt1000000, h.1.1 p hp8]
        · rw [r8 M h]; simp (disch := omega) only [bde, bve, wme, ck_in, ck_b0, ck_b1, ck_bI, ix_nI, bI_0, bI_1, nI_1, lit_le, lit_lt, lit_eq, ↓reduceIte, ckl_4_56, ckl_0_56, ckl_3_56, ckl_1_56, ckl_5_56, ckl_2_56, ckl_1_2, ckl_0_2, ckl_0_256, ckl_0_8, ckl_33_34, ckl_32_34, ixl_0, ixl_1, ixl_2, ixl_3, ixl_4, ixl_5, ixl_8, ixl_10, ixl_32, ixl_33, ixl_40, q0, le0, ge0, lt0, gt0, q1, le1, ge1, lt1, gt1, q2, le2, ge2, lt2, gt2, q3, le3, ge3, lt3, gt3, q4, le4, ge4, lt4, gt4, q5, le5, ge5, lt5, gt5, q6, le6, ge6, lt6, gt6, q7, le7, ge7, lt7, gt7, q8, le8, ge8, lt8, gt8, q9, le9, ge9, lt9, gt9, q10, le10, ge10, lt10, gt10, q12, le12, ge12, lt12, gt12, q15, le15, ge15, lt15, gt15, q16, le16, ge16, lt16, gt16, q20, le20, ge20, lt20, gt20, q40, le40, ge40, lt40, gt40, q50, le50, ge50, lt50, gt50, q56, le56, ge56, lt56, gt56, q99, le99, ge99, lt99, gt99, q120, le120, ge120, lt120, gt120, q121, le121, ge121, lt121, gt121, q97, le97, ge97, lt97, gt97, q122, le122, ge122, lt122, gt122, q48, le48, ge48, lt48, gt48, q57, le57, ge57, lt57, gt57, q32, le32, ge32, lt32, gt32, q59, le59, ge59, lt59, gt59, q65535, le65535, ge65535, lt65535, gt65535, q99999, le99999, ge99999, lt99999, gt99999, q100000, le100000, ge100000, lt100000, gt100000, q90000, le90000, ge90000, lt90000, gt90000, q1000000, le1000000, ge1000000, lt1000000, gt1000000, show fX8_personIs (nI p) (nI 0) M = _ from x8_Kd h.1 hp8]; simp
      · refine two_q0 hW (nI (gSu (tLa S) p)) (fun M h => ?_) (fun M h => ?_)
        · rw [r7 M h]; simp (disch := omega) only [bde, bve, wme, ck_in, ck_b0, ck_b1, ck_bI, ix_nI, bI_0, bI_1, nI_1, lit_le, lit_lt, lit_eq, ↓reduceIte, ckl_4_56, ckl_0_56, ckl_3_56, ckl_1_56, ckl_5_56, ckl_2_56, ckl_1_2, ckl_0_2, ckl_0_256, ckl_0_8, ckl_33_34, ckl_32_34, ixl_0, ixl_1, ixl_2, ixl_3, ixl_4, ixl_5, ixl_8, ixl_10, ixl_32, ixl_33, ixl_40, q0, le0, ge0, lt0, gt0, q1, le1, ge1, lt1, gt1, q2, le2, ge2, lt2, gt2, q3, le3, ge3, lt3, gt3, q4, le4, ge4, lt4, gt4, q5, le5, ge5, lt5, gt5, q6, le6, ge6, lt6, gt6, q7, le7, ge7, lt7, gt7, q8, le8, ge8, lt8, gt8, q9, le9, ge9, lt9, gt9, q10, le10, ge10, lt10, gt10, q12, le12, ge12, lt12, gt12, q15, le15, ge15, lt15, gt15, q16, le16, ge16, lt16, gt16, q20, le20, ge20, lt20, gt20, q40, le40, ge40, lt40, gt40, q50, le50, ge50, lt50, gt50, q56, le56, ge56, lt56, gt56, q99, le99, ge99, lt99, gt99, q120, le120, ge120, lt120, gt120, q121, le121, ge121, lt121, gt121, q97, le97, ge97, lt97, gt97, q122, le122, ge122, lt122, gt122, q48, le48, ge48, lt48, gt48, q57, le57, ge57, lt57, gt57, q32, le32, ge32, lt32, gt32, q59, le59, ge59, lt59, gt59, q65535, le65535, ge65535, lt65535, gt65535, q99999, le99999, ge99999, lt99999, gt99999, q100000, le100000, ge100000, lt100000, gt100000, q90000, le90000, ge90000, lt90000, gt90000, q1000000, le1000000, ge1000000, lt1000000, gt1000000, h.1.2.1 p hp8]; simp [h.1.2.1 p hp8]
        · rw [r8 M h]; simp (disch := omega) only [bde, bve, wme, ck_in, ck_b0, ck_b1, ck_bI, ix_nI, bI_0, bI_1, nI_1, lit_le, lit_lt, lit_eq, ↓reduceIte, ckl_4_56, ckl_0_56, ckl_3_56, ckl_1_56, ckl_5_56, ckl_2_56, ckl_1_2, ckl_0_2, ckl_0_256, ckl_0_8, ckl_33_34, ckl_32_34, ixl_0, ixl_1, ixl_2, ixl_3, ixl_4, ixl_5, ixl_8, ixl_10, ixl_32, ixl_33, ixl_40, q0, le0, ge0, lt0, gt0, q1, le1, ge1, lt1, gt1, q2, le2, ge2, lt2, gt2, q3, le3, ge3, lt3, gt3, q4, le4, ge4, lt4, gt4, q5, le5, ge5, lt5, gt5, q6, le6, ge6, lt6, gt6, q7, le7, ge7, lt7, gt7, q8, le8, ge8, lt8, gt8, q9, le9, ge9, lt9, gt9, q10, le10, ge10, lt10, gt10, q12, le12, ge12, lt12, gt12, q15, le15, ge15, lt15, gt15, q16, le16, ge16, lt16, gt16, q20, le20, ge20, lt20, gt20, q40, le40, ge40, lt40, gt40, q50, le50, ge50, lt50, gt50, q56, le56, ge56, lt56, gt56, q99, le99, ge99, lt99, gt99, q120, le120, ge120, lt120, gt120, q121, le121, ge121, lt121, gt121, q97, le97, ge97, lt97, gt97, q122, le122, ge122, lt122, gt122, q48, le48, ge48, lt48, gt48, q57, le57, ge57, lt57, gt57, q32, le32, ge32, lt32, gt32, q59, le59, ge59, lt59, gt59, q65535, le65535, ge65535, lt65535, gt65535, q99999, le99999, ge99999, lt99999, gt99999, q100000, le100000, ge100000, lt100000, gt100000, q90000, le90000, ge90000, lt90000, gt90000, q1000000, le1000000, ge1000000, lt1000000, gt1000000, show fX8_personIs (nI p) (nI 1) M = _ from x8_Su h.1 hp8]; simp
      · refine two_q0 hW (nI (gSg (tLa S) p)) (fun M h => ?_) (fun M h => ?_)
        · rw [r7 M h]; simp (disch := omega) only [bde, bve, wme, ck_in, ck_b0, ck_b1, ck_bI, ix_nI, bI_0, bI_1, nI_1, lit_le, lit_lt, lit_eq, ↓reduceIte, ckl_4_56, ckl_0_56, ckl_3_56, ckl_1_56, ckl_5_56, ckl_2_56, ckl_1_2, ckl_0_2, ckl_0_256, ckl_0_8, ckl_33_34, ckl_32_34, ixl_0, ixl_1, ixl_2, ixl_3, ixl_4, ixl_5, ixl_8, ixl_10, ixl_32, ixl_33, ixl_40, q0, le0, ge0, lt0, gt0, q1, le1, ge1, lt1, gt1, q2, le2, ge2, lt2, gt2, q3, le3, ge3, lt3, gt3, q4, le4, ge4, lt4, gt4, q5, le5, ge5, lt5, gt5, q6, le6, ge6, lt6, gt6, q7, le7, ge7, lt7, gt7, q8, le8, ge8, lt8, gt8, q9, le9, ge9, lt9, gt9, q10, le10, ge10, lt10, gt10, q12, le12, ge12, lt12, gt12, q15, le15, ge15, lt15, gt15, q16, le16, ge16, lt16, gt16, q20, le20, ge20, lt20, gt20, q40, le40, ge40, lt40, gt40, q50, le50, ge50, lt50, gt50, q56, le56, ge56, lt56, gt56, q99, le99, ge99, lt99, gt99, q120, le120, ge120, lt120, gt120, q121, le121, ge121, lt121, gt121, q97, le97, ge97, lt97, gt97, q122, le122, ge122, lt122, gt122, q48, le48, ge48, lt48, gt48, q57, le57, ge57, lt57, gt57, q32, le32, ge32, lt32, gt32, q59, le59, ge59, lt59, gt59, q65535, le65535, ge65535, lt65535, gt65535, q99999, le99999, ge99999, lt99999, gt99999, q100000, le100000, ge100000, lt100000, gt100000, q90000, le90000, ge90000, lt90000, gt90000, q1000000, le1000000, ge1000000, lt1000000, gt1000000]; simp [h.1.2.2.1 p hp8]
        · rw [r8 M h]; simp (disch := omega) only [bde, bve, wme, ck_in, ck_b0, ck_b1, ck_bI, ix_nI, bI_0, bI_1, nI_1, lit_le, lit_lt, lit_eq, ↓reduceIte, ckl_4_56, ckl_0_56, ckl_3_56, ckl_1_56, ckl_5_56, ckl_2_56, ckl_1_2, ckl_0_2, ckl_0_256, ckl_0_8, ckl_33_34, ckl_32_34, ixl_0, ixl_1, ixl_2, ixl_3, ixl_4, ixl_5, ixl_8, ixl_10, ixl_32, ixl_33, ixl_40, q0, le0, ge0, lt0, gt0, q1, le1, ge1, lt1, gt1, q2, le2, ge2, lt2, gt2, q3, le3, ge3, lt3, gt3, q4, le4, ge4, lt4, gt4, q5, le5, ge5, lt5, gt5, q6, le6, ge6, lt6, gt6, q7, le7, ge7, lt7, gt7, q8, le8, ge8, lt8, gt8, q9, le9, ge9, lt9, gt9, q10, le10, ge10, lt10, gt10, q12, le12, ge12, lt12, gt12, q15, le15, ge15, lt15, gt15, q16, le16, ge16, lt16, gt16, q20, le20, ge20, lt20, gt20, q40, le40, ge40, lt40, gt40, q50, le50, ge50, lt50, gt50, q56, le56, ge56, lt56, gt56, q99, le99, ge99, lt99, gt99, q120, le120, ge120, lt120, gt120, q121, le121, ge121, lt121, gt121, q97, le97, ge97, lt97, gt97, q122, le122, ge122, lt122, gt122, q48, le48, ge48, lt48, gt48, q57, le57, ge57, lt57, gt57, q32, le32, ge32, lt32, gt32, q59, le59, ge59, lt59, gt59, q65535, le65535, ge65535, lt65535, gt65535, q99999, le99999, ge99999, lt99999, gt99999, q100000, le100000, ge100000, lt100000, gt100000, q90000, le90000, ge90000, lt90000, gt90000, q1000000, le1000000, ge1000000, lt1000000, gt1000000, show fX8_personIs (nI p) (nI 2) M = _ from x8_Sg h.1 hp8]; simp
      · refine two_q0 hW (nI (gNd (tLa S) p)) (fun M h => ?_) (fun M h => ?_)
        · rw [r7 M h]; simp (disch := omega) only [bde, bve, wme, ck_in, ck_b0, ck_b1, ck_bI, ix_nI, bI_0, bI_1, nI_1, lit_le, lit_lt, lit_eq, ↓reduceIte, ckl_4_56, ckl_0_56, ckl_3_56, ckl_1_56, ckl_5_56, ckl_2_56, ckl_1_2, ckl_0_2, ckl_0_256, ckl_0_8, ckl_33_34, ckl_32_34, ixl_0, ixl_1, ixl_2, ixl_3, ixl_4, ixl_5, ixl_8, ixl_10, ixl_32, ixl_33, ixl_40, q0, le0, ge0, lt0, gt0, q1, le1, ge1, lt1, gt1, q2, le2, ge2, lt2, gt2, q3, le3, ge3, lt3, gt3, q4, le4, ge4, lt4, gt4, q5, le5, ge5, lt5, gt5, q6, le6, ge6, lt6, gt6, q7, le7, ge7, lt7, gt7, q8, le8, ge8, lt8, gt8, q9, le9, ge9, lt9, gt9, q10, le10, ge10, lt10, gt10, q12, le12, ge12, lt12, gt12, q15, le15, ge15, lt15, gt15, q16, le16, ge16, lt16, gt16, q20, le20, ge20, lt20, gt20, q40, le40, ge40, lt40, gt40, q50, le50, ge50, lt50, gt50, q56, le56, ge56, lt56, gt56, q99, le99, ge99, lt99, gt99, q120, le120, ge120, lt120, gt120, q121, le121, ge121, lt121, gt121, q97, le97, ge97, lt97, gt97, q122, le122, ge122, lt122, gt122, q48, le48, ge48, lt48, gt48, q57, le57, ge57, lt57, gt57, q32, le32, ge32, lt32, gt32, q59, le59, ge59, lt59, gt59, q65535, le65535, ge65535, lt65535, gt65535, q99999, le99999, ge99999, lt99999, gt99999, q100000, le100000, ge100000, lt100000, gt100000, q90000, le90000, ge90000, lt90000, gt90000, q1000000, le1000000, ge1000000, lt1000000, gt1000000]; simp [h.1.2.2.2.1 p hp8]
        · rw [r8 M h]; simp (disch := omega) only [bde, bve, wme, ck_in, ck_b0, ck_b1, ck_bI, ix_nI, bI_0, bI_1, nI_1, lit_le, lit_lt, lit_eq, ↓reduceIte, ckl_4_56, ckl_0_56, ckl_3_56, ckl_1_56, ckl_5_56, ckl_2_56, ckl_1_2, ckl_0_2, ckl_0_256, ckl_0_8, ckl_33_34, ckl_32_34, ixl_0, ixl_1, ixl_2, ixl_3, ixl_4, ixl_5, ixl_8, ixl_10, ixl_32, ixl_33, ixl_40, q0, le0, ge0, lt0, gt0, q1, le1, ge1, lt1, gt1, q2, le2, ge2, lt2, gt2, q3, le3, ge3, lt3, gt3, q4, le4, ge4, lt4, gt4, q5, le5, ge5, lt5, gt5, q6, le6, ge6, lt6, gt6, q7, le7, ge7, lt7, gt7, q8, le8, ge8, lt8, gt8, q9, le9, ge9, lt9, gt9, q10, le10, ge10, lt10, gt10, q12, le12, ge12, lt12, gt12, q15, le15, ge15, lt15, gt15, q16, le16, ge16, lt16, gt16, q20, le20, ge20, lt20, gt20, q40, le40, ge40, lt40, gt40, q50, le50, ge50, lt50, gt50, q56, le56, ge56, lt56, gt56, q99, le99, ge99, lt99, gt99, q120, le120, ge120, lt120, gt120, q121, le121, ge121, lt121, gt121, q97, le97, ge97, lt97, gt97, q122, le122, ge122, lt122, gt122, q48, le48, ge48, lt48, gt48, q57, le57, ge57, lt57, gt57, q32, le32, ge32, lt32, gt32, q59, le59, ge59, lt59, gt59, q65535, le65535, ge65535, lt65535, gt65535, q99999, le99999, ge99999, lt99999, gt99999, q100000, le100000, ge100000, lt100000, gt100000, q90000, le90000, ge90000, lt90000, gt90000, q1000000, le1000000, ge1000000, lt1000000, gt1000000, show fX8_personIs (nI p) (nI 3) M = _ from x8_Nd h.1 hp8]; simp
      · refine two_q0 hW (mI (gMt (tLa S) p)) (fun M h => ?_) (fun M h => ?_)
        · rw [r7 M h]; simp (disch := omega) only [bde, bve, wme, ck_in, ck_b0, ck_b1, ck_bI, ix_nI, bI_0, bI_1, nI_1, lit_le, lit_lt, lit_eq, ↓reduceIte, ckl_4_56, ckl_0_56, ckl_3_56, ckl_1_56, ckl_5_56, ckl_2_56, ckl_1_2, ckl_0_2, ckl_0_256, ckl_0_8, ckl_33_34, ckl_32_34, ixl_0, ixl_1, ixl_2, ixl_3, ixl_4, ixl_5, ixl_8, ixl_10, ixl_32, ixl_33, ixl_40, q0, le0, ge0, lt0, gt0, q1, le1, ge1, lt1, gt1, q2, le2, ge2, lt2, gt2, q3, le3, ge3, lt3, gt3, q4, le4, ge4, lt4, gt4, q5, le5, ge5, lt5, gt5, q6, le6, ge6, lt6, gt6, q7, le7, ge7, lt7, gt7, q8, le8, ge8, lt8, gt8, q9, le9, ge9, lt9, gt9, q10, le10, ge10, lt10, gt10, q12, le12, ge12, lt12, gt12, q15, le15, ge15, lt15, gt15, q16, le16, ge16, lt16, gt16, q20, le20, ge20, lt20, gt20, q40, le40, ge40, lt40, gt40, q50, le50, ge50, lt50, gt50, q56, le56, ge56, lt56, gt56, q99, le99, ge99, lt99, gt99, q120, le120, ge120, lt120, gt120, q121, le121, ge121, lt121, gt121, q97, le97, ge97, lt97, gt97, q122, le122, ge122, lt122, gt122, q48, le48, ge48, lt48, gt48, q57, le57, ge57, lt57, gt57, q32, le32, ge32, lt32, gt32, q59, le59, ge59, lt59, gt59, q65535, le65535, ge65535, lt65535, gt65535, q99999, le99999, ge99999, lt99999, gt99999, q100000, le100000, ge100000, lt100000, gt100000, q90000, le90000, ge90000, lt90000, gt90000, q1000000, le1000000, ge1000000, lt1000000, gt1000000]; simp [h.1.2.2.2.2.1 p hp8]
        · rw [r8 M h]; simp (disch := omega) only [bde, bve, wme, ck_in, ck_b0, ck_b1, ck_bI, ix_nI, bI_0, bI_1, nI_1, lit_le, lit_lt, lit_eq, ↓reduceIte, ckl_4_56, ckl_0_56, ckl_3_56, ckl_1_56, ckl_5_56, ckl_2_56, ckl_1_2, ckl_0_2, ckl_0_256, ckl_0_8, ckl_33_34, ckl_32_34, ixl_0, ixl_1, ixl_2, ixl_3, ixl_4, ixl_5, ixl_8, ixl_10, ixl_32, ixl_33, ixl_40, q0, le0, ge0, lt0, gt0, q1, le1, ge1, lt1, gt1, q2, le2, ge2, lt2, gt2, q3, le3, ge3, lt3, gt3, q4, le4, ge4, lt4, gt4, q5, le5, ge5, lt5, gt5, q6, le6, ge6, lt6, gt6, q7, le7, ge7, lt7, gt7, q8, le8, ge8, lt8, gt8, q9, le9, ge9, lt9, gt9, q10, le10, ge10, lt10, gt10, q12, le12, ge12, lt12, gt12, q15, le15, ge15, lt15, gt15, q16, le16, ge16, lt16, gt16, q20, le20, ge20, lt20, gt20, q40, le40, ge40, lt40, gt40, q50, le50, ge50, lt50, gt50, q56, le56, ge56, lt56, gt56, q99, le99, ge99, lt99, gt99, q120, le120, ge120, lt120, gt120, q121, le121, ge121, lt121, gt121, q97, le97, ge97, lt97, gt97, q122, le122, ge122, lt122, gt122, q48, le48, ge48, lt48, gt48, q57, le57, ge57, lt57, gt57, q32, le32, ge32, lt32, gt32, q59, le59, ge59, lt59, gt59, q65535, le65535, ge65535, lt65535, gt65535, q99999, le99999, ge99999, lt99999, gt99999, q100000, le100000, ge100000, lt100000, gt100000, q90000, le90000, ge90000, lt90000, gt90000, q1000000, le1000000, ge1000000, lt1000000, gt1000000, show fX8_personIs (nI p) (nI 4) M = _ from x8_Mt h.1 hp8]; simp
      · by_cases ho : gH (tLa S) = 16
        · refine two_q0 hW 0 (fun M h => ?_) (fun M h => ?_)
          · have g8 : M 1 8 = nI (gH (tLa S)) := h.1.2.2.2.2.2.2.2.2.1
            rw [r7 M h]; simp (disch := omega) only [bde, bve, wme, ck_in, ck_b0, ck_b1, ck_bI, ix_nI, bI_0, bI_1, nI_1, lit_le, lit_lt, lit_eq, ↓reduceIte, ckl_4_56, ckl_0_56, ckl_3_56, ckl_1_56, ckl_5_56, ckl_2_56, ckl_1_2, ckl_0_2, ckl_0_256, ckl_0_8, ckl_33_34, ckl_32_34, ixl_0, ixl_1, ixl_2, ixl_3, ixl_4, ixl_5, ixl_8, ixl_10, ixl_32, ixl_33, ixl_40, q0, le0, ge0, lt0, gt0, q1, le1, ge1, lt1, gt1, q2, le2, ge2, lt2, gt2, q3, le3, ge3, lt3, gt3, q4, le4, ge4, lt4, gt4, q5, le5, ge5, lt5, gt5, q6, le6, ge6, lt6, gt6, q7, le7, ge7, lt7, gt7, q8, le8, ge8, lt8, gt8, q9, le9, ge9, lt9, gt9, q10, le10, ge10, lt10, gt10, q12, le12, ge12, lt12, gt12, q15, le15, ge15, lt15, gt15, q16, le16, ge16, lt16, gt16, q20, le20, ge20, lt20, gt20, q40, le40, ge40, lt40, gt40, q50, le50, ge50, lt50, gt50, q56, le56, ge56, lt56, gt56, q99, le99, ge99, lt99, gt99, q120, le120, ge120, lt120, gt120, q121, le121, ge121, lt121, gt121, q97, le97, ge97, lt97, gt97, q122, le122, ge122, lt122, gt122, q48, le48, ge48, lt48, gt48, q57, le57, ge57, lt57, gt57, q32, le32, ge32, lt32, gt32, q59, le59, ge59, lt59, gt59, q65535, le65535, ge65535, lt65535, gt65535, q99999, le99999, ge99999, lt99999, gt99999, q100000, le100000, ge100000, lt100000, gt100000, q90000, le90000, ge90000, lt90000, gt90000, q1000000, le1000000, ge1000000, lt1000000, gt1000000, g8, ho]; simp
          · rw [r8 M h]; simp (disch := omega) only [bde, bve, wme, ck_in, ck_b0, ck_b1, ck_bI, ix_nI, bI_0, bI_1, nI_1, lit_le, lit_lt, lit_eq, ↓reduceIte, ckl_4_56, ckl_0_56, ckl_3_56, ckl_1_56, ckl_5_56, ckl_2_56, ckl_1_2, ckl_0_2, ckl_0_256, ckl_0_8, ckl_33_34, ckl_32_34, ixl_0, ixl_1, ixl_2, ixl_3, ixl_4, ixl_5, ixl_8, ixl_10, ixl_32, ixl_33, ixl_40, q0, le0, ge0, lt0, gt0, q1, le1, ge1, lt1, gt1, q2, le2, ge2, lt2, gt2, q3, le3, ge3, lt3, gt3, q4, le4, ge4, lt4, gt4, q5, le5, ge5, lt5, gt5, q6, le6, ge6, lt6, gt6, q7, le7, ge7, lt7, gt7, q8, le8, ge8, lt8, gt8, q9, le9, ge9, lt9, gt9, q10, le10, ge10, lt10, gt10, q12, le12, ge12, lt12, gt12, q15, le15, ge15, lt15, gt15, q16, le16, ge16, lt16, gt16, q20, le20, ge20, lt20, gt20, q40, le40, ge40, lt40, gt40, q50, le50, ge50, lt50, gt50, q56, le56, ge56, lt56, gt56, q99, le99, ge99, lt99, gt99, q120, le120, ge120, lt120, gt120, q121, le121, ge121, lt121, gt121, q97, le97, ge97, lt97, gt97, q122, le122, ge122, lt122, gt122, q48, le48, ge48, lt48, gt48, q57, le57, ge57, lt57, gt57, q32, le32, ge32, lt32, gt32, q59, le59, ge59, lt59, gt59, q65535, le65535, ge65535, lt65535, gt65535, q99999, le99999, ge99999, lt99999, gt99999, q100000, le100000, ge100000, lt100000, gt100000, q90000, le90000, ge90000, lt90000, gt90000, q1000000, le1000000, ge1000000, lt1000000, gt1000000, x8_isOver h.1 hW.1, ho]; simp
        · have ho2 : ¬ 16 ≤ gH (tLa S) := by omega
          refine two_q0 hW (nI (claimN (tLa S) p (gH (tLa S)))) (fun M h => ?_) (fun M h => ?_)
          · have g8 : M 1 8 = nI (gH (tLa S)) := h.1.2.2.2.2.2.2.2.2.1
            rw [r7 M h]; simp (disch := omega) only [bde, bve, wme, ck_in, ck_b0, ck_b1, ck_bI, ix_nI, bI_0, bI_1, nI_1, lit_le, lit_lt, lit_eq, ↓reduceIte, ckl_4_56, ckl_0_56, ckl_3_56, ckl_1_56, ckl_5_56, ckl_2_56, ckl_1_2, ckl_0_2, ckl_0_256, ckl_0_8, ckl_33_34, ckl_32_34, ixl_0, ixl_1, ixl_2, ixl_3, ixl_4, ixl_5, ixl_8, ixl_10, ixl_32, ixl_33, ixl_40, q0, le0, ge0, lt0, gt0, q1, le1, ge1, lt1, gt1, q2, le2, ge2, lt2, gt2, q3, le3, ge3, lt3, gt3, q4, le4, ge4, lt4, gt4, q5, le5, ge5, lt5, gt5, q6, le6, ge6, lt6, gt6, q7, le7, ge7, lt7, gt7, q8, le8, ge8, lt8, gt8, q9, le9, ge9, lt9, gt9, q10, le10, ge10, lt10, gt10, q12, le12, ge12, lt12, gt12, q15, le15, ge15, lt15, gt15, q16, le16, ge16, lt16, gt16, q20, le20, ge20, lt20, gt20, q40, le40, ge40, lt40, gt40, q50, le50, ge50, lt50, gt50, q56, le56, ge56, lt56, gt56, q99, le99, ge99, lt99, gt99, q120, le120, ge120, lt120, gt120, q121, le121, ge121, lt121, gt121, q97, le97, ge97, lt97, gt97, q122, le122, ge122, lt122, gt122, q48, le48, ge48, lt48, gt48, q57, le57, ge57, lt57, gt57, q32, le32, ge32, lt32, gt32, q59, le59, ge59, lt59, gt59, q65535, le65535, ge65535, lt65535, gt65535, q99999, le99999, ge99999, lt99999, gt99999, q100000, le100000, ge100000, lt100000, gt100000, q90000, le90000, ge90000, lt90000, gt90000, q1000000, le1000000, ge1000000, lt1000000, gt1000000, g8, ho2, x1_claimOf h.1 hW.1 hpn (show gH (tLa S) < 100 by omega)]; simp
          · have g0 : M 58 0 = nI (gH (tLa S)) := h.1.2.2.2.2.2.2.2.2.1
            rw [r8 M h]; simp (disch := omega) only [bde, bve, wme, ck_in, ck_b0, ck_b1, ck_bI, ix_nI, bI_0, bI_1, nI_1, lit_le, lit_lt, lit_eq, ↓reduceIte, ckl_4_56, ckl_0_56, ckl_3_56, ckl_1_56, ckl_5_56, ckl_2_56, ckl_1_2, ckl_0_2, ckl_0_256, ckl_0_8, ckl_33_34, ckl_32_34, ixl_0, ixl_1, ixl_2, ixl_3, ixl_4, ixl_5, ixl_8, ixl_10, ixl_32, ixl_33, ixl_40, q0, le0, ge0, lt0, gt0, q1, le1, ge1, lt1, gt1, q2, le2, ge2, lt2, gt2, q3, le3, ge3, lt3, gt3, q4, le4, ge4, lt4, gt4, q5, le5, ge5, lt5, gt5, q6, le6, ge6, lt6, gt6, q7, le7, ge7, lt7, gt7, q8, le8, ge8, lt8, gt8, q9, le9, ge9, lt9, gt9, q10, le10, ge10, lt10, gt10, q12, le12, ge12, lt12, gt12, q15, le15, ge15, lt15, gt15, q16, le16, ge16, lt16, gt16, q20, le20, ge20, lt20, gt20, q40, le40, ge40, lt40, gt40, q50, le50, ge50, lt50, gt50, q56, le56, ge56, lt56, gt56, q99, le99, ge99, lt99, gt99, q120, le120, ge120, lt120, gt120, q121, le121, ge121, lt121, gt121, q97, le97, ge97, lt97, gt97, q122, le122, ge122, lt122, gt122, q48, le48, ge48, lt48, gt48, q57, le57, ge57, lt57, gt57, q32, le32, ge32, lt32, gt32, q59, le59, ge59, lt59, gt59, q65535, le65535, ge65535, lt65535, gt65535, q99999, le99999, ge99999, lt99999, gt99999, q100000, le100000, ge100000, lt100000, gt100000, q90000, le90000, ge90000, lt90000, gt90000, q1000000, le1000000, ge1000000, lt1000000, gt1000000, x8_isOver h.1 hW.1, ho, decide_false, g0, x8_claimOf h.1 hW.1 hpn (show gH (tLa S) < 100 by omega)]; simp
      · refine two_q0 hW (bI ((nowN (tLa S)).testBit p)) (fun M h => ?_) (fun M h => ?_)
        · rw [r7 M h]; simp (disch := omega) only [bde, bve, wme, ck_in, ck_b0, ck_b1, ck_bI, ix_nI, bI_0, bI_1, nI_1, lit_le, lit_lt, lit_eq, ↓reduceIte, ckl_4_56, ckl_0_56, ckl_3_56, ckl_1_56, ckl_5_56, ckl_2_56, ckl_1_2, ckl_0_2, ckl_0_256, ckl_0_8, ckl_33_34, ckl_32_34, ixl_0, ixl_1, ixl_2, ixl_3, ixl_4, ixl_5, ixl_8, ixl_10, ixl_32, ixl_33, ixl_40, q0, le0, ge0, lt0, gt0, q1, le1, ge1, lt1, gt1, q2, le2, ge2, lt2, gt2, q3, le3, ge3, lt3, gt3, q4, le4, ge4, lt4, gt4, q5, le5, ge5, lt5, gt5, q6, le6, ge6, lt6, gt6, q7, le7, ge7, lt7, gt7, q8, le8, ge8, lt8, gt8, q9, le9, ge9, lt9, gt9, q10, le10, ge10, lt10, gt10, q12, le12, ge12, lt12, gt12, q15, le15, ge15, lt15, gt15, q16, le16, ge16, lt16, gt16, q20, le20, ge20, lt20, gt20, q40, le40, ge40, lt40, gt40, q50, le50, ge50, lt50, gt50, q56, le56, ge56, lt56, gt56, q99, le99, ge99, lt99, gt99, q120, le120, ge120, lt120, gt120, q121, le121, ge121, lt121, gt121, q97, le97, ge97, lt97, gt97, q122, le122, ge122, lt122, gt122, q48, le48, ge48, lt48, gt48, q57, le57, ge57, lt57, gt57, q32, le32, ge32, lt32, gt32, q59, le59, ge59, lt59, gt59, q65535, le65535, ge65535, lt65535, gt65535, q99999, le99999, ge99999, lt99999, gt99999, q100000, le100000, ge100000, lt100000, gt100000, q90000, le90000, ge90000, lt90000, gt90000, q1000000, le1000000, ge1000000, lt1000000, gt1000000, x1_havers h.1 hW.1, x7_bit]; simp
        · have g0 : M 58 0 = nI (gH (tLa S)) := h.1.2.2.2.2.2.2.2.2.1
          rw [r8 M h]
          by_cases ho : gH (tLa S) = 16
          · have : nowN (tLa S) = 0 := by unfold nowN; rw [if_neg (by omega)]
            simp (disch := omega) only [bde, bve, wme, ck_in, ck_b0, ck_b1, ck_bI, ix_nI, bI_0, bI_1, nI_1, lit_le, lit_lt, lit_eq, ↓reduceIte, ckl_4_56, ckl_0_56, ckl_3_56, ckl_1_56, ckl_5_56, ckl_2_56, ckl_1_2, ckl_0_2, ckl_0_256, ckl_0_8, ckl_33_34, ckl_32_34, ixl_0, ixl_1, ixl_2, ixl_3, ixl_4, ixl_5, ixl_8, ixl_10, ixl_32, ixl_33, ixl_40, q0, le0, ge0, lt0, gt0, q1, le1, ge1, lt1, gt1, q2, le2, ge2, lt2, gt2, q3, le3, ge3, lt3, gt3, q4, le4, ge4, lt4, gt4, q5, le5, ge5, lt5, gt5, q6, le6, ge6, lt6, gt6, q7, le7, ge7, lt7, gt7, q8, le8, ge8, lt8, gt8, q9, le9, ge9, lt9, gt9, q10, le10, ge10, lt10, gt10, q12, le12, ge12, lt12, gt12, q15, le15, ge15, lt15, gt15, q16, le16, ge16, lt16, gt16, q20, le20, ge20, lt20, gt20, q40, le40, ge40, lt40, gt40, q50, le50, ge50, lt50, gt50, q56, le56, ge56, lt56, gt56, q99, le99, ge99, lt99, gt99, q120, le120, ge120, lt120, gt120, q121, le121, ge121, lt121, gt121, q97, le97, ge97, lt97, gt97, q122, le122, ge122, lt122, gt122, q48, le48, ge48, lt48, gt48, q57, le57, ge57, lt57, gt57, q32, le32, ge32, lt32, gt32, q59, le59, ge59, lt59, gt59, q65535, le65535, ge65535, lt65535, gt65535, q99999, le99999, ge99999, lt99999, gt99999, q100000, le100000, ge100000, lt100000, gt100000, q90000, le90000, ge90000, lt90000, gt90000, q1000000, le1000000, ge1000000, lt1000000, gt1000000, x8_isOver h.1 hW.1, ho, this]; simp [bI]
          · rw [now_tb hpn (by omega)]
            simp (disch := omega) only [bde, bve, wme, ck_in, ck_b0, ck_b1, ck_bI, ix_nI, bI_0, bI_1, nI_1, lit_le, lit_lt, lit_eq, ↓reduceIte, ckl_4_56, ckl_0_56, ckl_3_56, ckl_1_56, ckl_5_56, ckl_2_56, ckl_1_2, ckl_0_2, ckl_0_256, ckl_0_8, ckl_33_34, ckl_32_34, ixl_0, ixl_1, ixl_2, ixl_3, ixl_4, ixl_5, ixl_8, ixl_10, ixl_32, ixl_33, ixl_40, q0, le0, ge0, lt0, gt0, q1, le1, ge1, lt1, gt1, q2, le2, ge2, lt2, gt2, q3, le3, ge3, lt3, gt3, q4, le4, ge4, lt4, gt4, q5, le5, ge5, lt5, gt5, q6, le6, ge6, lt6, gt6, q7, le7, ge7, lt7, gt7, q8, le8, ge8, lt8, gt8, q9, le9, ge9, lt9, gt9, q10, le10, ge10, lt10, gt10, q12, le12, ge12, lt12, gt12, q15, le15, ge15, lt15, gt15, q16, le16, ge16, lt16, gt16, q20, le20, ge20, lt20, gt20, q40, le40, ge40, lt40, gt40, q50, le50, ge50, lt50, gt50, q56, le56, ge56, lt56, gt56, q99, le99, ge99, lt99, gt99, q120, le120, ge120, lt120, gt120, q121, le121, ge121, lt121, gt121, q97, le97, ge97, lt97, gt97, q122, le122, ge122, lt122, gt122, q48, le48, ge48, lt48, gt48, q57, le57, ge57, lt57, gt57, q32, le32, ge32, lt32, gt32, q59, le59, ge59, lt59, gt59, q65535, le65535, ge65535, lt65535, gt65535, q99999, le99999, ge99999, lt99999, gt99999, q100000, le100000, ge100000, lt100000, gt100000, q90000, le90000, ge90000, lt90000, gt90000, q1000000, le1000000, ge1000000, lt1000000, gt1000000, x8_isOver h.1 hW.1, ho, decide_false, g0, x8_hasShadow h.1 hW.1 hpn (show gH (tLa S) < 32 by omega)]
            cases hasN (tLa S) p (gH (tLa S)) <;> simp [bI]
theorem x8_within1 {k : Nat} (x : Int32) (M : Mem) (hk : k < 2 ^ 31 - 1) : fX8_within x 1 (nI k) M = some (bI (decide (1 ≤ x.toInt ∧ x.toInt ≤ (k : Int))), M) := by
  unfold fX8_within
  have e0 : (x < 1) ↔ x.toInt < 1 := Int32.lt_iff_toInt_lt
  have e1 : (nI k < x) ↔ (k : Int) < x.toInt := by rw [Int32.lt_iff_toInt_lt, nI_toInt (by omega)]
  by_cases a : x.toInt < 1
  · rw [if_pos (e0.mpr a), ck_b0, decide_eq_false (by omega)]; rfl
  · rw [if_neg (fun h => a (e0.mp h))]
    by_cases c : (k : Int) < x.toInt
    · rw [if_pos (e1.mpr c), ck_b0, decide_eq_false (by omega)]; rfl
    · rw [if_neg (fun h => c (e1.mp h)), ck_b1, decide_eq_true (by omega)]; rfl
theorem x7_1k (x : Int32) {k : Nat} (hk : k < 2 ^ 31) {α : Type} {A B : α} : (if x < 1 then A else (if x ≤ nI k then B else A)) = if 1 ≤ x.toInt ∧ x.toInt ≤ (k : Int) then B else A := by
  have e0 : (x < 1) ↔ x.toInt < 1 := Int32.lt_iff_toInt_lt
  have e1 : (x ≤ nI k) ↔ x.toInt ≤ (k : Int) := by rw [Int32.le_iff_toInt_le, nI_toInt hk]
  by_cases a : x.toInt < 1
  · rw [if_pos (e0.mpr a), if_neg (by omega)]
  · rw [if_neg (fun h => a (e0.mp h))]
    by_cases c : x.toInt ≤ (k : Int)
    · rw [if_pos (e1.mpr c), if_pos (by omega)]
    · rw [if_neg (fun h => c (e1.mp h)), if_neg (by omega)]
theorem of_1k {x : Int32} {k : Nat} (h : 1 ≤ x.toInt ∧ x.toInt ≤ (k : Int)) : ∃ m : Nat, 1 ≤ m ∧ m ≤ k ∧ x = nI m := by
  obtain ⟨j, hj, rfl⟩ := nI_of (x := x) (by rw [i0]; omega)
  rw [nI_toInt hj] at h
  exact ⟨j, by omega, by omega, rfl⟩
theorem tw_go {S : Sta} (hW : WFS S) (x : Int32) : Two (fX7_go x) (fX8_go x) S := by
  have hh := hW.1.2.1
  have e7 : ∀ M, fX7_go x M = if 1 ≤ x.toInt ∧ x.toInt ≤ ((16 : Nat) : Int) then (if x ≤ (16 - (M 1 8)) then (bd (fX1_passHours 1 x M) fun _ M1 => (some (M1 1 9, M1))) else (bd (fX7_found 4 M) fun r3 M2 => (some (r3, M2)))) else (fX7_go_L11 M) := by
    intro M
    unfold fX7_go
    rw [← x7_1k x (k := 16) (by decide)]
    rfl
  by_cases hx : 1 ≤ x.toInt ∧ x.toInt ≤ ((16 : Nat) : Int)
  · obtain ⟨m, h1, h2, rfl⟩ := of_1k hx
    have s16 : (16 : Int32) - nI (gH (tLa S)) = nI (16 - gH (tLa S)) := pk_sub (a := 16) hh
    have g8 : ∀ M, AR M S → fX8_go (nI m) M = (if nI (gH (tLa S)) + nI m ≤ 16 then (bd (fX8_hoursGo (nI m) M) fun r4 M3 => (some (r4, M3))) else (bd (fX8_finding (-1000005) M) fun r6 M5 => (some (r6, M5)))) := by
      intro M h
      have g0 : M 58 0 = nI (gH (tLa S)) := h.1.2.2.2.2.2.2.2.2.1
      unfold fX8_go
      rw [show (16 : Int32) = nI 16 from rfl, x8_within1 _ M (by decide), decide_eq_true hx, bde, ifT, ckl_0_56, ixl_0, g0]
    by_cases hm : gH (tLa S) + m ≤ 16
    · refine two_L hW (gMe (hrsN m (tLa S))) (hrsN m (tLa S)) (wf_hrs m _ hW.1 hm) (fun M h => ?_) (fun M h => ?_)
      · obtain ⟨M1, e1, c1, s1⟩ := x1_passHours (m := m) h.1 hW.1 hm
        have g8 : M 1 8 = nI (gH (tLa S)) := h.1.2.2.2.2.2.2.2.2.1
        have g9 : M1 1 9 = gMe (hrsN m (tLa S)) := c1.2.2.2.2.2.2.2.2.2.1
        refine ⟨M1, ?_, c1, s1⟩
        rw [e7, if_pos hx, g8, s16, if_pos (by rw [lit_le (by omega) (by omega)]; omega), e1, bde, g9]
      · obtain ⟨M1, e1, c1, s1⟩ := x8_hoursGo (m := m) h.1 hW.1 hm
        refine ⟨M1, ?_, c1, s1⟩
        rw [g8 M h, nI_add, if_pos (by rw [le16 (by omega)]; omega), e1, bde]
    · refine two_fd hW (i := 4) (by decide) (fun M h => ?_) (fun M h => ?_)
      · have g8 : M 1 8 = nI (gH (tLa S)) := h.1.2.2.2.2.2.2.2.2.1
        rw [e7, if_pos hx, g8, s16, if_neg (by rw [lit_le (by omega) (by omega)]; omega)]
        exact fd7 4 M
      · rw [g8 M h, nI_add, if_neg (by rw [le16 (by omega)]; omega)]
        exact fd8 4 M
  · refine two_fd hW (i := 0) (by decide) (fun M h => ?_) (fun M h => ?_)
    · rw [e7, if_neg hx]
      exact fd7 0 M
    · unfold fX8_go
      rw [show (16 : Int32) = nI 16 from rfl, x8_within1 _ M (by decide), decide_eq_false hx, bde, ifF]
      exact fd8 0 M
theorem tw_now {S : Sta} (hW : WFS S) (x : Int32) : Two (fX7_now x) (fX8_now x) S := by
  have hh := hW.1.2.1
  cases hq : pIn 5 x
  · have n0 : ¬ x = 0 := pf_no hq (c := 0) (by decide) (by decide)
    have n1 : ¬ x = 1 := pf_no hq (c := 1) (by decide) (by decide)
    have n2 : ¬ x = 2 := pf_no hq (c := 2) (by decide) (by decide)
    have n3 : ¬ x = 3 := pf_no hq (c := 3) (by decide) (by decide)
    have n4 : ¬ x = 4 := pf_no hq (c := 4) (by decide) (by decide)
    refine two_fd hW (i := 0) (by decide) (fun M h => ?_) (fun M h => ?_)
    · unfold fX7_now
      rw [if_neg n0, if_neg n1, if_neg n2, if_neg n3, if_neg n4]
      exact fd7 0 M
    · unfold fX8_now
      rw [show (4 : Int32) = nI 4 from rfl, x8_within _ M (by decide), hq, bde, ifF]
      exact fd8 0 M
  · obtain ⟨w, hw, rfl⟩ := pIn_ex hq (by decide)
    have r8 : ∀ M, fX8_now (nI w) M = (if nI 4 ≤ nI w then (bd (fX8_isOver M) fun r4 M3 => (if r4 = 0 then (ck (inb 0 56) (bd (fX8_whoHave (M3 58 (ix 0)) M3) fun r6 M5 => (some (r6, M5)))) else (some (0, M3)))) else (ck (inb (nI w) 56) (some (M 58 (ix (nI w)), M)))) := by
      intro M
      unfold fX8_now
      rw [show (4 : Int32) = nI 4 from rfl, x8_within _ M (by decide), hq, bde, ifT]
    rcases (show w = 0 ∨ w = 1 ∨ w = 2 ∨ w = 3 ∨ w = 4 by omega) with rfl | rfl | rfl | rfl | rfl
    · refine two_q0 hW (nI (gH (tLa S))) (fun M h => ?_) (fun M h => ?_)
      · have g : M 1 8 = nI (gH (tLa S)) := h.1.2.2.2.2.2.2.2.2.1
        unfold fX7_now; simp (disch := omega) only [bde, bve, wme, ck_in, ck_b0, ck_b1, ck_bI, ix_nI, bI_0, bI_1, nI_1, lit_le, lit_lt, lit_eq, ↓reduceIte, ckl_4_56, ckl_0_56, ckl_3_56, ckl_1_56, ckl_5_56, ckl_2_56, ckl_1_2, ckl_0_2, ckl_0_256, ckl_0_8, ckl_33_34, ckl_32_34, ixl_0, ixl_1, ixl_2, ixl_3, ixl_4, ixl_5, ixl_8, ixl_10, ixl_32, ixl_33, ixl_40, q0, le0, ge0, lt0, gt0, q1, le1, ge1, lt1, gt1, q2, le2, ge2, lt2, gt2, q3, le3, ge3, lt3, gt3, q4, le4, ge4, lt4, gt4, q5, le5, ge5, lt5, gt5, q6, le6, ge6, lt6, gt6, q7, le7, ge7, lt7, gt7, q8, le8, ge8, lt8, gt8, q9, le9, ge9, lt9, gt9, q10, le10, ge10, lt10, gt10, q12, le12, ge12, lt12, gt12, q15, le15, ge15, lt15, gt15, q16, le16, ge16, lt16, gt16, q20, le20, ge20, lt20, gt20, q40, le40, ge40, lt40, gt40, q50, le50, ge50, lt50, gt50, q56, le56, ge56, lt56, gt56, q99, le99, ge99, lt99, gt99, q120, le120, ge120, lt120, gt120, q121, le121, ge121, lt121, gt121, q97, le97, ge97, lt97, gt97, q122, le122, ge122, lt122, gt122, q48, le48, ge48, lt48, gt48, q57, le57, ge57, lt57, gt57, q32, le32, ge32, lt32, gt32, q59, le59, ge59, lt59, gt59, q65535, le65535, ge65535, lt65535, gt65535, q99999, le99999, ge99999, lt99999, gt99999, q100000, le100000, ge100000, lt100000, gt100000, q90000, le90000, ge90000, lt90000, gt90000, q1000000, le1000000, ge1000000, lt1000000, gt1000000, g]
      · have g : M 58 0 = nI (gH (tLa S)) := h.1.2.2.2.2.2.2.2.2.1
        rw [r8]; simp (disch := omega) only [bde, bve, wme, ck_in, ck_b0, ck_b1, ck_bI, ix_nI, bI_0, bI_1, nI_1, lit_le, lit_lt, lit_eq, ↓reduceIte, ckl_4_56, ckl_0_56, ckl_3_56, ckl_1_56, ckl_5_56, ckl_2_56, ckl_1_2, ckl_0_2, ckl_0_256, ckl_0_8, ckl_33_34, ckl_32_34, ixl_0, ixl_1, ixl_2, ixl_3, ixl_4, ixl_5, ixl_8, ixl_10, ixl_32, ixl_33, ixl_40, q0, le0, ge0, lt0, gt0, q1, le1, ge1, lt1, gt1, q2, le2, ge2, lt2, gt2, q3, le3, ge3, lt3, gt3, q4, le4, ge4, lt4, gt4, q5, le5, ge5, lt5, gt5, q6, le6, ge6, lt6, gt6, q7, le7, ge7, lt7, gt7, q8, le8, ge8, lt8, gt8, q9, le9, ge9, lt9, gt9, q10, le10, ge10, lt10, gt10, q12, le12, ge12, lt12, gt12, q15, le15, ge15, lt15, gt15, q16, le16, ge16, lt16, gt16, q20, le20, ge20, lt20, gt20, q40, le40, ge40, lt40, gt40, q50, le50, ge50, lt50, gt50, q56, le56, ge56, lt56, gt56, q99, le99, ge99, lt99, gt99, q120, le120, ge120, lt120, gt120, q121, le121, ge121, lt121, gt121, q97, le97, ge97, lt97, gt97, q122, le122, ge122, lt122, gt122, q48, le48, ge48, lt48, gt48, q57, le57, ge57, lt57, gt57, q32, le32, ge32, lt32, gt32, q59, le59, ge59, lt59, gt59, q65535, le65535, ge65535, lt65535, gt65535, q99999, le99999, ge99999, lt99999, gt99999, q100000, le100000, ge100000, lt100000, gt100000, q90000, le90000, ge90000, lt90000, gt90000, q1000000, le1000000, ge1000000, lt1000000, gt1000000]; simp [g]
    · refine two_q0 hW (gMe (tLa S)) (fun M h => ?_) (fun M h => ?_)
      · have g : M 1 9 = gMe (tLa S) := h.1.2.2.2.2.2.2.2.2.2.1
        unfold fX7_now; simp (disch := omega) only [bde, bve, wme, ck_in, ck_b0, ck_b1, ck_bI, ix_nI, bI_0, bI_1, nI_1, lit_le, lit_lt, lit_eq, ↓reduceIte, ckl_4_56, ckl_0_56, ckl_3_56, ckl_1_56, ckl_5_56, ckl_2_56, ckl_1_2, ckl_0_2, ckl_0_256, ckl_0_8, ckl_33_34, ckl_32_34, ixl_0, ixl_1, ixl_2, ixl_3, ixl_4, ixl_5, ixl_8, ixl_10, ixl_32, ixl_33, ixl_40, q0, le0, ge0, lt0, gt0, q1, le1, ge1, lt1, gt1, q2, le2, ge2, lt2, gt2, q3, le3, ge3, lt3, gt3, q4, le4, ge4, lt4, gt4, q5, le5, ge5, lt5, gt5, q6, le6, ge6, lt6, gt6, q7, le7, ge7, lt7, gt7, q8, le8, ge8, lt8, gt8, q9, le9, ge9, lt9, gt9, q10, le10, ge10, lt10, gt10, q12, le12, ge12, lt12, gt12, q15, le15, ge15, lt15, gt15, q16, le16, ge16, lt16, gt16, q20, le20, ge20, lt20, gt20, q40, le40, ge40, lt40, gt40, q50, le50, ge50, lt50, gt50, q56, le56, ge56, lt56, gt56, q99, le99, ge99, lt99, gt99, q120, le120, ge120, lt120, gt120, q121, le121, ge121, lt121, gt121, q97, le97, ge97, lt97, gt97, q122, le122, ge122, lt122, gt122, q48, le48, ge48, lt48, gt48, q57, le57, ge57, lt57, gt57, q32, le32, ge32, lt32, gt32, q59, le59, ge59, lt59, gt59, q65535, le65535, ge65535, lt65535, gt65535, q99999, le99999, ge99999, lt99999, gt99999, q100000, le100000, ge100000, lt100000, gt100000, q90000, le90000, ge90000, lt90000, gt90000, q1000000, le1000000, ge1000000, lt1000000, gt1000000, g]; simp
      · have g : M 58 1 = gMe (tLa S) := h.1.2.2.2.2.2.2.2.2.2.1
        rw [r8]; simp (disch := omega) only [bde, bve, wme, ck_in, ck_b0, ck_b1, ck_bI, ix_nI, bI_0, bI_1, nI_1, lit_le, lit_lt, lit_eq, ↓reduceIte, ckl_4_56, ckl_0_56, ckl_3_56, ckl_1_56, ckl_5_56, ckl_2_56, ckl_1_2, ckl_0_2, ckl_0_256, ckl_0_8, ckl_33_34, ckl_32_34, ixl_0, ixl_1, ixl_2, ixl_3, ixl_4, ixl_5, ixl_8, ixl_10, ixl_32, ixl_33, ixl_40, q0, le0, ge0, lt0, gt0, q1, le1, ge1, lt1, gt1, q2, le2, ge2, lt2, gt2, q3, le3, ge3, lt3, gt3, q4, le4, ge4, lt4, gt4, q5, le5, ge5, lt5, gt5, q6, le6, ge6, lt6, gt6, q7, le7, ge7, lt7, gt7, q8, le8, ge8, lt8, gt8, q9, le9, ge9, lt9, gt9, q10, le10, ge10, lt10, gt10, q12, le12, ge12, lt12, gt12, q15, le15, ge15, lt15, gt15, q16, le16, ge16, lt16, gt16, q20, le20, ge20, lt20, gt20, q40, le40, ge40, lt40, gt40, q50, le50, ge50, lt50, gt50, q56, le56, ge56, lt56, gt56, q99, le99, ge99, lt99, gt99, q120, le120, ge120, lt120, gt120, q121, le121, ge121, lt121, gt121, q97, le97, ge97, lt97, gt97, q122, le122, ge122, lt122, gt122, q48, le48, ge48, lt48, gt48, q57, le57, ge57, lt57, gt57, q32, le32, ge32, lt32, gt32, q59, le59, ge59, lt59, gt59, q65535, le65535, ge65535, lt65535, gt65535, q99999, le99999, ge99999, lt99999, gt99999, q100000, le100000, ge100000, lt100000, gt100000, q90000, le90000, ge90000, lt90000, gt90000, q1000000, le1000000, ge1000000, lt1000000, gt1000000]; simp [g]
    · refine two_q0 hW (gMs (tLa S)) (fun M h => ?_) (fun M h => ?_)
      · have g : M 1 10 = gMs (tLa S) := h.1.2.2.2.2.2.2.2.2.2.2.1
        unfold fX7_now; simp (disch := omega) only [bde, bve, wme, ck_in, ck_b0, ck_b1, ck_bI, ix_nI, bI_0, bI_1, nI_1, lit_le, lit_lt, lit_eq, ↓reduceIte, ckl_4_56, ckl_0_56, ckl_3_56, ckl_1_56, ckl_5_56, ckl_2_56, ckl_1_2, ckl_0_2, ckl_0_256, ckl_0_8, ckl_33_34, ckl_32_34, ixl_0, ixl_1, ixl_2, ixl_3, ixl_4, ixl_5, ixl_8, ixl_10, ixl_32, ixl_33, ixl_40, q0, le0, ge0, lt0, gt0, q1, le1, ge1, lt1, gt1, q2, le2, ge2, lt2, gt2, q3, le3, ge3, lt3, gt3, q4, le4, ge4, lt4, gt4, q5, le5, ge5, lt5, gt5, q6, le6, ge6, lt6, gt6, q7, le7, ge7, lt7, gt7, q8, le8, ge8, lt8, gt8, q9, le9, ge9, lt9, gt9, q10, le10, ge10, lt10, gt10, q12, le12, ge12, lt12, gt12, q15, le15, ge15, lt15, gt15, q16, le16, ge16, lt16, gt16, q20, le20, ge20, lt20, gt20, q40, le40, ge40, lt40, gt40, q50, le50, ge50, lt50, gt50, q56, le56, ge56, lt56, gt56, q99, le99, ge99, lt99, gt99, q120, le120, ge120, lt120, gt120, q121, le121, ge121, lt121, gt121, q97, le97, ge97, lt97, gt97, q122, le122, ge122, lt122, gt122, q48, le48, ge48, lt48, gt48, q57, le57, ge57, lt57, gt57, q32, le32, ge32, lt32, gt32, q59, le59, ge59, lt59, gt59, q65535, le65535, ge65535, lt65535, gt65535, q99999, le99999, ge99999, lt99999, gt99999, q100000, le100000, ge100000, lt100000, gt100000, q90000, le90000, ge90000, lt90000, gt90000, q1000000, le1000000, ge1000000, lt1000000, gt1000000, g]; simp
      · have g : M 58 2 = gMs (tLa S) := h.1.2.2.2.2.2.2.2.2.2.2.1
        rw [r8]; simp (disch := omega) only [bde, bve, wme, ck_in, ck_b0, ck_b1, ck_bI, ix_nI, bI_0, bI_1, nI_1, lit_le, lit_lt, lit_eq, ↓reduceIte, ckl_4_56, ckl_0_56, ckl_3_56, ckl_1_56, ckl_5_56, ckl_2_56, ckl_1_2, ckl_0_2, ckl_0_256, ckl_0_8, ckl_33_34, ckl_32_34, ixl_0, ixl_1, ixl_2, ixl_3, ixl_4, ixl_5, ixl_8, ixl_10, ixl_32, ixl_33, ixl_40, q0, le0, ge0, lt0, gt0, q1, le1, ge1, lt1, gt1, q2, le2, ge2, lt2, gt2, q3, le3, ge3, lt3, gt3, q4, le4, ge4, lt4, gt4, q5, le5, ge5, lt5, gt5, q6, le6, ge6, lt6, gt6, q7, le7, ge7, lt7, gt7, q8, le8, ge8, lt8, gt8, q9, le9, ge9, lt9, gt9, q10, le10, ge10, lt10, gt10, q12, le12, ge12, lt12, gt12, q15, le15, ge15, lt15, gt15, q16, le16, ge16, lt16, gt16, q20, le20, ge20, lt20, gt20, q40, le40, ge40, lt40, gt40, q50, le50, ge50, lt50, gt50, q56, le56, ge56, lt56, gt56, q99, le99, ge99, lt99, gt99, q120, le120, ge120, lt120, gt120, q121, le121, ge121, lt121, gt121, q97, le97, ge97, lt97, gt97, q122, le122, ge122, lt122, gt122, q48, le48, ge48, lt48, gt48, q57, le57, ge57, lt57, gt57, q32, le32, ge32, lt32, gt32, q59, le59, ge59, lt59, gt59, q65535, le65535, ge65535, lt65535, gt65535, q99999, le99999, ge99999, lt99999, gt99999, q100000, le100000, ge100000, lt100000, gt100000, q90000, le90000, ge90000, lt90000, gt90000, q1000000, le1000000, ge1000000, lt1000000, gt1000000]; simp [g]
    · refine two_q0 hW (nI (gL (tLa S))) (fun M h => ?_) (fun M h => ?_)
      · have g : M 1 7 = nI (gL (tLa S)) := h.1.2.2.2.2.2.2.2.1
        unfold fX7_now; simp (disch := omega) only [bde, bve, wme, ck_in, ck_b0, ck_b1, ck_bI, ix_nI, bI_0, bI_1, nI_1, lit_le, lit_lt, lit_eq, ↓reduceIte, ckl_4_56, ckl_0_56, ckl_3_56, ckl_1_56, ckl_5_56, ckl_2_56, ckl_1_2, ckl_0_2, ckl_0_256, ckl_0_8, ckl_33_34, ckl_32_34, ixl_0, ixl_1, ixl_2, ixl_3, ixl_4, ixl_5, ixl_8, ixl_10, ixl_32, ixl_33, ixl_40, q0, le0, ge0, lt0, gt0, q1, le1, ge1, lt1, gt1, q2, le2, ge2, lt2, gt2, q3, le3, ge3, lt3, gt3, q4, le4, ge4, lt4, gt4, q5, le5, ge5, lt5, gt5, q6, le6, ge6, lt6, gt6, q7, le7, ge7, lt7, gt7, q8, le8, ge8, lt8, gt8, q9, le9, ge9, lt9, gt9, q10, le10, ge10, lt10, gt10, q12, le12, ge12, lt12, gt12, q15, le15, ge15, lt15, gt15, q16, le16, ge16, lt16, gt16, q20, le20, ge20, lt20, gt20, q40, le40, ge40, lt40, gt40, q50, le50, ge50, lt50, gt50, q56, le56, ge56, lt56, gt56, q99, le99, ge99, lt99, gt99, q120, le120, ge120, lt120, gt120, q121, le121, ge121, lt121, gt121, q97, le97, ge97, lt97, gt97, q122, le122, ge122, lt122, gt122, q48, le48, ge48, lt48, gt48, q57, le57, ge57, lt57, gt57, q32, le32, ge32, lt32, gt32, q59, le59, ge59, lt59, gt59, q65535, le65535, ge65535, lt65535, gt65535, q99999, le99999, ge99999, lt99999, gt99999, q100000, le100000, ge100000, lt100000, gt100000, q90000, le90000, ge90000, lt90000, gt90000, q1000000, le1000000, ge1000000, lt1000000, gt1000000, g]; simp
      · have g : M 58 3 = nI (gL (tLa S)) := h.1.2.2.2.2.2.2.2.1
        rw [r8]; simp (disch := omega) only [bde, bve, wme, ck_in, ck_b0, ck_b1, ck_bI, ix_nI, bI_0, bI_1, nI_1, lit_le, lit_lt, lit_eq, ↓reduceIte, ckl_4_56, ckl_0_56, ckl_3_56, ckl_1_56, ckl_5_56, ckl_2_56, ckl_1_2, ckl_0_2, ckl_0_256, ckl_0_8, ckl_33_34, ckl_32_34, ixl_0, ixl_1, ixl_2, ixl_3, ixl_4, ixl_5, ixl_8, ixl_10, ixl_32, ixl_33, ixl_40, q0, le0, ge0, lt0, gt0, q1, le1, ge1, lt1, gt1, q2, le2, ge2, lt2, gt2, q3, le3, ge3, lt3, gt3, q4, le4, ge4, lt4, gt4, q5, le5, ge5, lt5, gt5, q6, le6, ge6, lt6, gt6, q7, le7, ge7, lt7, gt7, q8, le8, ge8, lt8, gt8, q9, le9, ge9, lt9, gt9, q10, le10, ge10, lt10, gt10, q12, le12, ge12, lt12, gt12, q15, le15, ge15, lt15, gt15, q16, le16, ge16, lt16, gt16, q20, le20, ge20, lt20, gt20, q40, le40, ge40, lt40, gt40, q50, le50, ge50, lt50, gt50, q56, le56, ge56, lt56, gt56, q99, le99, ge99, lt99, gt99, q120, le120, ge120, lt120, gt120, q121, le121, ge121, lt121, gt121, q97, le97, ge97, lt97, gt97, q122, le122, ge122, lt122, gt122, q48, le48, ge48, lt48, gt48, q57, le57, ge57, lt57, gt57, q32, le32, ge32, lt32, gt32, q59, le59, ge59, lt59, gt59, q65535, le65535, ge65535, lt65535, gt65535, q99999, le99999, ge99999, lt99999, gt99999, q100000, le100000, ge100000, lt100000, gt100000, q90000, le90000, ge90000, lt90000, gt90000, q1000000, le1000000, ge1000000, lt1000000, gt1000000]; simp [g]
    · refine two_q0 hW (nI (nowN (tLa S))) (fun M h => ?_) (fun M h => ?_)
      · unfold fX7_now; simp (disch := omega) only [bde, bve, wme, ck_in, ck_b0, ck_b1, ck_bI, ix_nI, bI_0, bI_1, nI_1, lit_le, lit_lt, lit_eq, ↓reduceIte, ckl_4_56, ckl_0_56, ckl_3_56, ckl_1_56, ckl_5_56, ckl_2_56, ckl_1_2, ckl_0_2, ckl_0_256, ckl_0_8, ckl_33_34, ckl_32_34, ixl_0, ixl_1, ixl_2, ixl_3, ixl_4, ixl_5, ixl_8, ixl_10, ixl_32, ixl_33, ixl_40, q0, le0, ge0, lt0, gt0, q1, le1, ge1, lt1, gt1, q2, le2, ge2, lt2, gt2, q3, le3, ge3, lt3, gt3, q4, le4, ge4, lt4, gt4, q5, le5, ge5, lt5, gt5, q6, le6, ge6, lt6, gt6, q7, le7, ge7, lt7, gt7, q8, le8, ge8, lt8, gt8, q9, le9, ge9, lt9, gt9, q10, le10, ge10, lt10, gt10, q12, le12, ge12, lt12, gt12, q15, le15, ge15, lt15, gt15, q16, le16, ge16, lt16, gt16, q20, le20, ge20, lt20, gt20, q40, le40, ge40, lt40, gt40, q50, le50, ge50, lt50, gt50, q56, le56, ge56, lt56, gt56, q99, le99, ge99, lt99, gt99, q120, le120, ge120, lt120, gt120, q121, le121, ge121, lt121, gt121, q97, le97, ge97, lt97, gt97, q122, le122, ge122, lt122, gt122, q48, le48, ge48, lt48, gt48, q57, le57, ge57, lt57, gt57, q32, le32, ge32, lt32, gt32, q59, le59, ge59, lt59, gt59, q65535, le65535, ge65535, lt65535, gt65535, q99999, le99999, ge99999, lt99999, gt99999, q100000, le100000, ge100000, lt100000, gt100000, q90000, le90000, ge90000, lt90000, gt90000, q1000000, le1000000, ge1000000, lt1000000, gt1000000, x1_havers h.1 hW.1]; simp
      · have g0 : M 58 0 = nI (gH (tLa S)) := h.1.2.2.2.2.2.2.2.2.1
        rw [r8]
        by_cases ho : gH (tLa S) = 16
        · have : nowN (tLa S) = 0 := by unfold nowN; rw [if_neg (by omega)]
          simp (disch := omega) only [bde, bve, wme, ck_in, ck_b0, ck_b1, ck_bI, ix_nI, bI_0, bI_1, nI_1, lit_le, lit_lt, lit_eq, ↓reduceIte, ckl_4_56, ckl_0_56, ckl_3_56, ckl_1_56, ckl_5_56, ckl_2_56, ckl_1_2, ckl_0_2, ckl_0_256, ckl_0_8, ckl_33_34, ckl_32_34, ixl_0, ixl_1, ixl_2, ixl_3, ixl_4, ixl_5, ixl_8, ixl_10, ixl_32, ixl_33, ixl_40, q0, le0, ge0, lt0, gt0, q1, le1, ge1, lt1, gt1, q2, le2, ge2, lt2, gt2, q3, le3, ge3, lt3, gt3, q4, le4, ge4, lt4, gt4, q5, le5, ge5, lt5, gt5, q6, le6, ge6, lt6, gt6, q7, le7, ge7, lt7, gt7, q8, le8, ge8, lt8, gt8, q9, le9, ge9, lt9, gt9, q10, le10, ge10, lt10, gt10, q12, le12, ge12, lt12, gt12, q15, le15, ge15, lt15, gt15, q16, le16, ge16, lt16, gt16, q20, le20, ge20, lt20, gt20, q40, le40, ge40, lt40, gt40, q50, le50, ge50, lt50, gt50, q56, le56, ge56, lt56, gt56, q99, le99, ge99, lt99, gt99, q120, le120, ge120, lt120, gt120, q121, le121, ge121, lt121, gt121, q97, le97, ge97, lt97, gt97, q122, le122, ge122, lt122, gt122, q48, le48, ge48, lt48, gt48, q57, le57, ge57, lt57, gt57, q32, le32, ge32, lt32, gt32, q59, le59, ge59, lt59, gt59, q65535, le65535, ge65535, lt65535, gt65535, q99999, le99999, ge99999, lt99999, gt99999, q100000, le100000, ge100000, lt100000, gt100000, q90000, le90000, ge90000, lt90000, gt90000, q1000000, le1000000, ge1000000, lt1000000, gt1000000, x8_isOver h.1 hW.1, ho, this]; simp; rfl
        · rw [now_hav (by omega)]
          simp (disch := omega) only [bde, bve, wme, ck_in, ck_b0, ck_b1, ck_bI, ix_nI, bI_0, bI_1, nI_1, lit_le, lit_lt, lit_eq, ↓reduceIte, ckl_4_56, ckl_0_56, ckl_3_56, ckl_1_56, ckl_5_56, ckl_2_56, ckl_1_2, ckl_0_2, ckl_0_256, ckl_0_8, ckl_33_34, ckl_32_34, ixl_0, ixl_1, ixl_2, ixl_3, ixl_4, ixl_5, ixl_8, ixl_10, ixl_32, ixl_33, ixl_40, q0, le0, ge0, lt0, gt0, q1, le1, ge1, lt1, gt1, q2, le2, ge2, lt2, gt2, q3, le3, ge3, lt3, gt3, q4, le4, ge4, lt4, gt4, q5, le5, ge5, lt5, gt5, q6, le6, ge6, lt6, gt6, q7, le7, ge7, lt7, gt7, q8, le8, ge8, lt8, gt8, q9, le9, ge9, lt9, gt9, q10, le10, ge10, lt10, gt10, q12, le12, ge12, lt12, gt12, q15, le15, ge15, lt15, gt15, q16, le16, ge16, lt16, gt16, q20, le20, ge20, lt20, gt20, q40, le40, ge40, lt40, gt40, q50, le50, ge50, lt50, gt50, q56, le56, ge56, lt56, gt56, q99, le99, ge99, lt99, gt99, q120, le120, ge120, lt120, gt120, q121, le121, ge121, lt121, gt121, q97, le97, ge97, lt97, gt97, q122, le122, ge122, lt122, gt122, q48, le48, ge48, lt48, gt48, q57, le57, ge57, lt57, gt57, q32, le32, ge32, lt32, gt32, q59, le59, ge59, lt59, gt59, q65535, le65535, ge65535, lt65535, gt65535, q99999, le99999, ge99999, lt99999, gt99999, q100000, le100000, ge100000, lt100000, gt100000, q90000, le90000, ge90000, lt90000, gt90000, q1000000, le1000000, ge1000000, lt1000000, gt1000000, x8_isOver h.1 hW.1, ho, decide_false, g0, x8_whoHave h.1 hW.1 (show gH (tLa S) < 32 by omega)]; simp
/-- an hour of the rest at which one isn't served -/
def clB (L : Lan) (p h : Nat) : Bool := decide (gH L ≤ h) && !svB L p h
theorem clB_iff (L : Lan) (p h : Nat) : (gH L ≤ h ∧ svB L p h = false) ↔ clB L p h = true := by
  unfold clB
  simp
theorem cold_none {L : Lan} {p : Nat} : ∀ n h : Nat, (∀ k, h ≤ k → k < h + n → clB L p k = false) → cold L p n h = h + n := by
  intro n
  induction n with
  | zero => intro h _; rfl
  | succ n ih =>
    intro h hb
    show (if gH L ≤ h ∧ svB L p h = false then h else cold L p n (h + 1)) = _
    rw [if_neg (fun e => by have := (clB_iff L p h).mp e; rw [hb h (Nat.le_refl _) (by omega)] at this; cases this), ih (h + 1) (fun k h1 h2 => hb k (by omega) (by omega))]
    omega
theorem cold_lt {L : Lan} {p : Nat} : ∀ n h : Nat, (∃ k, h ≤ k ∧ k < h + n ∧ clB L p k = true) → cold L p n h < h + n := by
  intro n
  induction n with
  | zero => intro h ⟨k, h1, h2, _⟩; omega
  | succ n ih =>
    intro h ⟨k, h1, h2, h3⟩
    show (if gH L ≤ h ∧ svB L p h = false then h else cold L p n (h + 1)) < _
    by_cases e : gH L ≤ h ∧ svB L p h = false
    · rw [if_pos e]; omega
    · rw [if_neg e]
      have : k ≠ h := by rintro rfl; exact e ((clB_iff L p k).mpr h3)
      have := ih (h + 1) ⟨k, by omega, by omega, h3⟩
      omega
theorem st_zero {f : Nat → Bool} {n : Nat} (h : stN f n = 0) : ∀ k, k < n → f k = false := by
  intro k hk
  have := stN_tb f n k
  rw [h] at this
  simp [hk] at this
  exact this
theorem x8_cold34 {M : Mem} {L : Lan} {p : Nat} (hz : stN (clB L p) 16 ≠ 0) : ∀ n h : Nat, h ≤ 16 → 16 - h < n → (∀ k, k < h → clB L p k = false) → fX8_cold_L34 n (nI (stN (clB L p) 16)) (nI h) M = some (nI (cold L p (16 - h) h), M) := by
  have hl := stN_lt (clB L p) 16
  intro n
  induction n with
  | zero => intro h _ h2; omega
  | succ n ih =>
    intro h hh hn hb
    rw [fX8_cold_L34]
    rcases Nat.lt_or_ge h 16 with hlt | hge
    · have e : 16 - h = (16 - (h + 1)) + 1 := by omega
      simp (disch := omega) only [bde, bve, wme, ck_in, ck_b0, ck_b1, ck_bI, ix_nI, bI_0, bI_1, nI_1, lit_le, lit_lt, lit_eq, ↓reduceIte, ckl_4_56, ckl_0_56, ckl_3_56, ckl_1_56, ckl_5_56, ckl_2_56, ckl_1_2, ckl_0_2, ckl_0_256, ckl_0_8, ckl_33_34, ckl_32_34, ixl_0, ixl_1, ixl_2, ixl_3, ixl_4, ixl_5, ixl_8, ixl_10, ixl_32, ixl_33, ixl_40, q0, hz, x8_has, stN_tb, hlt, decide_true, Bool.true_and]
      rw [e]
      show _ = some (nI (if gH L ≤ h ∧ svB L p h = false then h else cold L p (16 - (h + 1)) (h + 1)), M)
      cases hc : clB L p h
      · have hne : ¬ (gH L ≤ h ∧ svB L p h = false) := by
          intro q
          have q2 := (clB_iff L p h).mp q
          rw [hc] at q2
          cases q2
        rw [if_neg hne, if_pos rfl]
        exact ih (h + 1) (by omega) (by omega) (fun k hk => by
          rcases Nat.lt_or_ge k h with q | q
          · exact hb k q
          · have : k = h := by omega
            rw [this]; exact hc)
      · rw [if_pos ((clB_iff L p h).mpr hc)]
        simp (disch := omega) only [reduceCtorEq, ↓reduceIte, fX8_cold_L52, q0, hz]
    · exact absurd (st_below (f := clB L p) (g := 16) (fun k hk => hb k (by omega))) hz
theorem tw_cold {S : Sta} (hW : WFS S) (x : Int32) : Two (fX7_cold x) (fX8_cold x) S := by
  have hn := hW.1.1
  cases hp : pIn (gN (tLa S)) x
  · refine two_fd hW (i := 0) (by decide) (fun M h => ?_) (fun M h => ?_)
    · unfold fX7_cold
      rw [x1_isPerson h.1 hW.1, hp, bde, ifF]
      exact fd7 0 M
    · unfold fX8_cold
      rw [x8_isPerson h.1 hW.1, hp, bde, ifF]
      exact fd8 0 M
  · obtain ⟨p, hpn, rfl⟩ := pIn_ex hp (by omega)
    have set8 : ∀ M, AR M S → ∃ M1, fX8_cold (nI p) M = fX8_cold_L34 fu (nI (stN (clB (tLa S) p) 16)) 0 M1 ∧ RLn M1 58 (tLa S) ∧ FR M M1 := by
      intro M h
      obtain ⟨M1, e1, c1, a, b, c, d, f⟩ := x8_findRest h.1 hW.1 hpn
      refine ⟨M1, ?_, c1, f⟩
      have hb : nI (rstN (tLa S)) &&& (nI (srvN (tLa S) p) ^^^ (-1)) = nI (stN (clB (tLa S) p) 16) := by
        apply b_st
        intro i hi
        rw [b_and, b_not _ hi, b_nI _ hi, b_nI _ hi, rstN_tb hW.1]
        unfold srvN clB
        rw [stN_tb]
        by_cases h1 : i < 16 <;> by_cases h2 : gH (tLa S) ≤ i <;> simp [h1, h2]
      unfold fX8_cold
      rw [x8_isPerson h.1 hW.1, hp, bde, ifT, e1, bde, x8_restHours c1 hW.1, bde, a, hb, bve]
    have set7 : ∀ M, AC M S → ∃ M1, fX7_cold (nI p) M = (if 16 ≤ nI (cold (tLa S) p 16 0) then (bd (fX7_found 3 M1) fun r7 M6 => (some (r7, M6))) else (some (nI (cold (tLa S) p 16 0), M1))) ∧ FC M M1 := by
      intro M h
      obtain ⟨M1, e1, c1, s1⟩ := x4_see h.1 hW.1 (by decide)
      refine ⟨M1, ?_, FC.ofR s1⟩
      unfold fX7_cold
      rw [x1_isPerson h.1 hW.1, hp, bde, ifT, e1, bde, x4_firstCold c1 hW.1 hpn, bde]
    by_cases hz : stN (clB (tLa S) p) 16 = 0
    · have hc : cold (tLa S) p 16 0 = 16 := by rw [cold_none 16 0 (fun k _ hk => st_zero hz k (by omega))]
      refine ⟨low 3, fdS S 3, fun M h => ?_, fun M h => ?_, hW⟩
      · obtain ⟨M1, e1, f1⟩ := set7 M h
        obtain ⟨M2, e2, c2, s2⟩ := x7_found (h.fc f1) (i := 3) (by decide)
        refine ⟨M2, ?_, c2, fun k hk => (s2 k hk).trans (f1 k (by omega))⟩
        rw [e1, hc, if_pos (by decide), ← e2]
        exact fd7 3 M1
      · obtain ⟨M1, e1, c1, f1⟩ := set8 M h
        obtain ⟨M2, e2, c2, s2⟩ := x8_finding (h.fr f1 c1) (i := 3) (by decide)
        refine ⟨M2, ?_, c2, fun k hk => (s2 k hk).trans (f1.1 k (by omega))⟩
        rw [e1, hz, ← e2]
        exact fd8 3 M1
    · have hc : cold (tLa S) p 16 0 < 0 + 16 := cold_lt 16 0 (by
        refine Classical.byContradiction fun hne => hz (st_below (fun k hk => ?_))
        cases hcb : clB (tLa S) p k
        · rfl
        · exact absurd ⟨k, Nat.zero_le _, by omega, hcb⟩ hne)
      refine two_q hW (nI (cold (tLa S) p 16 0)) (fun M h => ?_) (fun M h => ?_)
      · obtain ⟨M1, e1, f1⟩ := set7 M h
        refine ⟨M1, ?_, f1⟩
        rw [e1, if_neg (by rw [ge16 (by omega)]; omega)]
      · obtain ⟨M1, e1, c1, f1⟩ := set8 M h
        refine ⟨M1, ?_, c1, f1⟩
        rw [e1]
        have e := x8_cold34 (M := M1) hz fu 0 (by omega) (by show _ < 2000; omega) (fun k hk => by omega)
        rw [Nat.sub_zero] at e
        rw [nI_0']
        exact e

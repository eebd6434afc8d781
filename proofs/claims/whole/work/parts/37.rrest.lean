/-! the rest of a day, as the reference finds it -/
/-- the reference's own changing cells; all else stays -/
def FR (M M' : Mem) : Prop := (∀ k, (k < 57 ∨ k = 59 ∨ k = 61 ∨ k = 66 ∨ k = 67 ∨ k = 69 ∨ k = 70 ∨ k = 71) → M' k = M k) ∧ M' 57 3 = M 57 3 ∧ M' 57 15 = M 57 15
theorem FR.rf {M : Mem} : FR M M := ⟨fun _ _ => rfl, rfl, rfl⟩
theorem FR.tr {M M1 M2 : Mem} (h1 : FR M M1) (h2 : FR M1 M2) : FR M M2 := ⟨fun k hk => (h2.1 k hk).trans (h1.1 k hk), h2.2.1.trans h1.2.1, h2.2.2.trans h1.2.2⟩
theorem FR.of {M M1 : Mem} (h : Sr M M1) : FR M M1 := ⟨fun k hk => h k (by omega), by rw [h 57 (by decide)], by rw [h 57 (by decide)]⟩
theorem FR.row {M M1 : Mem} {r : Nat} (hr : 58 ≤ r ∧ r ≠ 59 ∧ r ≠ 61 ∧ r ≠ 66 ∧ r ≠ 67 ∧ r ≠ 69 ∧ r ≠ 70 ∧ r ≠ 71) (h : ∀ k, k ≠ r → M1 k = M k) : FR M M1 := ⟨fun k hk => h k (by omega), by rw [h 57 (by omega)], by rw [h 57 (by omega)]⟩
theorem FR.f57 {M : Mem} {i : Nat} {v : Int32} (h : i ≠ 3 ∧ i ≠ 15) : FR M (wr M 57 i v) := ⟨fun k hk => wr_n _ _ _ _ (by omega), by rw [wr_app, if_pos rfl, if_neg (by omega)], by rw [wr_app, if_pos rfl, if_neg (by omega)]⟩
theorem x8_cp2 {d1 d2 : Nat} (hd : d1 ≠ d2) : ∀ (n k : Nat) (M : Mem), k ≤ 56 → 56 - k < n → ∃ M1, fX8_copyRow_L2 d1 d2 n (nI k) M = some ((), M1) ∧ (∀ j, k ≤ j → j < 56 → M1 d2 j = M d1 j) ∧ (∀ j, j < k → M1 d2 j = M d2 j) ∧ (∀ q, q ≠ d2 → M1 q = M q) := by
  intro n
  induction n with
  | zero => intro k M _ h; omega
  | succ n ih =>
    intro k M hk hn
    rw [fX8_copyRow_L2]
    rcases Nat.lt_or_ge k 56 with hlt | hge
    · obtain ⟨M1, e1, a1, b1, s1⟩ := ih (k + 1) (wr M d2 k (M d1 k)) (by omega) (by omega)
      refine ⟨M1, ?_, fun j h1 h2 => ?_, fun j h1 => ?_, fun q hq => by rw [s1 q hq, wr_n _ _ _ _ hq]⟩
      · have h56 : ¬ 56 ≤ k := by omega
        simp (disch := omega) only [bde, bve, wme, ck_in, ck_b0, ck_b1, ck_bI, ix_nI, bI_0, bI_1, nI_1, lit_le, lit_lt, lit_eq, ↓reduceIte, ckl_4_56, ckl_0_56, ckl_3_56, ckl_1_56, ckl_5_56, ckl_2_56, ckl_1_2, ckl_0_2, ckl_0_256, ckl_0_8, ckl_33_34, ckl_32_34, ixl_0, ixl_1, ixl_2, ixl_3, ixl_4, ixl_5, ixl_8, ixl_10, ixl_32, ixl_33, ixl_40, ge56, h56]
        exact e1
      · rcases Nat.lt_or_ge k j with q | q
        · rw [a1 j (by omega) h2, wr_n _ _ _ _ hd]
        · have : j = k := by omega
          subst this
          rw [b1 j (by omega), wr_app, if_pos rfl, if_pos rfl]
      · rw [b1 j (by omega), wr_app, if_pos rfl, if_neg (by omega)]
    · have he : k = 56 := by omega
      subst he
      refine ⟨M, rfl, fun j h1 h2 => by omega, fun j _ => rfl, fun _ _ => rfl⟩
theorem x8_copyRow {d1 d2 : Nat} (hd : d1 ≠ d2) (M : Mem) : ∃ M1, fX8_copyRow d1 d2 M = some ((), M1) ∧ (∀ j, j < 56 → M1 d2 j = M d1 j) ∧ (∀ q, q ≠ d2 → M1 q = M q) := by
  obtain ⟨M1, e1, a1, -, s1⟩ := x8_cp2 hd fu 0 M (by decide) (by show _ < 2000; omega)
  exact ⟨M1, e1, fun j h => a1 j (Nat.zero_le _) h, s1⟩
theorem rl_copy {M M1 : Mem} {d1 d2 : Nat} {L : Lan} (hC : RLn M d1 L) (h : ∀ j, j < 56 → M1 d2 j = M d1 j) : RLn M1 d2 L := by
  obtain ⟨h1, h2, h3, h4, h5, h6, h7, h8, h9, h10, h11, h12⟩ := hC
  exact ⟨fun i hi => by rw [h _ (by omega)]; exact h1 i hi, fun i hi => by rw [h _ (by omega)]; exact h2 i hi, fun i hi => by rw [h _ (by omega)]; exact h3 i hi, fun i hi => by rw [h _ (by omega)]; exact h4 i hi, fun i hi => by rw [h _ (by omega)]; exact h5 i hi, fun i hi => by rw [h _ (by omega)]; exact h6 i hi, by rw [h _ (by omega)]; exact h7, by rw [h _ (by omega)]; exact h8, by rw [h _ (by omega)]; exact h9, by rw [h _ (by omega)]; exact h10, by rw [h _ (by omega)]; exact h11, by rw [h _ (by omega)]; exact h12⟩
theorem and_pow (a h : Nat) : a &&& 2 ^ h = if a.testBit h = true then 2 ^ h else 0 := by
  apply Nat.eq_of_testBit_eq
  intro i
  rw [Nat.testBit_and, Nat.testBit_two_pow]
  by_cases e : h = i
  · subst e
    cases hb : a.testBit h
    · simp
    · simp
  · cases hb : a.testBit h
    · simp [e]
    · simp [e, Nat.testBit_two_pow]
theorem st_below {f : Nat → Bool} {g : Nat} (h : ∀ k, k < g → f k = false) : stN f g = 0 := by
  have : stN f g = stN (fun _ => false) g := stN_congr h
  rw [this]
  have h2 : ∀ n, stN (fun _ => false) n = 0 := by
    intro n
    induction n with
    | zero => rfl
    | succ n ih => simp [stN, ih]
  exact h2 g
theorem x8_fr21 {L : Lan} (hW : WF L) {p : Nat} (hp : p < gN L) : ∀ (n h : Nat) (M : Mem), gH L ≤ h → h ≤ 16 → 16 - h < n → RLn M 58 (hrsN (h - gH L) L) → RLn M 60 L → M 57 5 = nI (stN (svB L p) h) → M 57 6 = nI (stN (shB L p) h) →
    ∃ M1, fX8_findRest_L21 n (nI p) M = some ((), M1) ∧ RLn M1 58 L ∧ M1 57 5 = nI (srvN L p) ∧ M1 57 6 = nI (shdN L p) ∧ M1 57 7 = nI (metR L p) ∧ M1 57 8 = nI (gSu (hrsN (16 - gH L) L) p) ∧ FR M M1 := by
  have hn8 := hW.1
  have hp8 : p < 8 := by omega
  have hnd := (hW.2.2.2.1 p hp8).2.2.2
  intro n
  induction n with
  | zero => intro h M _ _ h3; omega
  | succ n ih =>
    intro h M hg hh hn hC h60 h5 h6
    rw [fX8_findRest_L21]
    have hH : gH (hrsN (h - gH L) L) = h := by rw [hrs_H]; omega
    have hWh : WF (hrsN (h - gH L) L) := wf_hrs _ L hW (by omega)
    have hpk : p < gN (hrsN (h - gH L) L) := by rw [hrs_N]; exact hp
    have h0 : M 58 0 = nI h := by have := hC.2.2.2.2.2.2.2.2.1; rw [hH] at this; exact this
    rcases Nat.lt_or_ge h 16 with hlt | hge
    · have h16 : ¬ h = 16 := by omega
      have hpw : 2 ^ h < 2 ^ 16 := Nat.pow_lt_pow_right (by decide) hlt
      have hs1 := stN_lt (svB L p) h
      have hs2 := stN_lt (shB L p) h
      have hsh : shB L p h = hasN (hrsN (h - gH L) L) p h := by simp [shB, hg]
      have hstp : stpN (hrsN (h - gH L) L) = hrsN (h + 1 - gH L) L := by rw [← hrs_s]; congr 1; omega
      -- what comes of L105, whatever the bit
      have fin : ∀ (M2 : Mem) (w : Nat) (sv : Bool), RLn M2 58 (hrsN (h - gH L) L) → RLn M2 60 L → M2 57 6 = nI (stN (shB L p) (h + 1)) → sv = svB L p h → w = (if sv = true then 2 ^ h else 0) → FR M M2 →
          ∃ M1, fX8_findRest_L105 (fX8_findRest_L21 n) (nI p) (nI w) (nI (stN (svB L p) h)) M2 = some ((), M1) ∧ RLn M1 58 L ∧ M1 57 5 = nI (srvN L p) ∧ M1 57 6 = nI (shdN L p) ∧ M1 57 7 = nI (metR L p) ∧ M1 57 8 = nI (gSu (hrsN (16 - gH L) L) p) ∧ FR M M1 := by
        intro M2 w sv c2 d2 e2 hsv hw f2
        have hor : stN (svB L p) h ||| w = stN (svB L p) (h + 1) := by
          show _ = stN (svB L p) h + _
          rw [← hsv, hw]
          cases sv
          · simp
          · simp only [↓reduceIte]; exact or_pow hs1
        obtain ⟨M3, e3, c3, s3⟩ := x8_hour (M := wr M2 57 5 (nI (stN (svB L p) (h + 1)))) (rl_same c2 (wr_n _ _ _ _ (by decide))) hWh (by omega)
        rw [hstp] at c3
        obtain ⟨M4, e4, a4, b4, c4, d4, g4, f4⟩ := ih (h + 1) M3 (by omega) (by omega) (by omega) c3 (rl_same d2 (by rw [s3 60 (by decide), wr_n _ _ _ _ (by decide)])) (by rw [s3 57 (by decide), wr_app, if_pos rfl, if_pos rfl]) (by rw [s3 57 (by decide), wr_app, if_pos rfl, if_neg (by decide)]; exact e2)
        refine ⟨M4, ?_, a4, b4, c4, d4, g4, ((f2.tr (FR.f57 (by decide))).tr (FR.of s3)).tr f4⟩
        unfold fX8_findRest_L105
        simp only [nI_or, hor, wme, e3, bde, e4]
      simp (disch := omega) only [bde, bve, wme, ck_in, ck_b0, ck_b1, ck_bI, ix_nI, bI_0, bI_1, nI_1, lit_le, lit_lt, lit_eq, ↓reduceIte, ckl_4_56, ckl_0_56, ckl_3_56, ckl_1_56, ckl_5_56, ckl_2_56, ckl_1_2, ckl_0_2, ckl_0_256, ckl_0_8, ckl_33_34, ckl_32_34, ixl_0, ixl_1, ixl_2, ixl_3, ixl_4, ixl_5, ixl_8, ixl_10, ixl_32, ixl_33, ixl_40, x8_isOver hC hWh, hH, h16, decide_false, h0, shl_1, x8_hasShadow hC hWh hpk (show h < 32 by omega)]
      rw [← hsh]
      have hsv : svB L p h = (!(gNd L p).testBit h || !(gL L).testBit h || shB L p h) := by simp [svB, hg]
      cases hb : shB L p h
      · have o6 : stN (shB L p) h ||| 0 = stN (shB L p) (h + 1) := by simp [stN, hb]
        simp only [reduceCtorEq, ↓reduceIte]
        unfold fX8_findRest_L63
        have z6 : nI (stN (shB L p) h) ||| 0 = nI (stN (shB L p) (h + 1)) := by rw [nI_0', nI_or, o6]
        rw [h6, z6]
        have cX : RLn (wr M 57 6 (nI (stN (shB L p) (h + 1)))) 58 (hrsN (h - gH L) L) := rl_same hC (wr_n _ _ _ _ (by decide))
        have dX : RLn (wr M 57 6 (nI (stN (shB L p) (h + 1)))) 60 L := rl_same h60 (wr_n _ _ _ _ (by decide))
        have g0 : wr M 57 6 (nI (stN (shB L p) (h + 1))) 58 0 = nI h := by rw [wr_n _ _ _ _ (by decide)]; exact h0
        have g5 : wr M 57 6 (nI (stN (shB L p) (h + 1))) 57 5 = nI (stN (svB L p) h) := by rw [wr_app, if_pos rfl, if_neg (by decide)]; exact h5
        have g6 : wr M 57 6 (nI (stN (shB L p) (h + 1))) 57 6 = nI (stN (shB L p) (h + 1)) := by rw [wr_app, if_pos rfl, if_pos rfl]
        have nd8 := x8_Nd cX hp8
        rw [hrs_Nd] at nd8
        have li := x8_isLit cX hWh (show h < 32 by omega)
        rw [hrs_L] at li
        simp (disch := omega) only [bde, bve, wme, ck_in, ck_b0, ck_b1, ck_bI, ix_nI, bI_0, bI_1, nI_1, lit_le, lit_lt, lit_eq, ↓reduceIte, ckl_4_56, ckl_0_56, ckl_3_56, ckl_1_56, ckl_5_56, ckl_2_56, ckl_1_2, ckl_0_2, ckl_0_256, ckl_0_8, ckl_33_34, ckl_32_34, ixl_0, ixl_1, ixl_2, ixl_3, ixl_4, ixl_5, ixl_8, ixl_10, ixl_32, ixl_33, ixl_40, g0, li, nd8, nI_and, and_pow, g5]
        rw [hb] at hsv
        have F := FR.f57 (M := M) (i := 6) (v := nI (stN (shB L p) (h + 1))) (by decide)
        cases hl : (gL L).testBit h
        · simp only [↓reduceIte, fX8_findRest_L100]
          exact fin _ (2 ^ h) true cX dX g6 (by rw [hsv, hl]; simp) rfl F
        · cases hd : (gNd L p).testBit h
          · simp only [reduceCtorEq, ↓reduceIte, fX8_findRest_L100]
            exact fin _ (2 ^ h) true cX dX g6 (by rw [hsv, hd]; simp) rfl F
          · have hz : ¬ (2 ^ h = 0) := by have := Nat.two_pow_pos h; omega
            simp (disch := omega) only [reduceCtorEq, ↓reduceIte, q0, hz]
            exact fin _ 0 false cX dX g6 (by rw [hsv, hl, hd]; rfl) rfl F
      · have o6 : stN (shB L p) h ||| 2 ^ h = stN (shB L p) (h + 1) := by rw [or_pow hs2]; simp [stN, hb]
        simp only [reduceCtorEq, ↓reduceIte]
        unfold fX8_findRest_L63
        rw [h6, nI_or, o6]
        have cX : RLn (wr M 57 6 (nI (stN (shB L p) (h + 1)))) 58 (hrsN (h - gH L) L) := rl_same hC (wr_n _ _ _ _ (by decide))
        have dX : RLn (wr M 57 6 (nI (stN (shB L p) (h + 1)))) 60 L := rl_same h60 (wr_n _ _ _ _ (by decide))
        have g5 : wr M 57 6 (nI (stN (shB L p) (h + 1))) 57 5 = nI (stN (svB L p) h) := by rw [wr_app, if_pos rfl, if_neg (by decide)]; exact h5
        have g6 : wr M 57 6 (nI (stN (shB L p) (h + 1))) 57 6 = nI (stN (shB L p) (h + 1)) := by rw [wr_app, if_pos rfl, if_pos rfl]
        simp only [wme, bI_0, reduceCtorEq, ↓reduceIte, g5, fX8_findRest_L100]
        exact fin _ (2 ^ h) true cX dX g6 (by rw [hsv, hb]; simp) rfl (FR.f57 (by decide))
    · have he : h = 16 := by omega
      subst he
      have su8 := x8_Su hC hp8
      have hM1 : RLn (wr M 57 8 (nI (gSu (hrsN (16 - gH L) L) p))) 58 (hrsN (16 - gH L) L) := rl_same hC (wr_n _ _ _ _ (by decide))
      have nd8 := x8_Nd hM1 hp8
      rw [hrs_Nd] at nd8
      have g5 : wr M 57 8 (nI (gSu (hrsN (16 - gH L) L) p)) 57 5 = nI (srvN L p) := by rw [wr_app, if_pos rfl, if_neg (by decide)]; exact h5
      have hpc : pcN (srvN L p &&& gNd L p) = metR L p := by rw [Nat.and_comm]; exact pc_and hnd
      have hlt : srvN L p &&& gNd L p < 65536 := by rw [Nat.and_comm]; exact and_lt hnd
      obtain ⟨M3, e3, a3, s3⟩ := x8_copyRow (d1 := 60) (d2 := 58) (by decide) (wr (wr M 57 8 (nI (gSu (hrsN (16 - gH L) L) p))) 57 7 (nI (metR L p)))
      refine ⟨M3, ?_, rl_copy (M := wr (wr M 57 8 (nI (gSu (hrsN (16 - gH L) L) p))) 57 7 (nI (metR L p))) (rl_same h60 (by rw [wr_n _ _ _ _ (by decide), wr_n _ _ _ _ (by decide)])) a3, ?_, ?_, ?_, ?_, ?_⟩
      · simp (disch := omega) only [bde, bve, wme, ck_in, ck_b0, ck_b1, ck_bI, ix_nI, bI_0, bI_1, nI_1, lit_le, lit_lt, lit_eq, ↓reduceIte, ckl_4_56, ckl_0_56, ckl_3_56, ckl_1_56, ckl_5_56, ckl_2_56, ckl_1_2, ckl_0_2, ckl_0_256, ckl_0_8, ckl_33_34, ckl_32_34, ixl_0, ixl_1, ixl_2, ixl_3, ixl_4, ixl_5, ixl_8, ixl_10, ixl_32, ixl_33, ixl_40, x8_isOver hC hWh, hH, decide_true, reduceCtorEq, su8, nd8, g5, nI_and, x8_bits, hlt, hpc, e3]
      · rw [s3 57 (by decide), wr_app, if_pos rfl, if_neg (by decide)]; exact g5
      · rw [s3 57 (by decide), wr_app, if_pos rfl, if_neg (by decide), wr_app, if_pos rfl, if_neg (by decide)]; exact h6
      · rw [s3 57 (by decide), wr_app, if_pos rfl, if_pos rfl]
      · rw [s3 57 (by decide), wr_app, if_pos rfl, if_neg (by decide), wr_app, if_pos rfl, if_pos rfl]
      · exact ((FR.f57 (by decide)).tr (FR.f57 (by decide))).tr (FR.row (by decide) s3)
theorem x8_findRest {M : Mem} {L : Lan} (hC : RLn M 58 L) (hW : WF L) {p : Nat} (hp : p < gN L) :
    ∃ M1, fX8_findRest (nI p) M = some ((), M1) ∧ RLn M1 58 L ∧ M1 57 5 = nI (srvN L p) ∧ M1 57 6 = nI (shdN L p) ∧ M1 57 7 = nI (metR L p) ∧ M1 57 8 = nI (gSu (hrsN (16 - gH L) L) p) ∧ FR M M1 := by
  have hh := hW.2.1
  obtain ⟨M1, e1, a1, s1⟩ := x8_copyRow (d1 := 58) (d2 := 60) (by decide) M
  have c1 : RLn M1 58 L := rl_same hC (s1 58 (by decide))
  have d1 : RLn M1 60 L := rl_copy hC a1
  have z1 : stN (svB L p) (gH L) = 0 := st_below (fun k hk => by simp [svB, Nat.not_le.mpr hk])
  have z2 : stN (shB L p) (gH L) = 0 := st_below (fun k hk => by simp [shB, Nat.not_le.mpr hk])
  obtain ⟨M2, e2, a2, b2, c2, d2, g2, f2⟩ := x8_fr21 hW hp fu (gH L) (wr (wr M1 57 5 0) 57 6 0) (Nat.le_refl _) hh (by show _ < 2000; omega)
    (by rw [Nat.sub_self]; exact rl_same c1 (by rw [wr_n _ _ _ _ (by decide), wr_n _ _ _ _ (by decide)])) (rl_same d1 (by rw [wr_n _ _ _ _ (by decide), wr_n _ _ _ _ (by decide)]))
    (by rw [z1, wr_app, if_pos rfl, if_neg (by decide), wr_app, if_pos rfl, if_pos rfl]; rfl) (by rw [z2, wr_app, if_pos rfl, if_pos rfl]; rfl)
  refine ⟨M2, ?_, a2, b2, c2, d2, g2, (((FR.row (by decide) s1).tr (FR.f57 (by decide))).tr (FR.f57 (by decide))).tr f2⟩
  unfold fX8_findRest
  simp only [e1, bde, wme, e2]

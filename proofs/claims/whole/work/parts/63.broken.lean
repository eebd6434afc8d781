/-! two who would rather agree -/
theorem RSt.keep {M M1 : Mem} {L : Lan} (h : RSt M L) (f : ∀ k, 15 ≤ k → k ≤ 23 → M1 k = M k) : RSt M1 L := by
  obtain ⟨h1, h2, h3, h4⟩ := h
  exact ⟨cl_same h1 (fun k a b => f k (by omega) (by omega)), fun i a b => by rw [f 23 (by omega) (by omega)]; exact h2 i a b, by rw [f 15 (by omega) (by omega)]; exact h3, by rw [f 15 (by omega) (by omega)]; exact h4⟩
def rathB (L : Lan) (p q : Nat) : Bool := decide (metR L p < ag0 L p q) && decide (metR L q < ag1 L p q)
theorem x7_rather {M : Mem} {L : Lan} (hC : CLn M 1 L) (hW : WF L) (hR : RSt M L) {p q : Nat} (hpq : p < q) (hq : q < gN L) : ∃ M1, fX7_wouldRatherAgree (nI p) (nI q) M = some (bI (rathB L p q), M1) ∧ SmA M M1 := by
  have hn := hW.1
  have hp : p < gN L := by omega
  have hne : nI p ≠ nI q := fun e => by have := nI_inj (by omega) (by omega) e; omega
  obtain ⟨M1, e1, a1, s1⟩ := x0_make (d := 1) (x := nI p) (y := nI q) (p := p) (q := q) hC hW (by decide) hp hq (by rw [pIn_t hp (by omega), pIn_t hq (by omega), decide_eq_true hne]; rfl) (by rw [imin_nI (by omega) (by omega), Nat.min_eq_left (by omega)]) (by rw [imax_nI (by omega) (by omega), Nat.max_eq_right (by omega)])
  have r1 : RSt M1 L := hR.keep (fun k a b => s1 k (by omega))
  have m0 : ag0 L p q ≤ 16 := pcN_le _
  have m1 : ag1 L p q ≤ 16 := pcN_le _
  have m2 := metR_le L p
  have m3 := metR_le L q
  refine ⟨M1, ?_, s1⟩
  unfold fX7_wouldRatherAgree rathB
  rw [e1, bde, x0_side0 a1, bde, x4_metOf r1 hW hp, bde]
  by_cases c : metR L p < ag0 L p q
  · rw [if_neg (by rw [lit_le (by omega) (by omega)]; omega), x0_side1 a1, bde, x4_metOf r1 hW hq, bde, decide_eq_true c]
    by_cases d : metR L q < ag1 L p q
    · rw [if_neg (by rw [lit_le (by omega) (by omega)]; omega), ck_b1, decide_eq_true d]; rfl
    · rw [if_pos (by rw [lit_le (by omega) (by omega)]; omega), ck_b0, decide_eq_false d]; rfl
  · rw [if_pos (by rw [lit_le (by omega) (by omega)]; omega), ck_b0, decide_eq_false c]; rfl
theorem h1_e {L : Lan} (hW : WF L) (n0 n1 : Nat → Bool) : nI (shdA L) &&& (nI (stN (h0N n0 n1 (shdA L).testBit) 16) ^^^ (-1)) = nI (stN (h1N n0 n1 (shdA L).testBit) 16) := by
  apply b_st
  intro i hi
  rw [b_and, b_not _ hi, b_nI _ hi, b_nI _ hi, stN_tb]
  unfold h0N h1N
  by_cases h16 : i < 16
  · rw [decide_eq_true h16, Bool.true_and, Bool.true_and]
    cases (shdA L).testBit i <;> simp
  · have : (shdA L).testBit i = false := tb_hi (shd_lt L) (by omega)
    rw [this, decide_eq_false h16]; rfl
theorem x8_break {M : Mem} {L : Lan} (hC : RLn M 58 L) (hW : WF L) {p q : Nat} (hpq : p < q) (hq : q < gN L) : ∃ M1, fX8_wouldBreak (nI p) (nI q) M = some (bI (rathB L p q), M1) ∧ RLn M1 58 L ∧ FR M M1 := by
  have hn := hW.1
  have hp : p < gN L := by omega
  have np := (hW.2.2.2.1 p (by omega)).2.2.2
  have nq := (hW.2.2.2.1 q (by omega)).2.2.2
  obtain ⟨M1, e1, s1⟩ := x8_heldByLess hC hW hp hq
  have c1 : RLn M1 58 L := rl_same hC (s1 58 (by decide))
  have f1 : FR M M1 := FR.row (r := 62) (by decide) s1
  have h3 : M1 58 3 = nI (gL L) := c1.2.2.2.2.2.2.2.1
  have hsh : nI (rstN L) &&& nI (gL L) = nI (shdA L) := nI_and _ _
  obtain ⟨M2, e2, c2, _, _, a2, _, f2⟩ := x8_findRest c1 hW hp
  obtain ⟨M3, e3, c3, _, _, a3, _, f3⟩ := x8_findRest c2 hW hq
  have m0 : ag0 L p q ≤ 16 := pcN_le _
  have m1 : ag1 L p q ≤ 16 := pcN_le _
  have m2 := metR_le L p
  have m3 := metR_le L q
  have n2 : fX8_needsIn (nI p) (nI (stN (h0N (gNd L p).testBit (gNd L q).testBit (shdA L).testBit) 16) ||| nI (drkA L)) M2 = some (nI (ag0 L p q), M2) := by
    unfold fX8_needsIn
    rw [x8_Nd c2 (by omega), bde, nI_or, nI_and, Nat.or_comm, x8_bits M2 (and_lt np), bde]
    rfl
  have n3 : fX8_needsIn (nI q) (nI (stN (h1N (gNd L p).testBit (gNd L q).testBit (shdA L).testBit) 16) ||| nI (drkA L)) M3 = some (nI (ag1 L p q), M3) := by
    unfold fX8_needsIn
    rw [x8_Nd c3 (by omega), bde, nI_or, nI_and, Nat.or_comm, x8_bits M3 (and_lt nq), bde]
    rfl
  refine ⟨M3, ?_, c3, (f1.tr f2).tr f3⟩
  have l61 : ∀ b : Bool, fX8_wouldBreak_L61 (nI q) (nI (stN (h0N (gNd L p).testBit (gNd L q).testBit (shdA L).testBit) 16)) (nI (shdA L)) (nI (drkA L)) (bI b) M2 = some (bI (b && decide (metR L q < ag1 L p q)), M3) := by
    intro b
    unfold fX8_wouldBreak_L61
    rw [e3, bde]
    cases b
    · rw [ifF, ck_b0]; rfl
    · rw [ifT, h1_e hW, n3, bde, a3, Bool.true_and]
      by_cases d : metR L q < ag1 L p q
      · rw [if_neg (by rw [lit_le (by omega) (by omega)]; omega), ck_b1, decide_eq_true d]; rfl
      · rw [if_pos (by rw [lit_le (by omega) (by omega)]; omega), ck_b0, decide_eq_false d]; rfl
  have l0 : fX8_wouldBreak_L61 (nI q) (nI (stN (h0N (gNd L p).testBit (gNd L q).testBit (shdA L).testBit) 16)) (nI (shdA L)) (nI (drkA L)) 0 M2 = _ := l61 false
  have l1 : fX8_wouldBreak_L61 (nI q) (nI (stN (h0N (gNd L p).testBit (gNd L q).testBit (shdA L).testBit) 16)) (nI (shdA L)) (nI (drkA L)) 1 M2 = _ := l61 true
  unfold fX8_wouldBreak rathB
  rw [e1, bde, x8_restHours c1 hW, bde, ckl_3_56, ixl_3, h3, hsh, bve, x8_restHours c1 hW, bde, ckl_3_56, h3, drk_e hW, bve, e2, bde, n2, bde, a2, l0, l1]
  by_cases c : metR L p < ag0 L p q
  · rw [if_neg (by rw [lit_le (by omega) (by omega)]; omega), decide_eq_true c]
  · rw [if_pos (by rw [lit_le (by omega) (by omega)]; omega), decide_eq_false c]

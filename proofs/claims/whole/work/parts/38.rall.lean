/-! needs of all, counted by hours and by people -/
def one (b : Bool) : Nat := if b = true then 1 else 0
theorem cn_sm (f : Nat → Bool) (n : Nat) : cnN f n = smN (fun k => one (f k)) n := by
  induction n with
  | zero => rfl
  | succ n ih => show cnN f n + _ = smN _ n + _; rw [ih]; rfl
theorem sm_congr {f g : Nat → Nat} {n : Nat} (h : ∀ k, k < n → f k = g k) : smN f n = smN g n := by
  induction n with
  | zero => rfl
  | succ n ih => show smN f n + f n = smN g n + g n; rw [ih (fun k hk => h k (by omega)), h n (by omega)]
theorem sm_zero (n : Nat) : smN (fun _ => 0) n = 0 := by
  induction n with
  | zero => rfl
  | succ n ih => show smN _ n + 0 = 0; rw [ih]
theorem sm_add (f g : Nat → Nat) (n : Nat) : smN (fun k => f k + g k) n = smN f n + smN g n := by
  induction n with
  | zero => rfl
  | succ n ih => show smN (fun k => f k + g k) n + (f n + g n) = (smN f n + f n) + (smN g n + g n); rw [ih]; omega
theorem sm_swap (a : Nat → Nat → Nat) (n m : Nat) : smN (fun p => smN (fun h => a p h) m) n = smN (fun h => smN (fun p => a p h) n) m := by
  induction n with
  | zero => show 0 = smN (fun _ => 0) m; rw [sm_zero]
  | succ n ih =>
    show smN (fun p => smN (fun h => a p h) m) n + smN (fun h => a n h) m = smN (fun h => smN (fun p => a p h) n + a n h) m
    rw [ih, sm_add]
theorem sm_split (f : Nat → Nat) (a k : Nat) : smN f (a + k) = smN f a + smN (fun i => f (a + i)) k := by
  induction k with
  | zero => rfl
  | succ k ih => show smN f (a + k) + f (a + k) = smN f a + (smN (fun i => f (a + i)) k + f (a + k)); rw [ih]; omega
theorem par_Me (L : Lan) (k : Nat) : gMe (parN L k) = gMe L + nI (cnN (metA L) k) := by
  induction k with
  | zero => show gMe L = gMe L + nI 0; rw [nI_0]; simp
  | succ k ih =>
    show (if metA L k = true then gMe (parN L k) + 1 else gMe (parN L k)) = gMe L + nI (cnN (metA L) k + if metA L k = true then 1 else 0)
    rw [ih]
    cases metA L k
    · simp
    · simp only [↓reduceIte]
      rw [← nI_1, Int32.add_assoc]
theorem stp_Me (L : Lan) : gMe (stpN L) = gMe L + nI (cnN (metA L) (gN L)) := par_Me L (gN L)
theorem hrs_Me (k : Nat) (L : Lan) : gMe (hrsN k L) = gMe L + nI (smN (fun i => cnN (metA (hrsN i L)) (gN L)) k) := by
  induction k with
  | zero => show gMe L = gMe L + nI 0; rw [nI_0]; simp
  | succ k ih =>
    rw [hrs_s, stp_Me, ih, hrs_N, Int32.add_assoc, nI_add]
    rfl
theorem metA_hrs (L : Lan) (i p : Nat) : metA (hrsN i L) p = mtB L p (gH L + i) := by
  unfold metA mtB shB litN
  rw [hrs_Nd, hrs_L, hrs_H]
  simp
theorem met_sum {L : Lan} (hW : WF L) : smN (fun i => cnN (metA (hrsN i L)) (gN L)) (16 - gH L) = smN (metR L) (gN L) := by
  have e1 : smN (fun i => cnN (metA (hrsN i L)) (gN L)) (16 - gH L) = smN (fun i => smN (fun p => one (mtB L p (gH L + i))) (gN L)) (16 - gH L) :=
    sm_congr (fun i _ => by rw [cn_sm]; exact sm_congr (fun p _ => by rw [metA_hrs]))
  have e2 : smN (metR L) (gN L) = smN (fun p => smN (fun i => one (mtB L p (gH L + i))) (16 - gH L)) (gN L) := sm_congr (fun p _ => by
    unfold metR
    rw [cn_sm]
    have hs := sm_split (fun k => one (mtB L p k)) (gH L) (16 - gH L)
    rw [show gH L + (16 - gH L) = 16 by have := hW.2.1; omega] at hs
    have z : smN (fun k => one (mtB L p k)) (gH L) = 0 := by
      rw [← sm_zero (gH L)]
      exact sm_congr (fun k hk => by simp [mtB, Nat.not_le.mpr hk, one])
    rw [hs, z, Nat.zero_add])
  rw [e1, e2, sm_swap]
theorem x8_metByAll {M : Mem} {L : Lan} (hC : RLn M 58 L) (hW : WF L) : ∃ M1, fX8_metByAll M = some (nI (smN (metR L) (gN L)), M1) ∧ RLn M1 58 L ∧ FR M M1 := by
  have hh := hW.2.1
  obtain ⟨M1, e1, a1, s1⟩ := x8_copyRow (d1 := 58) (d2 := 60) (by decide) M
  have c1 : RLn M1 58 L := rl_same hC (s1 58 (by decide))
  have d1 : RLn M1 60 L := rl_copy hC a1
  have h0 : M1 58 0 = nI (gH L) := c1.2.2.2.2.2.2.2.2.1
  obtain ⟨M2, e2, c2, s2⟩ := x8_hoursGo (m := 16 - gH L) c1 hW (by omega)
  have d2 : RLn M2 60 L := rl_same d1 (s2 60 (by decide))
  have h1 : M2 60 1 = gMe L := d2.2.2.2.2.2.2.2.2.2.1
  obtain ⟨M3, e3, a3, s3⟩ := x8_copyRow (d1 := 60) (d2 := 58) (by decide) M2
  have hsub : (16 : Int32) - nI (gH L) = nI (16 - gH L) := pk_sub (a := 16) hh
  have hr : gMe (hrsN (16 - gH L) L) - gMe L = nI (smN (metR L) (gN L)) := by
    rw [hrs_Me, met_sum hW, Int32.add_comm, Int32.add_sub_cancel]
  refine ⟨M3, ?_, rl_copy d2 a3, ((FR.row (by decide) s1).tr (FR.of s2)).tr (FR.row (by decide) s3)⟩
  unfold fX8_metByAll fX8_putBack
  simp only [bde, bve, wme, ck_in, ck_b0, ck_b1, ck_bI, ix_nI, bI_0, bI_1, nI_1, lit_le, lit_lt, lit_eq, ↓reduceIte, ckl_4_56, ckl_0_56, ckl_3_56, ckl_1_56, ckl_5_56, ckl_2_56, ckl_1_2, ckl_0_2, ckl_0_256, ckl_0_8, ckl_33_34, ckl_32_34, ixl_0, ixl_1, ixl_2, ixl_3, ixl_4, ixl_5, ixl_8, ixl_10, ixl_32, ixl_33, ixl_40, e1, h0, hsub, e2, h1, hr, e3]
theorem x8_restHours {M : Mem} {L : Lan} (hC : RLn M 58 L) (hW : WF L) : fX8_restHours M = some (nI (rstN L), M) := by
  have hh := hW.2.1
  have h0 : M 58 0 = nI (gH L) := hC.2.2.2.2.2.2.2.2.1
  have hp : 2 ^ gH L ≤ 2 ^ 16 := Nat.pow_le_pow_right (by decide) hh
  unfold fX8_restHours
  simp (disch := omega) only [bde, bve, wme, ck_in, ck_b0, ck_b1, ck_bI, ix_nI, bI_0, bI_1, nI_1, lit_le, lit_lt, lit_eq, ↓reduceIte, ckl_4_56, ckl_0_56, ckl_3_56, ckl_1_56, ckl_5_56, ckl_2_56, ckl_1_2, ckl_0_2, ckl_0_256, ckl_0_8, ckl_33_34, ckl_32_34, ixl_0, ixl_1, ixl_2, ixl_3, ixl_4, ixl_5, ixl_8, ixl_10, ixl_32, ixl_33, ixl_40, h0, shl_1]
  rw [show (65536 : Int32) = nI 65536 from rfl, pk_sub hp]
  rfl

/-! pairings: the reference's tables -/
theorem wrt_ne {v : Nat → Nat → Nat} {f : Nat → Nat × Nat} {s a o : Nat} (hv : ∀ p q, v p q ≠ 0) (hf : (f (wo s a o)).1 ≠ 0) (h : (s.testBit o && (!decide (a = o) || decide (pcN s % 2 = 1))) = true) : wrtN v f s a o = v (min a o) (max a o) + (f (wo s a o)).1 - 1 := by
  unfold wrtN
  rw [if_pos h, if_neg (hv _ _), if_neg hf]
theorem stp_mono {v : Nat → Nat → Nat} {f : Nat → Nat × Nat} {s : Nat} : ∀ d k, (stpP v f s k).1 ≤ (stpP v f s (k + d)).1 := by
  intro d
  induction d with
  | zero => intro k; exact Nat.le_refl _
  | succ d ih =>
    intro k
    refine Nat.le_trans (ih k) ?_
    rw [show k + (d + 1) = (k + d) + 1 by omega]
    generalize k + d = j
    simp only [stpP]
    split
    · exact Nat.le_of_lt (by assumption)
    · split <;> exact Nat.le_refl _
theorem stp_ge {v : Nat → Nat → Nat} {f : Nat → Nat × Nat} {s o : Nat} (ho : o < 8) : wrtN v f s (lsN s) o ≤ (stpP v f s 8).1 := by
  have h1 : wrtN v f s (lsN s) o ≤ (stpP v f s (o + 1)).1 := by
    simp only [stpP]
    split
    · exact Nat.le_refl _
    · split <;> exact Nat.not_lt.mp (by assumption)
  have h2 := stp_mono (v := v) (f := f) (s := s) (8 - (o + 1)) (o + 1)
  rw [show o + 1 + (8 - (o + 1)) = 8 by omega] at h2
  exact Nat.le_trans h1 h2
theorem some_o : ∀ s, s < 256 → s ≠ 0 → pcN s % 2 = 1 ∨ ∃ o, o < 8 ∧ o ≠ lsN s ∧ s.testBit o = true := by decide +kernel
theorem bc_ne {v : Nat → Nat → Nat} (hv : ∀ p q, v p q ≠ 0) : ∀ (k s : Nat), s < k → s < 256 → (bcP v s).1 ≠ 0 := by
  intro k
  induction k with
  | zero => intro s h; omega
  | succ k ih =>
    intro s hk hs
    by_cases h0 : s = 0
    · subst h0; rw [bc_0]; decide
    · obtain ⟨l1, l2, l3⟩ := ls_ok s hs h0
      rw [bc_s v hs h0]
      have key : ∀ o, o < 8 → (s.testBit o && (!decide (lsN s = o) || decide (pcN s % 2 = 1))) = true → (stpP v (bcP v) s 8).1 ≠ 0 := by
        intro o ho h
        have hw := wo_less (b := o) hs l1
        have hf := ih _ (by omega) (wo_lt s (lsN s) o)
        have := stp_ge (v := v) (f := bcP v) (s := s) ho
        rw [wrt_ne hv hf h] at this
        have := hv (min (lsN s) o) (max (lsN s) o)
        omega
      rcases some_o s hs h0 with z | ⟨o, o1, o2, o3⟩
      · exact key (lsN s) l2 (by rw [l1, z]; simp)
      · exact key o o1 (by rw [o3, decide_eq_false (fun q => o2 q.symm)]; rfl)
theorem x8_mayBe {s o : Nat} (M : Mem) (hs : s < 256) (h0 : s ≠ 0) (ho : o < 8) : fX8_mayBe (nI s) (nI o) M = some (bI (s.testBit o && (!decide (lsN s = o) || decide (pcN s % 2 = 1))), M) := by
  have hl := (ls_ok s hs h0).2.1
  have hpl := pcN_le s
  unfold fX8_mayBe
  rw [x8_has M (by omega) (by omega), bde]
  cases s.testBit o
  · rw [ifF, ck_b0]; rfl
  · rw [ifT, x8_lowest M hs h0, bde, Bool.true_and]
    by_cases e : lsN s = o
    · rw [if_pos (by rw [e]), x8_bits M (by omega), bde, irm_2 (by omega), decide_eq_true e]
      rcases Nat.mod_two_eq_zero_or_one (pcN s) with z | z
      · rw [z, if_neg (by decide), ck_b0]; rfl
      · rw [z, if_pos (by decide), ck_b1]; rfl
    · rw [if_neg (by rw [lit_eq (by omega) (by omega)]; exact fun q => e q.symm), ck_b1, decide_eq_false e]; rfl
def RTB (M : Mem) (f : Nat → Nat × Nat) (s : Nat) : Prop := ∀ t, t < s → M 63 t = mI (f t).1 ∧ M 64 t = nI (f t).2
theorem vag_ne (L : Lan) : ∀ p q, vAg L p q ≠ 0 := by
  intro p q
  unfold vAg
  split <;> omega
theorem wo_1 {s a : Nat} (hs : s < 256) (ha : a < 8) : nI s &&& (shl 1 (nI a) ^^^ (-1)) = nI (wo s a a) := by
  rw [← wo_e hs ha ha]
  apply b_ext
  intro i hi
  rw [b_and, b_and, b_and]
  cases bt (nI s) i <;> cases bt (shl 1 (nI a) ^^^ (-1)) i <;> rfl
theorem x8_mostWith {M : Mem} {L : Lan} {s o : Nat} (hC : RLn M 58 L) (hW : WF L) (hs : s < 2 ^ gN L) (h0 : s ≠ 0) (ho : s.testBit o = true) (hal : (s.testBit o && (!decide (lsN s = o) || decide (pcN s % 2 = 1))) = true) (hT : RTB M (bcP (vAg L)) s) : fX8_mostWith (nI s) (nI o) M = some (mI (wrtN (vAg L) (bcP (vAg L)) s (lsN s) o), M) := by
  have hn := hW.1
  have h256 := p256 hs hn
  obtain ⟨l1, l2, l3⟩ := ls_ok s h256 h0
  have hln := in_n hs l1
  have hon := in_n hs ho
  have hwl := wo_lt s (lsN s) o
  have t1 := (hT _ (wo_less (b := o) h256 l1)).1
  have hne := bc_ne (vag_ne L) (wo s (lsN s) o + 1) (wo s (lsN s) o) (by omega) hwl
  have hpos : wrtN (vAg L) (bcP (vAg L)) s (lsN s) o = vAg L (min (lsN s) o) (max (lsN s) o) + (bcP (vAg L) (wo s (lsN s) o)).1 - 1 := wrt_ne (vag_ne L) hne hal
  rw [mI_pos (by omega)] at t1
  have fin : ∀ x : Nat, vAg L (min (lsN s) o) (max (lsN s) o) = x + 1 → some (nI x + nI ((bcP (vAg L) (wo s (lsN s) o)).1 - 1), M) = some (mI (wrtN (vAg L) (bcP (vAg L)) s (lsN s) o), M) := by
    intro x hx
    rw [hpos, hx, mI_pos (by omega), nI_add]
    exact congrArg (fun z => some (nI z, M)) (by omega)
  unfold fX8_mostWith
  rw [x8_lowest M h256 h0, bde]
  by_cases e : o = lsN s
  · have nl := (hW.2.2.2.1 (lsN s) (by omega)).2.2.2
    have hin : fX8_needsIn (nI (lsN s)) (nI (rstN L)) M = some (nI (pcN (gNd L (lsN s) &&& rstN L)), M) := by
      unfold fX8_needsIn
      rw [x8_Nd hC (by omega), bde, nI_and, x8_bits M (and_lt nl), bde]
    rw [e] at t1 fin hwl ⊢
    rw [if_pos rfl, x8_restHours hC hW, bde, hin, bde, wo_1 h256 l2, ck_in hwl (by decide), ix_nI (by omega), t1]
    exact fin _ (by unfold vAg; rw [Nat.min_self, Nat.max_self, if_pos rfl])
  · rw [if_neg (by rw [lit_eq (by omega) (by omega)]; exact e), x8_meets hC hW hln hon, bde, wo_e h256 l2 (by omega), ck_in hwl (by decide), ix_nI (by omega), t1]
    exact fin _ (by unfold vAg; rw [if_neg (by omega), mts_mm])

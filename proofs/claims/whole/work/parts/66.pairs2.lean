/-! pairings: the class weighs -/
def VAL (M : Mem) (v : Nat → Nat → Nat) (n : Nat) : Prop := ∀ p q, p ≤ q → q < n → M 30 (p * 8 + q) = mI (v p q)
def TBL (M : Mem) (f : Nat → Nat × Nat) (s : Nat) : Prop := ∀ t, t < s → M 31 t = mI (f t).1 ∧ M 32 t = nI (f t).2
theorem mul8 (k : Nat) : nI k * 8 = nI (k * 8) := by
  rw [Int32.mul_comm, mu8, Nat.mul_comm]
theorem x2_valueOf {M : Mem} {v : Nat → Nat → Nat} {n a o : Nat} (hV : VAL M v n) (hn : n ≤ 8) (ha : a < n) (ho : o < n) : fX2_valueOf (nI a) (nI o) M = some (mI (v (min a o) (max a o)), M) := by
  unfold fX2_valueOf
  rw [imin_nI (by omega) (by omega), imax_nI (by omega) (by omega), mul8, nI_add, ck_in (by omega) (by decide), ix_nI (by omega), hV _ _ (by omega) (by omega)]
theorem in_n {s n i : Nat} (hs : s < 2 ^ n) (h : s.testBit i = true) : i < n := by
  rcases Nat.lt_or_ge i n with h1 | h1
  · exact h1
  · rw [Nat.testBit_lt_two_pow (Nat.lt_of_lt_of_le hs (Nat.pow_le_pow_right (by decide) h1))] at h
    cases h
theorem p256 {s n : Nat} (hs : s < 2 ^ n) (hn : n ≤ 8) : s < 256 := Nat.lt_of_lt_of_le hs (by have := Nat.pow_le_pow_right (n := 2) (by decide) hn; simpa using this)
def VB (v : Nat → Nat → Nat) : Prop := ∀ p q, v p q ≤ 100
theorem wrt_le {v : Nat → Nat → Nat} {f : Nat → Nat × Nat} {s a o : Nat} (hv : VB v) (hs : s < 256) (ha : s.testBit a = true) (hf : ∀ t, t < s → (f t).1 ≤ 100 * t + 1) : wrtN v f s a o ≤ 100 * s := by
  unfold wrtN
  have h1 := hv (min a o) (max a o)
  have h2 := wo_less (b := o) hs ha
  have h3 := hf _ h2
  split
  · split
    · omega
    · split <;> omega
  · omega
theorem stp_le {v : Nat → Nat → Nat} {f : Nat → Nat × Nat} {s : Nat} (hv : VB v) (hs : s < 256) (h0 : s ≠ 0) (hf : ∀ t, t < s → (f t).1 ≤ 100 * t + 1) (k : Nat) : (stpP v f s k).1 ≤ 100 * s := by
  have h1 := (ls_ok s hs h0).1
  induction k with
  | zero => exact Nat.zero_le _
  | succ k ih =>
    have hw := wrt_le (o := k) hv hs h1 hf
    simp only [stpP]
    split
    · exact hw
    · split
      · exact ih
      · exact ih
theorem bc_le {v : Nat → Nat → Nat} (hv : VB v) : ∀ (k s : Nat), s < k → s < 256 → (bcP v s).1 ≤ 100 * s + 1 := by
  intro k
  induction k with
  | zero => intro s h; omega
  | succ k ih =>
    intro s hk hs
    by_cases h0 : s = 0
    · subst h0; exact Nat.le_refl _
    · rw [bc_s v hs h0]
      have := stp_le hv hs h0 (fun t ht => ih t (by omega) (by omega)) 8
      omega
theorem x2_worth {M : Mem} {v : Nat → Nat → Nat} {n s a o : Nat} (hv : VB v) (hV : VAL M v n) (hn : n ≤ 8) (hs : s < 2 ^ n) (ha : s.testBit a = true) (ho : o < 8) (hT : TBL M (bcP v) s) : fX2_worthWith (nI s) (nI a) (nI o) M = some (mI (wrtN v (bcP v) s a o), M) := by
  have h256 := p256 hs hn
  have han := in_n hs ha
  have hbl : (bcP v (wo s a o)).1 ≤ 100 * wo s a o + 1 := bc_le hv (wo s a o + 1) _ (by omega) (wo_lt _ _ _)
  have hwl := wo_lt s a o
  have hvl := hv (min a o) (max a o)
  obtain ⟨t1, t2⟩ := hT _ (wo_less (b := o) h256 ha)
  have hpc := bitCount (s := s) M (by omega)
  have hpl := pcN_le s
  have no : fX2_worthWith_L28 (nI s) (nI a) (nI o) M = some (mI 0, M) := by
    unfold fX2_worthWith_L28 fX2_worthWith_L29
    rw [if_pos rfl]
    rfl
  have yes : o < n → fX2_worthWith_L24 (nI s) (nI a) (nI o) M = some (mI (if v (min a o) (max a o) = 0 then 0 else if (bcP v (wo s a o)).1 = 0 then 0 else v (min a o) (max a o) + (bcP v (wo s a o)).1 - 1), M) := by
    intro hon
    unfold fX2_worthWith_L24 fX2_worthWith_L29
    rw [if_neg (by decide), x2_valueOf hV hn han hon, bde]
    by_cases c : v (min a o) (max a o) = 0
    · rw [if_pos (by rw [mI_m1 (by omega)]; exact c), if_pos c]; rfl
    · rw [if_neg (by rw [mI_m1 (by omega)]; exact c), if_neg c, x2_without M h256 (by omega) ho, bde, ck_in hwl (by decide), ix_nI (by omega), t1]
      by_cases d : (bcP v (wo s a o)).1 = 0
      · rw [if_pos (by rw [mI_m1 (by omega)]; exact d), if_pos d]; rfl
      · rw [if_neg (by rw [mI_m1 (by omega)]; exact d), if_neg d, x2_valueOf hV hn han hon, bde, x2_without M h256 (by omega) ho, bde, ck_in hwl (by decide), ix_nI (by omega), t1, mI_pos (by omega), mI_pos (by omega), nI_add, mI_pos (by omega)]
        exact congrArg (fun z => some (nI z, M)) (by omega)
  unfold fX2_worthWith wrtN
  rw [x7_bit M (by omega) (by omega), bde]
  cases hb : s.testBit o
  · rw [if_neg (by decide), no, Bool.false_and, if_neg (by decide)]
  · have hon := in_n hs hb
    rw [if_pos (by decide), Bool.true_and]
    by_cases e : a = o
    · rw [if_pos (by rw [e]), hpc, bde, irm_2 (by omega), decide_eq_true e]
      rcases Nat.mod_two_eq_zero_or_one (pcN s) with z | z
      · rw [z, if_neg (by decide), no, if_neg (by decide)]
      · rw [z, if_pos (by decide), yes hon, if_pos (show (!true || decide (1 = 1)) = true by decide)]
    · rw [if_neg (by rw [lit_eq (by omega) (by omega)]; exact e), yes hon, decide_eq_false e, if_pos (show (!false || decide (pcN s % 2 = 1)) = true by rw [Bool.not_false, Bool.true_or])]

/-! pairings: sets of people -/
def wo (s a b : Nat) : Nat := stN (fun i => s.testBit i && (!decide (i = a) && !decide (i = b))) 8
def lsF (s : Nat) : Nat → Nat → Nat
  | 0, p => p
  | f + 1, p => if s.testBit p = true then p else lsF s f (p + 1)
def lsN (s : Nat) : Nat := lsF s 7 0
theorem ls_ok : ∀ s, s < 256 → s ≠ 0 → s.testBit (lsN s) = true ∧ lsN s < 8 ∧ ∀ i, i < 8 → i < lsN s → s.testBit i = false := by decide +kernel
theorem wo_lt (s a b : Nat) : wo s a b < 256 := stN_lt _ 8
theorem wo_tb (s a b i : Nat) : (wo s a b).testBit i = (decide (i < 8) && (s.testBit i && (!decide (i = a) && !decide (i = b)))) := by
  unfold wo
  rw [stN_tb]
theorem tb_8 {s i : Nat} (h : s < 256) (hi : 8 ≤ i) : s.testBit i = false := Nat.testBit_lt_two_pow (Nat.lt_of_lt_of_le h (by have := Nat.pow_le_pow_right (n := 2) (by decide) hi; simpa using this))
theorem wo_less {s a b : Nat} (hs : s < 256) (ha : s.testBit a = true) : wo s a b < s := by
  have hle : wo s a b ≤ s := by
    have : wo s a b &&& s = wo s a b := by
      apply Nat.eq_of_testBit_eq
      intro i
      rw [Nat.testBit_and, wo_tb]
      cases decide (i < 8) <;> cases s.testBit i <;> simp
    rw [← this]
    exact Nat.and_le_right
  have hne : wo s a b ≠ s := by
    intro e
    have t : (wo s a b).testBit a = false := by rw [wo_tb]; simp
    rw [e, ha] at t
    cases t
  omega
theorem wo_e {s a b : Nat} (hs : s < 256) (ha : a < 8) (hb : b < 8) : (nI s &&& (shl 1 (nI a) ^^^ (-1))) &&& (shl 1 (nI b) ^^^ (-1)) = nI (wo s a b) := by
  apply b_st
  intro i hi
  rw [b_and, b_and, b_not _ hi, b_not _ hi, shl_1 (by omega), shl_1 (by omega), b_nI _ hi, b_nI _ hi, b_nI _ hi, Nat.testBit_two_pow, Nat.testBit_two_pow]
  by_cases h8 : i < 8
  · rw [decide_eq_true h8]
    by_cases e1 : a = i <;> by_cases e2 : b = i <;> simp [e1, e2, eq_comm]
  · rw [tb_8 hs (by omega), decide_eq_false h8]; rfl
theorem x2_without {s a b : Nat} (M : Mem) (hs : s < 256) (ha : a < 8) (hb : b < 8) : fX2_without (nI s) (nI a) (nI b) M = some (nI (wo s a b), M) := by
  unfold fX2_without
  rw [wo_e hs ha hb]
theorem x2_least2 {M : Mem} {s : Nat} (hs : s < 256) (h0 : s ≠ 0) : ∀ (n p : Nat), p ≤ lsN s → lsN s - p < n → fX2_leastOf_L2 n (nI s) (nI p) M = some (nI (lsN s), M) := by
  obtain ⟨h1, h2, h3⟩ := ls_ok s hs h0
  intro n
  induction n with
  | zero => intro p _ h; omega
  | succ n ih =>
    intro p hp hn
    rw [fX2_leastOf_L2]
    by_cases e : 7 ≤ p
    · have : lsN s = 7 := by omega
      rw [if_pos (by rw [show (7 : Int32) = nI 7 from rfl, lit_le (by omega) (by omega)]; exact e), this]; rfl
    · rw [if_neg (by rw [show (7 : Int32) = nI 7 from rfl, lit_le (by omega) (by omega)]; exact e), x7_bit M (by omega) (by omega), bde]
      by_cases c : p = lsN s
      · rw [c, h1, if_pos (by decide)]
      · rw [h3 p (by omega) (by omega), if_neg (by decide), bve, ad1]
        exact ih (p + 1) (by omega) (by omega)
theorem x2_leastOf {s : Nat} (M : Mem) (hs : s < 256) (h0 : s ≠ 0) : fX2_leastOf (nI s) M = some (nI (lsN s), M) := by
  have := (ls_ok s hs h0).2.1
  exact x2_least2 hs h0 fu 0 (Nat.zero_le _) (by show _ < 2000; omega)
theorem x8_low2 {M : Mem} {s : Nat} (hs : s < 256) (h0 : s ≠ 0) : ∀ (n p : Nat), p ≤ lsN s → lsN s - p < n → fX8_lowest_L2 n (nI s) (nI p) M = some (nI (lsN s), M) := by
  obtain ⟨h1, h2, h3⟩ := ls_ok s hs h0
  intro n
  induction n with
  | zero => intro p _ h; omega
  | succ n ih =>
    intro p hp hn
    rw [fX8_lowest_L2, x8_has M (by omega) (by omega), bde]
    by_cases c : p = lsN s
    · rw [c, h1, ifT]
    · rw [h3 p (by omega) (by omega), ifF, bve, ad1]
      exact ih (p + 1) (by omega) (by omega)
theorem x8_lowest {s : Nat} (M : Mem) (hs : s < 256) (h0 : s ≠ 0) : fX8_lowest (nI s) M = some (nI (lsN s), M) := by
  have := (ls_ok s hs h0).2.1
  exact x8_low2 hs h0 fu 0 (Nat.zero_le _) (by show _ < 2000; omega)
/-- what the pair of the least and o brings, or 0: never; f t: the best of t and the number -/
def wrtN (v : Nat → Nat → Nat) (f : Nat → Nat × Nat) (s a o : Nat) : Nat :=
  if (s.testBit o && (!decide (a = o) || decide (pcN s % 2 = 1))) = true then (if v (min a o) (max a o) = 0 then 0 else if (f (wo s a o)).1 = 0 then 0 else v (min a o) (max a o) + (f (wo s a o)).1 - 1) else 0
def stpP (v : Nat → Nat → Nat) (f : Nat → Nat × Nat) (s : Nat) : Nat → Nat × Nat
  | 0 => (0, 0)
  | k + 1 => if (stpP v f s k).1 < wrtN v f s (lsN s) k then (wrtN v f s (lsN s) k, (f (wo s (lsN s) k)).2) else if wrtN v f s (lsN s) k ≠ 0 ∧ wrtN v f s (lsN s) k = (stpP v f s k).1 then ((stpP v f s k).1, (stpP v f s k).2 + (f (wo s (lsN s) k)).2) else stpP v f s k
def tabP (v : Nat → Nat → Nat) : Nat → Nat → Nat × Nat
  | 0 => fun _ => (1, 1)
  | k + 1 => fun t => if t = k + 1 then stpP v (tabP v k) (k + 1) 8 else tabP v k t
def bcP (v : Nat → Nat → Nat) (t : Nat) : Nat × Nat := tabP v t t
theorem tab_bc (v : Nat → Nat → Nat) {k t : Nat} (h : t ≤ k) : tabP v k t = bcP v t := by
  induction k with
  | zero => have : t = 0 := by omega
            subst this; rfl
  | succ k ih =>
    by_cases e : t = k + 1
    · subst e; rfl
    · show (if t = k + 1 then _ else tabP v k t) = _
      rw [if_neg e]
      exact ih (by omega)
theorem wrt_congr {v : Nat → Nat → Nat} {f g : Nat → Nat × Nat} {s a o : Nat} (hs : s < 256) (ha : s.testBit a = true) (h : ∀ t, t < s → f t = g t) : wrtN v f s a o = wrtN v g s a o := by
  unfold wrtN
  rw [h _ (wo_less hs ha)]
theorem stp_congr {v : Nat → Nat → Nat} {f g : Nat → Nat × Nat} {s : Nat} (hs : s < 256) (h0 : s ≠ 0) (h : ∀ t, t < s → f t = g t) (k : Nat) : stpP v f s k = stpP v g s k := by
  have h1 := (ls_ok s hs h0).1
  induction k with
  | zero => rfl
  | succ k ih =>
    simp only [stpP]
    rw [ih, wrt_congr hs h1 h, h _ (wo_less hs h1)]
theorem bc_0 (v : Nat → Nat → Nat) : bcP v 0 = (1, 1) := rfl
theorem bc_s (v : Nat → Nat → Nat) {s : Nat} (hs : s < 256) (h0 : s ≠ 0) : bcP v s = stpP v (bcP v) s 8 := by
  obtain ⟨k, rfl⟩ : ∃ k, s = k + 1 := ⟨s - 1, by omega⟩
  show (if k + 1 = k + 1 then stpP v (tabP v k) (k + 1) 8 else _) = _
  rw [if_pos rfl]
  exact stp_congr hs h0 (fun t ht => tab_bc v (by omega)) 8

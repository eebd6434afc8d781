/-! agreements: the class's tables -/
def shdA (L : Lan) : Nat := rstN L &&& gL L
def worN (n0 n1 s : Nat → Bool) (h t : Nat) : Nat := hun (if t = 0 then n0 h else n1 h) + behN n0 n1 s (15 - h) t
theorem hun_le (b : Bool) : hun b ≤ 100 := by cases b <;> decide
theorem wor_lt (n0 n1 s : Nat → Bool) {h t : Nat} (ht : t < 2) : worN n0 n1 s h t < 2000 := by
  obtain ⟨i1, i2, i3, i4, i5, i6, i7, i8⟩ := few_inv n0 n1 s (15 - h)
  rcases (show t = 0 ∨ t = 1 by omega) with rfl | rfl
  · have := hun_le (if (0 : Nat) = 0 then n0 h else n1 h)
    show hun (if (0 : Nat) = 0 then n0 h else n1 h) + behN n0 n1 s (15 - h) 0 < 2000
    omega
  · have := hun_le (if (1 : Nat) = 0 then n0 h else n1 h)
    show hun (if (1 : Nat) = 0 then n0 h else n1 h) + behN n0 n1 s (15 - h) 1 < 2000
    omega
theorem beh_s (n0 n1 s : Nat → Bool) {h t : Nat} (hh : h < 16) (ht : t < 2) : behN n0 n1 s (16 - h) t = if s h = true then max (worN n0 n1 s h t) (worN n0 n1 s h (1 - t) - 1) else behN n0 n1 s (15 - h) t := by
  have e : 16 - h = (15 - h) + 1 := by omega
  have e2 : 15 - (15 - h) = h := by omega
  rw [e]
  simp only [behN, e2, worN]
  rcases (show t = 0 ∨ t = 1 by omega) with rfl | rfl <;> simp
/-- what the tables stand on -/
def AGn (M : Mem) (a b s : Nat) : Prop := M 26 0 = nI a ∧ M 26 1 = nI b ∧ M 24 4 = nI s ∧ a < 65536 ∧ b < 65536 ∧ s < 65536
theorem AGn.fr {M M1 : Mem} {a b s : Nat} (h : AGn M a b s) (f1 : M1 26 = M 26) (f2 : M1 24 = M 24) : AGn M1 a b s := by
  unfold AGn
  rw [f1, f2]
  exact h
theorem x0_worthOf {M : Mem} {a b s h t : Nat} (hA : AGn M a b s) (hh : h < 16) (ht : t < 2) (hb : M 28 (2 * h + 2 + t) = nI (behN a.testBit b.testBit s.testBit (15 - h) t)) : fX0_worthOf (nI t) (nI h) M = some (nI (worN a.testBit b.testBit s.testBit h t), M) := by
  obtain ⟨h1, h2, h3, h4, h5, h6⟩ := hA
  have e : M 26 t = nI (if t = 0 then a else b) := by
    rcases (show t = 0 ∨ t = 1 by omega) with rfl | rfl
    · exact h1
    · exact h2
  have e2 : (100 : Int32) * bI ((if t = 0 then a else b).testBit h) = nI (hun (if t = 0 then a.testBit h else b.testBit h)) := by
    rcases (show t = 0 ∨ t = 1 by omega) with rfl | rfl
    · simp only [if_true]; cases a.testBit h <;> rfl
    · simp only [show ¬ (1 = 0) by omega, if_false]; cases b.testBit h <;> rfl
  have e3 : (2 : Int32) * nI h + 2 + nI t = nI (2 * h + 2 + t) := by rw [mu2, ad2, nI_add]
  unfold fX0_worthOf
  rw [ck_in ht (by decide), ix_nI (by omega), e, x7_bit M (by split <;> omega) (by omega), bde, e3, ck_in (by omega) (by decide), ix_nI (by omega), hb, e2, nI_add]
  rfl
theorem x0_w25 {k19 : Int32 → Mem → Option (Unit × Mem)} {M : Mem} {a b s h t n : Nat} (hA : AGn M a b s) (hh : h < 16) (ht : t < 2) (hb : ∀ u, u < 2 → M 28 (2 * h + 2 + u) = nI (behN a.testBit b.testBit s.testBit (15 - h) u)) : fX0_weighBehind_L25 k19 (n + 1) (nI h) (nI t) M = fX0_weighBehind_L25 k19 n (nI h) (nI (t + 1)) (wr M 28 (2 * h + t) (nI (behN a.testBit b.testBit s.testBit (16 - h) t))) := by
  have w1 := x0_worthOf hA hh ht (hb t ht)
  have w2 := x0_worthOf hA hh (show 1 - t < 2 by omega) (hb (1 - t) (by omega))
  have b1 := wor_lt a.testBit b.testBit s.testBit (h := h) ht
  have b2 := wor_lt a.testBit b.testBit s.testBit (h := h) (show 1 - t < 2 by omega)
  have e1 : (1 : Int32) - nI t = nI (1 - t) := pk_sub (a := 1) (by omega)
  have e2 : (2 : Int32) * nI h + nI t = nI (2 * h + t) := by rw [mu2, nI_add]
  have e3 : (2 : Int32) * nI h + 2 + nI t = nI (2 * h + 2 + t) := by rw [mu2, ad2, nI_add]
  have em : imax (nI (worN a.testBit b.testBit s.testBit h t)) (nI (worN a.testBit b.testBit s.testBit h (1 - t)) - 1) = nI (max (worN a.testBit b.testBit s.testBit h t) (worN a.testBit b.testBit s.testBit h (1 - t) - 1)) := by
    rcases Nat.eq_zero_or_pos (worN a.testBit b.testBit s.testBit h (1 - t)) with z | z
    · rw [z]
      unfold imax
      rw [if_neg (by rw [Int32.lt_iff_toInt_lt, nI_toInt (by omega), show nI 0 - 1 = (-1 : Int32) from rfl]; show ¬ (_ : Int) < -1; omega), Nat.zero_sub, Nat.max_eq_left (Nat.zero_le _)]
    · rw [sb1 z, imax_nI (by omega) (by omega)]
  have l91 : ∀ w, fX0_weighBehind_L91 (fX0_weighBehind_L25 k19 n) (nI h) (nI t) w (nI (2 * h + t)) M = fX0_weighBehind_L25 k19 n (nI h) (nI (t + 1)) (wr M 28 (2 * h + t) w) := by
    intro w
    unfold fX0_weighBehind_L91
    rw [ck_in (by omega) (by decide), ix_nI (by omega), wme, bve, ad1]
  rw [fX0_weighBehind_L25, if_neg (by rw [ge2 (by omega)]; omega), w1, bde, e1, w2, bde, bve, hA.2.2.1, show fX7_bit (nI s) (nI h) M = _ from x7_bit M (by have := hA.2.2.2.2.2; omega) (by omega), bde, em, e2, l91, e3, ck_in (by omega) (by decide), ix_nI (by omega), hb t ht, l91, beh_s _ _ _ hh ht]
  cases s.testBit h
  · rw [if_neg (by decide), if_neg (by decide)]
  · rw [if_pos (by decide), if_pos rfl]
theorem x0_w19 {a b s : Nat} : ∀ (n j : Nat) (M : Mem), j ≤ 16 → j < n → AGn M a b s → (∀ h t, j ≤ h → h ≤ 16 → t < 2 → M 28 (2 * h + t) = nI (behN a.testBit b.testBit s.testBit (16 - h) t)) → ∃ M1, fX0_weighBehind_L19 n (mI j) M = some ((), M1) ∧ (∀ q, q ≠ 28 → M1 q = M q) ∧ (∀ h t, h ≤ 16 → t < 2 → M1 28 (2 * h + t) = nI (behN a.testBit b.testBit s.testBit (16 - h) t)) := by
  intro n
  induction n with
  | zero => intro j M _ h2; omega
  | succ n ih =>
    intro j M hj hn hA hB
    rw [fX0_weighBehind_L19]
    cases j with
    | zero => exact ⟨M, by rw [if_pos (by decide)], fun _ _ => rfl, fun h t h1 h2 => hB h t (Nat.zero_le _) h1 h2⟩
    | succ j =>
      have hb0 : ∀ u, u < 2 → M 28 (2 * j + 2 + u) = nI (behN a.testBit b.testBit s.testBit (15 - j) u) := by
        intro u hu
        have := hB (j + 1) u (Nat.le_refl _) hj hu
        rw [show 16 - (j + 1) = 15 - j by omega, show 2 * (j + 1) + u = 2 * j + 2 + u by omega] at this
        exact this
      have hA1 : AGn (wr M 28 (2 * j + 0) (nI (behN a.testBit b.testBit s.testBit (16 - j) 0))) a b s := hA.fr (wr_n _ _ _ _ (by omega)) (wr_n _ _ _ _ (by omega))
      have hb1 : ∀ u, u < 2 → wr M 28 (2 * j + 0) (nI (behN a.testBit b.testBit s.testBit (16 - j) 0)) 28 (2 * j + 2 + u) = nI (behN a.testBit b.testBit s.testBit (15 - j) u) := by
        intro u hu
        rw [wr_app, if_pos rfl, if_neg (by omega)]
        exact hb0 u hu
      have hfu : fu = 1997 + 1 + 1 + 1 := rfl
      obtain ⟨M1, e1, s1, z1⟩ := ih j (wr (wr M 28 (2 * j + 0) (nI (behN a.testBit b.testBit s.testBit (16 - j) 0))) 28 (2 * j + 1) (nI (behN a.testBit b.testBit s.testBit (16 - j) 1))) (by omega) (by omega) (hA1.fr (wr_n _ _ _ _ (by omega)) (wr_n _ _ _ _ (by omega))) (fun h t h1 h2 h3 => by
        rw [wr_app, if_pos rfl, wr_app, if_pos rfl]
        by_cases w : 2 * h + t = 2 * j + 1
        · rw [if_pos w, show h = j by omega, show t = 1 by omega]
        · rw [if_neg w]
          by_cases w2 : 2 * h + t = 2 * j + 0
          · rw [if_pos w2, show h = j by omega, show t = 0 by omega]
          · rw [if_neg w2]; exact hB h t (by omega) h2 h3)
      refine ⟨M1, ?_, fun q hq => by rw [s1 q hq, wr_n _ _ _ _ hq, wr_n _ _ _ _ hq], z1⟩
      rw [mI_s, if_neg (nI_pos (by omega)), hfu, nI_0', x0_w25 hA (by omega) (by decide) hb0, x0_w25 hA1 (by omega) (by decide) hb1, fX0_weighBehind_L25, if_pos (by decide), bve, mI_dn, e1]
theorem x0_weigh {M : Mem} {a b s : Nat} (hA : AGn M a b s) : ∃ M1, fX0_weighBehind M = some ((), M1) ∧ (∀ q, q ≠ 28 → M1 q = M q) ∧ (∀ h t, h ≤ 16 → t < 2 → M1 28 (2 * h + t) = nI (behN a.testBit b.testBit s.testBit (16 - h) t)) := by
  obtain ⟨M1, e1, s1, z1⟩ := x0_w19 (a := a) (b := b) (s := s) fu 16 (wr (wr M 28 32 0) 28 33 0) (Nat.le_refl _) (by show _ < 2000; omega) ((hA.fr (wr_n _ _ _ _ (by omega)) (wr_n _ _ _ _ (by omega))).fr (wr_n _ _ _ _ (by omega)) (wr_n _ _ _ _ (by omega))) (fun h t h1 h2 h3 => by
    have : h = 16 := by omega
    subst this
    rw [wr_app, if_pos rfl, wr_app, if_pos rfl]
    rcases (show t = 0 ∨ t = 1 by omega) with rfl | rfl
    · rw [if_neg (by omega), if_pos (by omega)]; rfl
    · rw [if_pos (by omega)]; rfl)
  refine ⟨M1, ?_, fun q hq => by rw [s1 q hq, wr_n _ _ _ _ hq, wr_n _ _ _ _ hq], z1⟩
  unfold fX0_weighBehind
  rw [ckl_32_34, ixl_32, wme, ckl_33_34, ixl_33, wme]
  exact e1

/-! agreements: the class's choice -/
theorem sub_leI {A B x y : Nat} (hA : A < 2 ^ 20) (hB : B < 2 ^ 20) (hx : x < 2 ^ 20) (hy : y < 2 ^ 20) : (nI A - nI x ≤ nI B - nI y) = (A + y ≤ B + x) := by
  apply propext
  rw [Int32.le_iff_toInt_le, Int32.toInt_sub, Int32.toInt_sub, nI_toInt (by omega), nI_toInt (by omega), nI_toInt (by omega), nI_toInt (by omega)]
  have h1 : ((A : Int) - x).bmod (2 ^ 32) = (A : Int) - x := by apply Int.bmod_eq_of_le <;> omega
  have h2 : ((B : Int) - y).bmod (2 ^ 32) = (B : Int) - y := by apply Int.bmod_eq_of_le <;> omega
  rw [h1, h2]
  omega
theorem st_s {f : Nat → Bool} {h : Nat} (hh : h < 31) (hf : f h = true) : nI (stN f h) ||| shl 1 (nI h) = nI (stN f (h + 1)) := by
  have hl := stN_lt f h
  rw [shl_1 (by omega), nI_or, or_pow hl]
  show _ = nI (stN f h + if f h = true then 2 ^ h else 0)
  rw [if_pos hf]
theorem st_n {f : Nat → Bool} {h : Nat} (hf : f h = false) : stN f (h + 1) = stN f h := by
  show stN f h + (if f h = true then 2 ^ h else 0) = _
  rw [if_neg (by rw [hf]; decide), Nat.add_zero]
def BTb (M : Mem) (a b s : Nat) : Prop := ∀ h t, h ≤ 16 → t < 2 → M 28 (2 * h + t) = nI (behN a.testBit b.testBit s.testBit (16 - h) t)
theorem BTb.at {M : Mem} {a b s h t : Nat} (hB : BTb M a b s) (hh : h < 16) (ht : t < 2) : M 28 (2 * h + 2 + t) = nI (behN a.testBit b.testBit s.testBit (15 - h) t) := by
  have := hB (h + 1) t (by omega) ht
  rw [show 16 - (h + 1) = 15 - h by omega, show 2 * (h + 1) + t = 2 * h + 2 + t by omega] at this
  exact this
theorem x0_ch83 {k18 : Int32 → Int32 → Mem → Option (Unit × Mem)} {M : Mem} {h t : Nat} (ht : t < 2) : fX0_choose_L83 k18 (nI h) (nI t) M = k18 (nI t) (nI (h + 1)) (wr M 27 t (M 27 t ||| shl 1 (nI h))) := by
  unfold fX0_choose_L83 fX0_choose_L96
  rw [ck_in ht (by decide), ck_in ht (by decide), ix_nI (by omega), wme, bve, ad1]
theorem x0_chS {M : Mem} {a b s h p n : Nat} (hA : AGn M a b s) (hB : BTb M a b s) (hh : h < 16) (hp : p < 3) (hs : s.testBit h = true) : fX0_choose_L18 (n + 1) (mI p) (nI h) M = fX0_choose_L83 (fX0_choose_L18 n) (nI h) (nI (if pickN a.testBit b.testBit s.testBit h p = true then 1 else 0)) M := by
  have w0 : fX0_worthOf 0 (nI h) M = some (nI (worN a.testBit b.testBit s.testBit h 0), M) := x0_worthOf (t := 0) hA hh (by decide) (hB.at hh (by decide))
  have w1 : fX0_worthOf 1 (nI h) M = some (nI (worN a.testBit b.testBit s.testBit h 1), M) := x0_worthOf (t := 1) hA hh (by decide) (hB.at hh (by decide))
  have b0 := wor_lt a.testBit b.testBit s.testBit (h := h) (show 0 < 2 by omega)
  have b1 := wor_lt a.testBit b.testBit s.testBit (h := h) (show 1 < 2 by omega)
  have hpick : pickN a.testBit b.testBit s.testBit h p = decide (worN a.testBit b.testBit s.testBit h 0 + (if p = 1 then 1 else 0) < worN a.testBit b.testBit s.testBit h 1 + (if p = 2 then 1 else 0)) := rfl
  have l69 : ∀ x y : Nat, x < 2 → y < 2 → fX0_choose_L69 (fX0_choose_L18 n) (nI h) (nI (worN a.testBit b.testBit s.testBit h 0) - nI y) (nI x) (nI (worN a.testBit b.testBit s.testBit h 1)) M = fX0_choose_L83 (fX0_choose_L18 n) (nI h) (nI (if worN a.testBit b.testBit s.testBit h 0 + x < worN a.testBit b.testBit s.testBit h 1 + y then 1 else 0)) M := by
    intro x y hx hy
    unfold fX0_choose_L69
    rw [bve]
    by_cases c : worN a.testBit b.testBit s.testBit h 0 + x < worN a.testBit b.testBit s.testBit h 1 + y
    · rw [if_neg (by rw [sub_leI (by omega) (by omega) (by omega) (by omega)]; omega), if_pos c]; rfl
    · rw [if_pos (by rw [sub_leI (by omega) (by omega) (by omega) (by omega)]; omega), if_neg c]; rfl
  have hdec : (if pickN a.testBit b.testBit s.testBit h p = true then 1 else 0) = (if worN a.testBit b.testBit s.testBit h 0 + (if p = 1 then 1 else 0) < worN a.testBit b.testBit s.testBit h 1 + (if p = 2 then 1 else 0) then 1 else 0) := by
    rw [hpick]
    simp only [decide_eq_true_eq]
  rw [hdec, fX0_choose_L18, if_neg (by rw [ge16 (by omega)]; omega), hA.2.2.1, show fX7_bit (nI s) (nI h) M = _ from x7_bit M (by have := hA.2.2.2.2.2; omega) (by omega), hs, bde, if_pos (by decide), w0, bde]
  rcases (show p = 0 ∨ p = 1 ∨ p = 2 by omega) with rfl | rfl | rfl
  · rw [if_neg (by decide)]
    unfold fX0_choose_L52
    rw [bve, w1, bde, if_neg (by decide)]
    exact l69 0 0 (by decide) (by decide)
  · rw [if_neg (by decide)]
    unfold fX0_choose_L52
    rw [bve, w1, bde, if_pos (by decide)]
    exact l69 1 0 (by decide) (by decide)
  · rw [if_pos (by decide)]
    unfold fX0_choose_L52
    rw [bve, w1, bde, if_neg (by decide)]
    exact l69 0 1 (by decide) (by decide)
theorem x0_ch18 {a b s : Nat} : ∀ (n h : Nat) (M : Mem), h ≤ 16 → 16 - h < n → AGn M a b s → BTb M a b s → M 27 0 = nI (stN (h0N a.testBit b.testBit s.testBit) h) → M 27 1 = nI (stN (h1N a.testBit b.testBit s.testBit) h) →
    ∃ M1, fX0_choose_L18 n (mI (pthN a.testBit b.testBit s.testBit h)) (nI h) M = some ((), M1) ∧ (∀ q, q ≠ 27 → M1 q = M q) ∧ M1 27 0 = nI (stN (h0N a.testBit b.testBit s.testBit) 16) ∧ M1 27 1 = nI (stN (h1N a.testBit b.testBit s.testBit) 16) := by
  intro n
  induction n with
  | zero => intro h M _ h2; omega
  | succ n ih =>
    intro h M hh hn hA hB g0 g1
    by_cases e : h = 16
    · subst e
      exact ⟨M, by rw [fX0_choose_L18, if_pos (by decide)], fun _ _ => rfl, g0, g1⟩
    · have hp := pth_lt a.testBit b.testBit s.testBit h
      have hpt : pthN a.testBit b.testBit s.testBit (h + 1) = if s.testBit h = true then (if pickN a.testBit b.testBit s.testBit h (pthN a.testBit b.testBit s.testBit h) = true then 2 else 1) else pthN a.testBit b.testBit s.testBit h := rfl
      have k0 : h0N a.testBit b.testBit s.testBit h = (s.testBit h && !pickN a.testBit b.testBit s.testBit h (pthN a.testBit b.testBit s.testBit h)) := rfl
      have k1 : h1N a.testBit b.testBit s.testBit h = (s.testBit h && pickN a.testBit b.testBit s.testBit h (pthN a.testBit b.testBit s.testBit h)) := rfl
      cases hs : s.testBit h
      · rw [hs, Bool.false_and] at k0 k1
        rw [hs, if_neg (by decide)] at hpt
        obtain ⟨M1, e1, s1, z0, z1⟩ := ih (h + 1) M (by omega) (by omega) hA hB (by rw [st_n k0]; exact g0) (by rw [st_n k1]; exact g1)
        refine ⟨M1, ?_, s1, z0, z1⟩
        rw [hpt] at e1
        rw [fX0_choose_L18, if_neg (by rw [ge16 (by omega)]; omega), hA.2.2.1, show fX7_bit (nI s) (nI h) M = _ from x7_bit M (by have := hA.2.2.2.2.2; omega) (by omega), hs, bde, if_neg (by decide)]
        unfold fX0_choose_L96
        rw [bve, ad1, e1]
      · rw [x0_chS hA hB (by omega) hp hs]
        rw [hs, if_pos rfl] at hpt
        rw [hs, Bool.true_and] at k0 k1
        cases hk : pickN a.testBit b.testBit s.testBit h (pthN a.testBit b.testBit s.testBit h)
        · rw [hk, if_neg (by decide)] at hpt
          rw [hk] at k0 k1
          have n0 : M 27 0 ||| shl 1 (nI h) = nI (stN (h0N a.testBit b.testBit s.testBit) (h + 1)) := by rw [g0]; exact st_s (by omega) k0
          obtain ⟨M1, e1, s1, z0, z1⟩ := ih (h + 1) (wr M 27 0 (nI (stN (h0N a.testBit b.testBit s.testBit) (h + 1)))) (by omega) (by omega) (hA.fr (wr_n _ _ _ _ (by omega)) (wr_n _ _ _ _ (by omega))) (fun h t h1 h2 => by rw [wr_n _ _ _ _ (by omega)]; exact hB h t h1 h2) (by rw [wr_app, if_pos rfl, if_pos rfl]) (by rw [wr_app, if_pos rfl, if_neg (by omega), st_n k1]; exact g1)
          refine ⟨M1, ?_, fun q hq => by rw [s1 q hq, wr_n _ _ _ _ hq], z0, z1⟩
          rw [hpt, mI_s] at e1
          rw [if_neg (by decide), x0_ch83 (by decide), n0, e1]
        · rw [hk, if_pos rfl] at hpt
          rw [hk] at k0 k1
          have n1 : M 27 1 ||| shl 1 (nI h) = nI (stN (h1N a.testBit b.testBit s.testBit) (h + 1)) := by rw [g1]; exact st_s (by omega) k1
          obtain ⟨M1, e1, s1, z0, z1⟩ := ih (h + 1) (wr M 27 1 (nI (stN (h1N a.testBit b.testBit s.testBit) (h + 1)))) (by omega) (by omega) (hA.fr (wr_n _ _ _ _ (by omega)) (wr_n _ _ _ _ (by omega))) (fun h t h1 h2 => by rw [wr_n _ _ _ _ (by omega)]; exact hB h t h1 h2) (by rw [wr_app, if_pos rfl, if_neg (by omega), st_n k0]; exact g0) (by rw [wr_app, if_pos rfl, if_pos rfl])
          refine ⟨M1, ?_, fun q hq => by rw [s1 q hq, wr_n _ _ _ _ hq], z0, z1⟩
          rw [hpt, mI_s] at e1
          rw [if_pos rfl, x0_ch83 (by decide), n1, e1]
theorem x0_choose {M : Mem} {a b s : Nat} (hA : AGn M a b s) (hB : BTb M a b s) : ∃ M1, fX0_choose M = some ((), M1) ∧ (∀ q, q ≠ 27 → M1 q = M q) ∧ M1 27 0 = nI (stN (h0N a.testBit b.testBit s.testBit) 16) ∧ M1 27 1 = nI (stN (h1N a.testBit b.testBit s.testBit) 16) := by
  obtain ⟨M1, e1, s1, z0, z1⟩ := x0_ch18 (a := a) (b := b) (s := s) fu 0 (wr (wr M 27 0 0) 27 1 0) (by omega) (by show _ < 2000; omega) ((hA.fr (wr_n _ _ _ _ (by omega)) (wr_n _ _ _ _ (by omega))).fr (wr_n _ _ _ _ (by omega)) (wr_n _ _ _ _ (by omega))) (fun h t h1 h2 => by rw [wr_n _ _ _ _ (by omega), wr_n _ _ _ _ (by omega)]; exact hB h t h1 h2) (by rw [wr_app, if_pos rfl, if_neg (by omega), wr_app, if_pos rfl, if_pos rfl]; rfl) (by rw [wr_app, if_pos rfl, if_pos rfl]; rfl)
  refine ⟨M1, ?_, fun q hq => by rw [s1 q hq, wr_n _ _ _ _ hq, wr_n _ _ _ _ hq], z0, z1⟩
  unfold fX0_choose
  rw [ckl_0_2, ixl_0, wme, ckl_1_2, ixl_1, wme]
  exact e1

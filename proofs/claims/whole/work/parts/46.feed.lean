/-! feed -/
def byt (x : Int32) (j : Nat) : Nat := x.toBitVec.toNat / 2 ^ (8 * j) % 256
theorem byt_lt (x : Int32) (j : Nat) : byt x j < 256 := Nat.mod_lt _ (by decide)
theorem byt_tb (x : Int32) (j i : Nat) : (byt x j).testBit i = (decide (i < 8) && x.toBitVec.toNat.testBit (8 * j + i)) := by
  unfold byt
  rw [show (256 : Nat) = 2 ^ 8 from rfl, Nat.testBit_mod_two_pow, Nat.testBit_div_two_pow, Nat.add_comm]
theorem ush_tb {x : Int32} {k i : Nat} (hk : k < 32) (hi : i < 32) : bt (ush x (nI k)) i = x.toBitVec.toNat.testBit (k + i) := by
  have e : (ush x (nI k)).toBitVec = x.toBitVec >>> k := by
    have := sh_u k hk
    show x.toBitVec >>> (((nI k).toUInt32 &&& Int32.toUInt32 31).toBitVec % 32) = _
    rw [BitVec.ushiftRight_eq', this]
  unfold bt
  rw [e, BitVec.getLsbD_ushiftRight]
  rfl
theorem shr_tb {x : Int32} {k i : Nat} (hk : k < 32) (hi : k + i < 32) : bt (shr x (nI k)) i = x.toBitVec.toNat.testBit (k + i) := by
  have e : (shr x (nI k)).toBitVec = x.toBitVec.sshiftRight k := by
    have := sh_l k hk
    show x.toBitVec.sshiftRight' ((nI k &&& 31).toBitVec.smod 32) = _
    rw [BitVec.sshiftRight', this]
  unfold bt
  rw [e, BitVec.getLsbD_sshiftRight]
  have h1 : ¬ 32 ≤ i := by omega
  simp only [h1, hi, decide_false, Bool.not_false, Bool.true_and, ↓reduceIte]
  rfl
theorem b_255 (i : Nat) (h : i < 32) : bt 255 i = decide (i < 8) := by
  rw [show (255 : Int32) = nI (2 ^ 8 - 1) from rfl, b_nI _ h, Nat.testBit_two_pow_sub_one]
theorem ush_b {x : Int32} {j : Nat} (hj : j < 4) : ush x (nI (8 * j)) &&& 255 = nI (byt x j) := by
  apply b_ext
  intro i hi
  rw [b_and, b_255 i hi, b_nI _ hi, byt_tb, ush_tb (by omega) hi, Bool.and_comm]
theorem shr_b {x : Int32} {j : Nat} (hj : j < 4) : shr x (nI (8 * j)) &&& 255 = nI (byt x j) := by
  apply b_ext
  intro i hi
  rw [b_and, b_255 i hi, b_nI _ hi, byt_tb]
  by_cases h : i < 8
  · rw [shr_tb (by omega) (by omega), Bool.and_comm]
  · rw [decide_eq_false h, Bool.and_false, Bool.false_and]
def appS (S : Sta) (v : Nat) : Sta := wTl (wTa S (uf (tTa S) (tTl S) v)) (tTl S + 1)
def fedS (x : Int32) : Nat → Sta → Sta
  | 0, S => S
  | j + 1, S => fedS x j (appS S (byt x j))
theorem wfs_app {S : Sta} (hW : WFS S) (hl : tTl S < 120) {v : Nat} (hv : v < 256) : WFS (appS S v) := by
  obtain ⟨w1, w2, w3, w4, w5⟩ := hW
  refine ⟨w1, w2, by show tTl S + 1 ≤ 120; omega, fun i => ?_, w5⟩
  show uf (tTa S) (tTl S) v i < 256
  have := w4 i
  unfold uf
  split <;> omega
theorem wfs_fed (x : Int32) : ∀ (j : Nat) (S : Sta), WFS S → tTl S + j ≤ 120 → WFS (fedS x j S) := by
  intro j
  induction j with
  | zero => intro S h _; exact h
  | succ j ih =>
    intro S h hl
    exact ih _ (wfs_app h (by omega) (byt_lt _ _)) (by show tTl S + 1 + j ≤ 120; omega)
theorem x6_append {M : Mem} {S : Sta} (h : AC M S) (hl : tTl S < 120) {x : Int32} {v : Nat} (hx : x &&& 255 = nI v) : ∃ M1, fX6_append x M = some ((), M1) ∧ AC M1 (appS S v) ∧ ∀ k, 57 ≤ k → M1 k = M k := by
  obtain ⟨h1, h2, h3, h4, h5, h6, h7⟩ := h
  refine ⟨wr (wr M 35 (tTl S) (nI v)) 34 1 (nI (tTl S + 1)), ?_, ⟨cl_same h1 (fun k _ _ => by rw [wr_n _ _ _ _ (by omega), wr_n _ _ _ _ (by omega)]), fun hk => cl_same (h2 hk) (fun k _ _ => by rw [wr_n _ _ _ _ (by omega), wr_n _ _ _ _ (by omega)]), by rw [wr_n _ _ _ _ (by omega), wr_n _ _ _ _ (by omega)]; exact h3, fun j hj => ?_, by rw [wr_app, if_pos rfl, if_pos rfl]; rfl, fun s hs => ?_, fun q hq => by rw [wr_n _ _ _ _ (by omega), wr_n _ _ _ _ (by omega)]; exact h7 q hq⟩, fun k hk => by rw [wr_n _ _ _ _ (by omega), wr_n _ _ _ _ (by omega)]⟩
  · unfold fX6_append
    rw [h5, if_neg (by rw [ge120 (by omega)]; omega), ck_in hl (by decide), ix_nI (by omega), hx, wme, wme, wr_n _ _ _ _ (by omega), h5, ad1]
  · rw [wr_n _ _ _ _ (by omega), wr_app, if_pos rfl]
    show _ = nI (uf (tTa S) (tTl S) v j)
    unfold uf
    by_cases e : j = tTl S
    · rw [if_pos e, if_pos e]
    · have hj' : j < tTl S + 1 := hj
      rw [if_neg e, if_neg e]; exact h4 j (by omega)
  · obtain ⟨g1, g2, g3⟩ := h6 s hs
    exact ⟨by rw [wr_n _ _ _ _ (by omega), wr_n _ _ _ _ (by omega)]; exact g1, by rw [wr_n _ _ _ _ (by omega), wr_n _ _ _ _ (by omega)]; exact g2, fun j hj => by rw [wr_n _ _ _ _ (by omega), wr_n _ _ _ _ (by omega)]; exact g3 j hj⟩
theorem ar_append {M : Mem} {S : Sta} (h : AR M S) {v : Nat} : AR (wr (wr M 66 (tTl S) (nI v)) 57 15 (nI (tTl S + 1))) (appS S v) := by
  obtain ⟨h1, h2, h3, h4, h5, h6, h7, h8⟩ := h
  refine ⟨rl_same h1 (by rw [wr_n _ _ _ _ (by omega), wr_n _ _ _ _ (by omega)]), fun hk => rl_same (h2 hk) (by rw [wr_n _ _ _ _ (by omega), wr_n _ _ _ _ (by omega)]), by rw [wr_app, if_pos rfl, if_neg (by omega), wr_n _ _ _ _ (by omega)]; exact h3, fun j hj => ?_, by rw [wr_app, if_pos rfl, if_pos rfl]; rfl, fun s hs => ?_, fun q hq => by rw [wr_n _ _ _ _ (by omega), wr_n _ _ _ _ (by omega)]; exact h7 q hq, by rw [wr_n _ _ _ _ (by omega), wr_n _ _ _ _ (by omega)]; exact h8⟩
  · rw [wr_n _ _ _ _ (by omega), wr_app, if_pos rfl]
    show _ = nI (uf (tTa S) (tTl S) v j)
    unfold uf
    by_cases e : j = tTl S
    · rw [if_pos e, if_pos e]
    · have hj' : j < tTl S + 1 := hj
      rw [if_neg e, if_neg e]; exact h4 j (by omega)
  · obtain ⟨g1, g2, g3⟩ := h6 s hs
    exact ⟨by rw [wr_n _ _ _ _ (by omega), wr_n _ _ _ _ (by omega)]; exact g1, by rw [wr_n _ _ _ _ (by omega), wr_n _ _ _ _ (by omega)]; exact g2, fun j hj => by rw [wr_n _ _ _ _ (by omega), wr_n _ _ _ _ (by omega)]; exact g3 j hj⟩
theorem mI_dn (j : Nat) : nI j + (-1) = mI j := by
  unfold mI
  rw [Int32.sub_eq_add_neg]
theorem x7_feed40 {x : Int32} : ∀ (n j : Nat) (S : Sta) (M : Mem), AC M S → j ≤ 4 → tTl S + j ≤ 120 → j < n → ∃ M1, fX7_feed_L40 n x (mI j) M = some (nI (tTl S + j), M1) ∧ AC M1 (fedS x j S) ∧ ∀ k, 57 ≤ k → M1 k = M k := by
  intro n
  induction n with
  | zero => intro j S M _ _ _ h2; omega
  | succ n ih =>
    intro j S M h hj hl hn
    rw [fX7_feed_L40]
    cases j with
    | zero => exact ⟨M, by rw [if_pos (by decide), h.2.2.2.2.1]; rfl, h, fun _ _ => rfl⟩
    | succ j =>
      obtain ⟨M1, e1, a1, s1⟩ := x6_append h (by omega) (ush_b (x := x) (j := j) (by omega))
      obtain ⟨M2, e2, a2, s2⟩ := ih j (appS S (byt x j)) M1 a1 (by omega) (by show tTl S + 1 + j ≤ 120; omega) (by omega)
      refine ⟨M2, ?_, a2, fun k hk => (s2 k hk).trans (s1 k hk)⟩
      rw [mI_s, if_neg (nI_pos (by omega)), mu8, e1, bde, bve, mI_dn, e2]
      show some (nI (tTl S + 1 + j), M2) = _
      rw [Nat.add_right_comm, Nat.add_assoc]
theorem x8_feed38 {x : Int32} : ∀ (n j : Nat) (S : Sta) (M : Mem), AR M S → j ≤ 4 → tTl S + j ≤ 120 → j < n → ∃ M1, fX8_feed_L38 n x (mI j) M = some (nI (tTl S + j), M1) ∧ AR M1 (fedS x j S) ∧ ∀ k, k < 57 → M1 k = M k := by
  intro n
  induction n with
  | zero => intro j S M _ _ _ h2; omega
  | succ n ih =>
    intro j S M h hj hl hn
    rw [fX8_feed_L38]
    cases j with
    | zero => exact ⟨M, by rw [if_pos (by decide), h.2.2.2.2.1]; rfl, h, fun _ _ => rfl⟩
    | succ j =>
      obtain ⟨M2, e2, a2, s2⟩ := ih j (appS S (byt x j)) _ (ar_append h) (by omega) (by show tTl S + 1 + j ≤ 120; omega) (by omega)
      refine ⟨M2, ?_, a2, fun k hk => by rw [s2 k hk, wr_n _ _ _ _ (by omega), wr_n _ _ _ _ (by omega)]⟩
      rw [mI_s, if_neg (nI_pos (by omega)), mu8, shr_b (by omega), h.2.2.2.2.1, ck_in (by omega) (by decide), ix_nI (by omega), wme, wme, bve, mI_dn, wr_n _ _ _ _ (by omega), h.2.2.2.2.1, ad1, e2]
      show some (nI (tTl S + 1 + j), M2) = _
      rw [Nat.add_right_comm, Nat.add_assoc]
theorem tw_feed {S : Sta} (hW : WFS S) (x y : Int32) : Two (fX7_feed x y) (fX8_feed x y) S := by
  have hl := hW.2.2.1
  have e7 : ∀ M, fX7_feed x y M = if 1 ≤ y.toInt ∧ y.toInt ≤ ((4 : Nat) : Int) then (if y ≤ (120 - (M 34 1)) then (bv (y - 1) fun v1 => (fX7_feed_L40 fu x v1 M)) else (bd (fX7_found 1 M) fun r3 M2 => (some (r3, M2)))) else (fX7_feed_L10 M) := by
    intro M
    unfold fX7_feed
    rw [← x7_1k y (k := 4) (by decide)]
    rfl
  by_cases hy : 1 ≤ y.toInt ∧ y.toInt ≤ ((4 : Nat) : Int)
  · obtain ⟨m, h1, h2, rfl⟩ := of_1k hy
    have s120 : (120 : Int32) - nI (tTl S) = nI (120 - tTl S) := pk_sub (a := 120) hl
    have g8 : ∀ M, AR M S → fX8_feed x (nI m) M = (if nI (tTl S) + nI m ≤ 120 then (bv (nI m - 1) fun v3 => (fX8_feed_L38 fu x v3 M)) else (bd (fX8_finding (-1000002) M) fun r5 M4 => (some (r5, M4)))) := by
      intro M h
      unfold fX8_feed
      rw [show (4 : Int32) = nI 4 from rfl, x8_within1 _ M (by decide), decide_eq_true hy, bde, ifT, h.2.2.2.2.1]
    by_cases hm : tTl S + m ≤ 120
    · refine ⟨nI (tTl S + m), fedS x m S, fun M h => ?_, fun M h => ?_, wfs_fed x m S hW hm⟩
      · rw [e7, if_pos hy, h.2.2.2.2.1, s120, if_pos (by rw [lit_le (by omega) (by omega)]; omega), bve]
        exact x7_feed40 fu m S M h h2 hm (by show _ < 2000; omega)
      · rw [g8 M h, nI_add, if_pos (by rw [le120 (by omega)]; exact hm), bve]
        exact x8_feed38 fu m S M h h2 hm (by show _ < 2000; omega)
    · refine two_fd hW (i := 1) (by decide) (fun M h => ?_) (fun M h => ?_)
      · rw [e7, if_pos hy, h.2.2.2.2.1, s120, if_neg (by rw [lit_le (by omega) (by omega)]; omega)]
        exact fd7 1 M
      · rw [g8 M h, nI_add, if_neg (by rw [le120 (by omega)]; exact hm)]
        exact fd8 1 M
  · refine two_fd hW (i := 0) (by decide) (fun M h => ?_) (fun M h => ?_)
    · rw [e7, if_neg hy]
      exact fd7 0 M
    · unfold fX8_feed
      rw [show (4 : Int32) = nI 4 from rfl, x8_within1 _ M (by decide), decide_eq_false hy, bde, ifF]
      exact fd8 0 M

/-! pairs, ways -/
theorem nI_set {n : Nat} (hn : n ≤ 8) : shl 1 (nI n) - 1 = nI (2 ^ n - 1) := by
  rw [shl_1 (by omega), sb1 (Nat.two_pow_pos n)]
theorem x8_fp16 {L : Lan} (hW : WF L) : ∀ (m y : Nat) (M : Mem), 1 ≤ y → y ≤ 2 ^ gN L → 2 ^ gN L - y < m → RLn M 58 L → RTB M (bcP (vAg L)) y →
    ∃ M1, fX8_findPairs_L16 m (nI y) M = some (mI (bcP (vAg L) (2 ^ gN L - 1)).1, M1) ∧ (∀ q, q ≠ 63 → q ≠ 64 → M1 q = M q) ∧ RTB M1 (bcP (vAg L)) (2 ^ gN L) := by
  have hn := hW.1
  have h2 : 2 ^ gN L ≤ 256 := by have := Nat.pow_le_pow_right (n := 2) (by decide) hn; simpa using this
  have hp : 0 < 2 ^ gN L := Nat.two_pow_pos _
  intro m
  induction m with
  | zero => intro y M _ _ h; omega
  | succ m ih =>
    intro y M h1 hy hm hC hT
    have h4 : M 58 4 = nI (gN L) := hC.2.2.2.2.2.2.1
    rw [fX8_findPairs_L16, ckl_4_56, ixl_4, h4, nI_set hn, shl_1 (by omega)]
    by_cases e : y = 2 ^ gN L
    · refine ⟨M, ?_, fun _ _ _ => rfl, by rw [← e]; exact hT⟩
      have t1 := (hT (2 ^ gN L - 1) (by omega)).1
      rw [if_pos (by rw [lit_le (by omega) (by omega)]; omega), ckl_4_56, ck_in (by omega) (by decide), ix_nI (by omega), t1]
    · have h0 : y ≠ 0 := by omega
      have hs : y < 2 ^ gN L := by omega
      have f0 : FrR M (wr (wr M 63 y (mI 0)) 64 y (nI 0)) y := FrR.w63.tr FrR.w64
      obtain ⟨M1, e1, f1, z1, z2⟩ := x8_fp44 (k16 := fX8_findPairs_L16 m) hW hs h0 fu 0 (wr (wr M 63 y (mI 0)) 64 y (nI 0)) (Nat.zero_le _) (by show _ < 2000; omega) (rl_same hC f0.f58) (hT.fr f0) (by rw [wr_n _ _ _ _ (by omega), wr_app, if_pos rfl, if_pos rfl]; rfl) (by rw [wr_app, if_pos rfl, if_pos rfl]; rfl)
      have f2 := f0.tr f1
      have h8 : stpP (vAg L) (bcP (vAg L)) y (gN L) = bcP (vAg L) y := by
        rw [bc_s (vAg L) (by omega) h0, ← stp_hi hs (8 - gN L), show gN L + (8 - gN L) = 8 by omega]
      rw [h8] at z1 z2
      obtain ⟨M2, e2, s2, t2⟩ := ih (y + 1) M1 (by omega) (by omega) (by omega) (rl_same hC f2.f58) (fun t ht => by
        by_cases w : t = y
        · rw [w]; exact ⟨z1, z2⟩
        · exact (hT.fr f2) t (by omega))
      refine ⟨M2, ?_, fun q a b => by rw [s2 q a b, f2.1 q a b], t2⟩
      rw [if_neg (by rw [lit_le (by omega) (by omega)]; omega), ck_in (by omega) (by decide), ix_nI (by omega), wme, ck_in (by omega) (by decide), wme]
      exact e1.trans e2
theorem x8_findPairs {L : Lan} {M : Mem} (hW : WF L) (hC : RLn M 58 L) : ∃ M1, fX8_findPairs M = some (mI (bcP (vAg L) (2 ^ gN L - 1)).1, M1) ∧ (∀ q, q ≠ 63 → q ≠ 64 → M1 q = M q) ∧ RTB M1 (bcP (vAg L)) (2 ^ gN L) := by
  have hn := hW.1
  have h2 : 2 ^ gN L ≤ 256 := by have := Nat.pow_le_pow_right (n := 2) (by decide) hn; simpa using this
  have hp : 0 < 2 ^ gN L := Nat.two_pow_pos _
  obtain ⟨M1, e1, s1, t1⟩ := x8_fp16 hW fu 1 (wr (wr M 63 0 0) 64 0 1) (Nat.le_refl _) (by omega) (by show _ < 2000; omega) (rl_same hC (by rw [wr_n _ _ _ _ (by omega), wr_n _ _ _ _ (by omega)])) (fun t ht => by
    have : t = 0 := by omega
    subst this
    exact ⟨by rw [wr_n _ _ _ _ (by omega), wr_app, if_pos rfl, if_pos rfl, bc_0]; exact (mI_s 0).symm, by rw [wr_app, if_pos rfl, if_pos rfl]; rfl⟩)
  refine ⟨M1, ?_, fun q a b => by rw [s1 q a b, wr_n _ _ _ _ b, wr_n _ _ _ _ a], t1⟩
  unfold fX8_findPairs
  rw [show ix 0 = 0 from ixl_0, show (inb 0 256) = true by decide, ck_t rfl, wme, ck_t rfl, wme]
  exact e1
theorem FR.pr {M M1 : Mem} (h : ∀ q, q ≠ 63 → q ≠ 64 → M1 q = M q) : FR M M1 := ⟨fun k hk => h k (by omega) (by omega), by rw [h 57 (by decide) (by decide)], by rw [h 57 (by decide) (by decide)]⟩
theorem x7_w255 (x : Int32) (M : Mem) : fX7_isWithin x (256 - 1) M = some (bI (pIn 256 x), M) := x7_isWithin (k := 255) x M (by decide)
theorem tw_pairs {S : Sta} (hW : WFS S) : Two fX7_pairs fX8_pairs S := by
  have hn := hW.1.1
  have h2 : 2 ^ gN (tLa S) ≤ 256 := by have := Nat.pow_le_pow_right (n := 2) (by decide) hn; simpa using this
  have hp : 0 < 2 ^ gN (tLa S) := Nat.two_pow_pos _
  refine two_q hW (mI (bcP (vAg (tLa S)) (2 ^ gN (tLa S) - 1)).1) (fun M h => ?_) (fun M h => ?_)
  · obtain ⟨M1, e1, f1, v1, t1⟩ := x7_weighA hW.1 h.1
    have c1 : CLn M1 1 (tLa S) := cl_same h.1 (fun k _ _ => f1 k (by omega))
    refine ⟨M1, ?_, f1.fc⟩
    unfold fX7_pairs fX2_bestOf
    rw [e1, bde, x1_everybody c1 hW.1, bde, x7_w255, pIn_t (by omega) (by decide), bde, ifT, ck_in (by omega) (by decide), ix_nI (by omega), (t1 _ (by omega)).1, bde]
  · obtain ⟨M1, e1, s1, t1⟩ := x8_findPairs hW.1 h.1
    refine ⟨M1, ?_, rl_same h.1 (s1 58 (by decide) (by decide)), FR.pr s1⟩
    unfold fX8_pairs
    rw [e1, bde]
theorem tw_ways {S : Sta} (hW : WFS S) : Two fX7_ways fX8_ways S := by
  have hn := hW.1.1
  have h2 : 2 ^ gN (tLa S) ≤ 256 := by have := Nat.pow_le_pow_right (n := 2) (by decide) hn; simpa using this
  have hp : 0 < 2 ^ gN (tLa S) := Nat.two_pow_pos _
  refine two_q hW (nI (bcP (vAg (tLa S)) (2 ^ gN (tLa S) - 1)).2) (fun M h => ?_) (fun M h => ?_)
  · obtain ⟨M1, e1, f1, v1, t1⟩ := x7_weighA hW.1 h.1
    have c1 : CLn M1 1 (tLa S) := cl_same h.1 (fun k _ _ => f1 k (by omega))
    refine ⟨M1, ?_, f1.fc⟩
    unfold fX7_ways fX2_waysOf
    rw [e1, bde, x1_everybody c1 hW.1, bde, x7_w255, pIn_t (by omega) (by decide), bde, ifT, ck_in (by omega) (by decide), ix_nI (by omega), (t1 _ (by omega)).2, bde]
  · obtain ⟨M1, e1, s1, t1⟩ := x8_findPairs hW.1 h.1
    have c1 : RLn M1 58 (tLa S) := rl_same h.1 (s1 58 (by decide) (by decide))
    have h4 : M1 58 4 = nI (gN (tLa S)) := c1.2.2.2.2.2.2.1
    have hne := bc_ne (vag_ne (tLa S)) (2 ^ gN (tLa S)) (2 ^ gN (tLa S) - 1) (by omega) (by omega)
    have hle := bc_le (vb_ag (tLa S)) (2 ^ gN (tLa S)) (2 ^ gN (tLa S) - 1) (by omega) (by omega)
    refine ⟨M1, ?_, c1, FR.pr s1⟩
    unfold fX8_ways
    rw [e1, bde, if_pos (by rw [mI_ge0 (by omega)]; exact hne), ckl_4_56, ixl_4, h4, nI_set hn, ck_in (by omega) (by decide), ix_nI (by omega), (t1 _ (by omega)).2]

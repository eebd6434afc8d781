/-! pairings: the reference's loop; pairs, ways -/
def FrR (M M1 : Mem) (s : Nat) : Prop := (∀ q, q ≠ 63 → q ≠ 64 → M1 q = M q) ∧ (∀ t, t ≠ s → M1 63 t = M 63 t ∧ M1 64 t = M 64 t)
theorem FrR.rf {M : Mem} {s : Nat} : FrR M M s := ⟨fun _ _ _ => rfl, fun _ _ => ⟨rfl, rfl⟩⟩
theorem FrR.tr {M M1 M2 : Mem} {s : Nat} (h1 : FrR M M1 s) (h2 : FrR M1 M2 s) : FrR M M2 s := ⟨fun q a b => (h2.1 q a b).trans (h1.1 q a b), fun t a => ⟨((h2.2 t a).1).trans (h1.2 t a).1, ((h2.2 t a).2).trans (h1.2 t a).2⟩⟩
theorem FrR.w63 {M : Mem} {s : Nat} {x : Int32} : FrR M (wr M 63 s x) s := ⟨fun q a _ => wr_n _ _ _ _ a, fun t a => ⟨by rw [wr_app, if_pos rfl, if_neg a], by rw [wr_n _ _ _ _ (by omega)]⟩⟩
theorem FrR.w64 {M : Mem} {s : Nat} {x : Int32} : FrR M (wr M 64 s x) s := ⟨fun q _ b => wr_n _ _ _ _ b, fun t a => ⟨by rw [wr_n _ _ _ _ (by omega)], by rw [wr_app, if_pos rfl, if_neg a]⟩⟩
theorem RTB.fr {M M1 : Mem} {f : Nat → Nat × Nat} {s : Nat} (h : RTB M f s) (g : FrR M M1 s) : RTB M1 f s := fun t ht => by
  obtain ⟨a, b⟩ := g.2 t (by omega)
  rw [a, b]
  exact h t ht
theorem FrR.f58 {M M1 : Mem} {s : Nat} (h : FrR M M1 s) : M1 58 = M 58 := h.1 58 (by decide) (by decide)
theorem imaxM {a b : Nat} (ha : a < 2 ^ 30) (hb : b < 2 ^ 30) : imax (mI a) (mI b) = mI (max a b) := by
  unfold imax
  by_cases h : a < b
  · rw [if_pos (by rw [Int32.lt_iff_toInt_lt, mI_toInt ha, mI_toInt hb]; omega), Nat.max_eq_right (by omega)]
  · rw [if_neg (by rw [Int32.lt_iff_toInt_lt, mI_toInt ha, mI_toInt hb]; omega), Nat.max_eq_left (by omega)]
theorem stp_hi {v : Nat → Nat → Nat} {f : Nat → Nat × Nat} {s n : Nat} (hs : s < 2 ^ n) : ∀ d, stpP v f s (n + d) = stpP v f s n := by
  intro d
  induction d with
  | zero => rfl
  | succ d ih =>
    have hb : s.testBit (n + d) = false := Nat.testBit_lt_two_pow (Nat.lt_of_lt_of_le hs (Nat.pow_le_pow_right (by decide) (by omega)))
    have hw : wrtN v f s (lsN s) (n + d) = 0 := by
      unfold wrtN
      rw [hb, Bool.false_and, if_neg (by decide)]
    rw [show n + (d + 1) = (n + d) + 1 by omega]
    simp only [stpP]
    rw [hw, ih, if_neg (Nat.not_lt_zero _), if_neg (fun q => q.1 rfl)]
theorem x8_fp44 {k16 : Int32 → Mem → Option (Int32 × Mem)} {L : Lan} {s : Nat} (hW : WF L) (hs : s < 2 ^ gN L) (h0 : s ≠ 0) : ∀ (m k : Nat) (M : Mem), k ≤ gN L → gN L - k < m → RLn M 58 L → RTB M (bcP (vAg L)) s → M 63 s = mI (stpP (vAg L) (bcP (vAg L)) s k).1 → M 64 s = nI (stpP (vAg L) (bcP (vAg L)) s k).2 →
    ∃ M1, fX8_findPairs_L44 k16 m (nI s) (nI k) M = k16 (nI (s + 1)) M1 ∧ FrR M M1 s ∧ M1 63 s = mI (stpP (vAg L) (bcP (vAg L)) s (gN L)).1 ∧ M1 64 s = nI (stpP (vAg L) (bcP (vAg L)) s (gN L)).2 := by
  have hn := hW.1
  have h256 := p256 hs hn
  obtain ⟨l1, l2, l3⟩ := ls_ok s h256 h0
  have hv := vb_ag L
  have hbc : ∀ t, t < s → (bcP (vAg L) t).1 ≤ 100 * t + 1 := fun t ht => bc_le hv (t + 1) t (by omega) (by omega)
  intro m
  induction m with
  | zero => intro k M _ h2; omega
  | succ m ih =>
    intro k M hk hm hC hT h63 h64
    have h4 : M 58 4 = nI (gN L) := hC.2.2.2.2.2.2.1
    rw [fX8_findPairs_L44, ckl_4_56, ixl_4, h4]
    by_cases e : k = gN L
    · subst e
      exact ⟨M, by rw [if_pos (by rw [lit_le (by omega) (by omega)]; exact Nat.le_refl _), bve, ad1], FrR.rf, h63, h64⟩
    · rw [if_neg (by rw [lit_le (by omega) (by omega)]; omega), x8_mayBe M h256 h0 (by omega), bde]
      have hwl := wrt_le (o := k) hv h256 l1 hbc
      have hsl := stp_le hv h256 h0 hbc k
      have hst : stpP (vAg L) (bcP (vAg L)) s (k + 1) = (if (stpP (vAg L) (bcP (vAg L)) s k).1 < wrtN (vAg L) (bcP (vAg L)) s (lsN s) k then (wrtN (vAg L) (bcP (vAg L)) s (lsN s) k, (bcP (vAg L) (wo s (lsN s) k)).2) else if wrtN (vAg L) (bcP (vAg L)) s (lsN s) k ≠ 0 ∧ wrtN (vAg L) (bcP (vAg L)) s (lsN s) k = (stpP (vAg L) (bcP (vAg L)) s k).1 then ((stpP (vAg L) (bcP (vAg L)) s k).1, (stpP (vAg L) (bcP (vAg L)) s k).2 + (bcP (vAg L) (wo s (lsN s) k)).2) else stpP (vAg L) (bcP (vAg L)) s k) := rfl
      have l158 : ∀ M', fX8_findPairs_L158 (fX8_findPairs_L44 k16 m) (nI s) (nI k) M' = fX8_findPairs_L44 k16 m (nI s) (nI (k + 1)) M' := by
        intro M'; unfold fX8_findPairs_L158; rw [bve, ad1]
      cases hal : (s.testBit k && (!decide (lsN s = k) || decide (pcN s % 2 = 1)))
      · have hw : wrtN (vAg L) (bcP (vAg L)) s (lsN s) k = 0 := by
          unfold wrtN
          rw [hal, if_neg (by decide)]
        rw [hw, if_neg (Nat.not_lt_zero _), if_neg (fun q => q.1 rfl)] at hst
        rw [ifF, l158]
        exact ih (k + 1) M (by omega) (by omega) hC hT (by rw [hst]; exact h63) (by rw [hst]; exact h64)
      · have hbk : s.testBit k = true := by
          cases hb : s.testBit k
          · rw [hb] at hal; cases hal
          · rfl
        have hwo := wo_lt s (lsN s) k
        have t2 := (hT _ (wo_less (b := k) h256 l1)).2
        have hne := bc_ne (vag_ne L) (wo s (lsN s) k + 1) (wo s (lsN s) k) (by omega) hwo
        have hwne : wrtN (vAg L) (bcP (vAg L)) s (lsN s) k ≠ 0 := by
          rw [wrt_ne (vag_ne L) hne hal]
          have := vag_ne L (min (lsN s) k) (max (lsN s) k)
          omega
        have hmw := x8_mostWith hC hW hs h0 hbk hal hT
        generalize wrtN (vAg L) (bcP (vAg L)) s (lsN s) k = w at hwl hst hwne hmw
        have l141 : ∀ c : Nat, fX8_findPairs_L141 (fX8_findPairs_L44 k16 m) (nI s) (nI k) (mI w) (nI c) (nI s) M = fX8_findPairs_L44 k16 m (nI s) (nI (k + 1)) (wr (wr M 64 s (nI c)) 63 s (mI (max (stpP (vAg L) (bcP (vAg L)) s k).1 w))) := by
          intro c
          unfold fX8_findPairs_L141
          rw [ck_in h256 (by decide), ix_nI (by omega), wme, ck_in h256 (by decide), ck_in h256 (by decide), wme, wr_n _ _ _ _ (show (63 : Nat) ≠ 64 by omega), h63, imaxM (by omega) (by omega), l158]
        have go : ∀ c : Nat, stpP (vAg L) (bcP (vAg L)) s (k + 1) = (max (stpP (vAg L) (bcP (vAg L)) s k).1 w, c) → ∃ M1, fX8_findPairs_L141 (fX8_findPairs_L44 k16 m) (nI s) (nI k) (mI w) (nI c) (nI s) M = k16 (nI (s + 1)) M1 ∧ FrR M M1 s ∧ M1 63 s = mI (stpP (vAg L) (bcP (vAg L)) s (gN L)).1 ∧ M1 64 s = nI (stpP (vAg L) (bcP (vAg L)) s (gN L)).2 := by
          intro c hc
          have f0 : FrR M (wr (wr M 64 s (nI c)) 63 s (mI (max (stpP (vAg L) (bcP (vAg L)) s k).1 w))) s := FrR.w64.tr FrR.w63
          obtain ⟨M1, e1, f1, z1, z2⟩ := ih (k + 1) (wr (wr M 64 s (nI c)) 63 s (mI (max (stpP (vAg L) (bcP (vAg L)) s k).1 w))) (by omega) (by omega) (rl_same hC f0.f58) (hT.fr f0) (by rw [hc, wr_app, if_pos rfl, if_pos rfl]) (by rw [hc, wr_n _ _ _ _ (by omega), wr_app, if_pos rfl, if_pos rfl])
          exact ⟨M1, (l141 c).trans e1, f0.tr f1, z1, z2⟩
        have hle := mI_leM (a := w) (b := (stpP (vAg L) (bcP (vAg L)) s k).1) (by omega) (by omega)
        have heq := mI_eqM (a := w) (b := (stpP (vAg L) (bcP (vAg L)) s k).1) (by omega) (by omega)
        rw [ifT, hmw, bde, x8_lowest M h256 h0, bde, wo_e h256 l2 (by omega), ck_in hwo (by decide), ix_nI (show wo s (lsN s) k < 2 ^ 31 from Nat.lt_trans hwo (by decide)), t2, bve, ck_in h256 (by decide), ix_nI (by omega), h63]
        by_cases c : w ≤ (stpP (vAg L) (bcP (vAg L)) s k).1
        · rw [if_pos (by rw [hle]; exact c), ck_in h256 (by decide)]
          rw [if_neg (by omega)] at hst
          by_cases d : w = (stpP (vAg L) (bcP (vAg L)) s k).1
          · rw [if_pos ⟨hwne, d⟩] at hst
            rw [if_pos (by rw [heq]; exact d), ck_in h256 (by decide), h64, nI_add]
            exact go _ (by rw [hst, Nat.max_eq_left c])
          · rw [if_neg (fun q => d q.2)] at hst
            rw [if_neg (by rw [heq]; exact d), ck_in h256 (by decide), h64]
            exact go _ (by rw [hst, Nat.max_eq_left c])
        · rw [if_pos (by omega)] at hst
          rw [if_neg (by rw [hle]; exact c)]
          exact go _ (by rw [hst, Nat.max_eq_right (by omega)])

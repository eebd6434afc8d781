/-! changes, holder -/
theorem RowF.wr {M : Mem} {n0 n1 s : Nat → Bool} {h g i : Nat} {v : Int32} (hR : RowF M n0 n1 s g) (hi : i < 3 * h + 3) (hg : h < g) : RowF (wr M 62 i v) n0 n1 s g := fun w hw => by
  rw [wr_app, if_pos rfl, if_neg (by omega)]
  exact hR w hw
theorem x8_fa39 {k26 : Int32 → Int32 → Int32 → Mem → Option (Int32 × Mem)} {M : Mem} {L : Lan} {n p q h r : Nat} (hC : RLn M 58 L) (hW : WF L) (hp : p < gN L) (hq : q < gN L) (hg : gH L ≤ h) (hh : h < 16) (hr : r < 3) (hR : RowF M (gNd L p).testBit (gNd L q).testBit (shdA L).testBit (h + 1)) :
    fX8_findAgreement_L39 k26 (n + 1) (nI p) (nI q) (nI h) (nI r) M = fX8_findAgreement_L39 k26 n (nI p) (nI q) (nI h) (nI (r + 1)) (wr M 62 (3 * h + r) (nI (fewN (gNd L p).testBit (gNd L q).testBit (shdA L).testBit (16 - h) r))) := by
  have hsl : (shdA L).testBit h = (gL L).testBit h := by
    rw [shd_tb hW, decide_eq_true hg, decide_eq_true hh]; simp
  have l129 : ∀ v, fX8_findAgreement_L129 (fX8_findAgreement_L39 k26 n) (nI p) (nI q) (nI h) (nI r) v M = fX8_findAgreement_L39 k26 n (nI p) (nI q) (nI h) (nI (r + 1)) (wr M 62 (3 * h + r) v) := by
    intro v
    unfold fX8_findAgreement_L129
    rw [mu3, nI_add, ck_in (by omega) (by decide), ix_nI (by omega), wme, bve, ad1]
  have li : fX8_isLit (nI h) M = some (bI ((gL L).testBit h), M) := x8_isLit hC hW (by omega)
  rw [fX8_findAgreement_L39, if_neg (by rw [ge3 (by omega)]; omega), li, bde]
  unfold fX8_findAgreement_L71
  cases hl : (gL L).testBit h
  · rw [ifF, ad1, mu3, nI_add, ck_in (by omega) (by decide), ix_nI (by omega), hR r hr, show 16 - (h + 1) = 15 - h by omega, ← few_dark _ _ _ hh (by rw [hsl, hl])]
    have hfu : fu = 1999 + 1 := rfl
    rw [hfu, fX8_findAgreement_L76, if_neg (by decide), li, hl, bde, ifF, l129]
  · have hfu : fu = 1997 + 1 + 1 + 1 := rfl
    rw [ifT, hfu, x8_fa76 hC hW hp hq hh hr (by rw [hsl, hl]) hl hR, l129]
theorem x8_fa26 {L : Lan} {p q : Nat} (hW : WF L) (hp : p < gN L) (hq : q < gN L) : ∀ (n j : Nat) (M : Mem), gH L ≤ j → j ≤ 16 → j - gH L < n → RLn M 58 L → (∀ h, j ≤ h → h ≤ 16 → RowF M (gNd L p).testBit (gNd L q).testBit (shdA L).testBit h) →
    ∃ M1, fX8_findAgreement_L26 n (nI p) (nI q) (mI j) M = some (nI (fewN (gNd L p).testBit (gNd L q).testBit (shdA L).testBit (16 - gH L) 0), M1) ∧ (∀ k, k ≠ 62 → M1 k = M k) ∧ (∀ h, gH L ≤ h → h ≤ 16 → RowF M1 (gNd L p).testBit (gNd L q).testBit (shdA L).testBit h) := by
  intro n
  induction n with
  | zero => intro j M _ _ h2; omega
  | succ n ih =>
    intro j M hg hj hn hC hR
    have h0 : M 58 0 = nI (gH L) := hC.2.2.2.2.2.2.2.2.1
    have hlt : (mI j < nI (gH L)) ↔ j ≤ gH L := by
      rw [Int32.lt_iff_toInt_lt, mI_toInt (by omega), nI_toInt (by omega)]
      omega
    rw [fX8_findAgreement_L26, ckl_0_56, ixl_0, h0]
    by_cases e : j ≤ gH L
    · have ej : j = gH L := by omega
      refine ⟨M, ?_, fun _ _ => rfl, fun h h1 h2 => hR h (by omega) h2⟩
      have r0 := hR (gH L) (by omega) (by omega) 0 (by decide)
      rw [if_pos (hlt.mpr e), ckl_0_56, mu3, ck_in (by omega) (by decide), ix_nI (by omega)]
      exact congrArg (fun z => some (z, M)) r0
    · obtain ⟨h, rfl⟩ : ∃ h, j = h + 1 := ⟨j - 1, by omega⟩
      have hRh := hR (h + 1) (Nat.le_refl _) hj
      have c1 : RLn (wr M 62 (3 * h + 0) (nI (fewN (gNd L p).testBit (gNd L q).testBit (shdA L).testBit (16 - h) 0))) 58 L := rl_same hC (wr_n _ _ _ _ (by omega))
      have R1 := hRh.wr (h := h) (i := 3 * h + 0) (v := nI (fewN (gNd L p).testBit (gNd L q).testBit (shdA L).testBit (16 - h) 0)) (by omega) (by omega)
      have c2 := rl_same (M' := wr (wr M 62 (3 * h + 0) (nI (fewN (gNd L p).testBit (gNd L q).testBit (shdA L).testBit (16 - h) 0))) 62 (3 * h + 1) (nI (fewN (gNd L p).testBit (gNd L q).testBit (shdA L).testBit (16 - h) 1))) c1 (wr_n _ _ _ _ (by omega))
      have R2 := R1.wr (h := h) (i := 3 * h + 1) (v := nI (fewN (gNd L p).testBit (gNd L q).testBit (shdA L).testBit (16 - h) 1)) (by omega) (by omega)
      have c3 := rl_same (M' := wr (wr (wr M 62 (3 * h + 0) (nI (fewN (gNd L p).testBit (gNd L q).testBit (shdA L).testBit (16 - h) 0))) 62 (3 * h + 1) (nI (fewN (gNd L p).testBit (gNd L q).testBit (shdA L).testBit (16 - h) 1))) 62 (3 * h + 2) (nI (fewN (gNd L p).testBit (gNd L q).testBit (shdA L).testBit (16 - h) 2))) c2 (wr_n _ _ _ _ (by omega))
      obtain ⟨M1, e1, s1, z1⟩ := ih h _ (by omega) (by omega) (by omega) c3 (fun g g1 g2 => by
        by_cases w : g = h
        · subst w
          intro t ht
          rw [wr_app, if_pos rfl, wr_app, if_pos rfl, wr_app, if_pos rfl]
          rcases (show t = 0 ∨ t = 1 ∨ t = 2 by omega) with rfl | rfl | rfl
          · rw [if_neg (by omega), if_neg (by omega), if_pos rfl]
          · rw [if_neg (by omega), if_pos rfl]
          · rw [if_pos rfl]
        · exact (((hR g (by omega) g2).wr (h := h) (by omega) (by omega)).wr (h := h) (by omega) (by omega)).wr (h := h) (by omega) (by omega))
      refine ⟨M1, ?_, fun k hk => by rw [s1 k hk, wr_n _ _ _ _ hk, wr_n _ _ _ _ hk, wr_n _ _ _ _ hk], z1⟩
      have hfu : fu = 1996 + 1 + 1 + 1 + 1 := rfl
      rw [if_neg (fun q => e (hlt.mp q)), mI_s, hfu, nI_0', x8_fa39 hC hW hp hq (by omega) (by omega) (by decide) hRh, x8_fa39 c1 hW hp hq (by omega) (by omega) (by decide) R1, x8_fa39 c2 hW hp hq (by omega) (by omega) (by decide) R2, fX8_findAgreement_L39, if_pos (by decide), bve, mI_dn, e1]
theorem x8_findAgreement {M : Mem} {L : Lan} {p q : Nat} (hC : RLn M 58 L) (hW : WF L) (hp : p < gN L) (hq : q < gN L) : ∃ M1, fX8_findAgreement (nI p) (nI q) M = some (nI (fewN (gNd L p).testBit (gNd L q).testBit (shdA L).testBit (16 - gH L) 0), M1) ∧ (∀ k, k ≠ 62 → M1 k = M k) ∧ (∀ h, gH L ≤ h → h ≤ 16 → RowF M1 (gNd L p).testBit (gNd L q).testBit (shdA L).testBit h) := by
  have hh := hW.2.1
  have st : ∀ (n r : Nat) (M : Mem), r < 3 → fX8_findAgreement_L2 (n + 1) (nI p) (nI q) (nI r) M = fX8_findAgreement_L2 n (nI p) (nI q) (nI (r + 1)) (wr M 62 (48 + r) 0) := by
    intro n r M hr
    rw [fX8_findAgreement_L2, if_neg (by rw [ge3 (by omega)]; omega), show (48 : Int32) + nI r = nI (48 + r) from nI_add 48 r, ck_in (by omega) (by decide), ix_nI (by omega), wme, bve, ad1]
  obtain ⟨M1, e1, s1, z1⟩ := x8_fa26 hW hp hq fu 16 (wr (wr (wr M 62 (48 + 0) 0) 62 (48 + 1) 0) 62 (48 + 2) 0) hh (Nat.le_refl _) (by show _ < 2000; omega) (rl_same hC (by rw [wr_n _ _ _ _ (by omega), wr_n _ _ _ _ (by omega), wr_n _ _ _ _ (by omega)])) (fun h h1 h2 => by
    have : h = 16 := by omega
    subst this
    intro t ht
    rw [wr_app, if_pos rfl, wr_app, if_pos rfl, wr_app, if_pos rfl]
    rcases (show t = 0 ∨ t = 1 ∨ t = 2 by omega) with rfl | rfl | rfl
    · rw [if_neg (by omega), if_neg (by omega), if_pos rfl]; rfl
    · rw [if_neg (by omega), if_pos rfl]; rfl
    · rw [if_pos rfl]; rfl)
  refine ⟨M1, ?_, fun k hk => by rw [s1 k hk, wr_n _ _ _ _ hk, wr_n _ _ _ _ hk, wr_n _ _ _ _ hk], z1⟩
  unfold fX8_findAgreement
  have hfu : fX8_findAgreement_L2 fu (nI p) (nI q) (nI 0) M = fX8_findAgreement_L2 (1996 + 1 + 1 + 1 + 1) (nI p) (nI q) (nI 0) M := rfl
  rw [nI_0', hfu, st _ _ _ (by decide), st _ _ _ (by decide), st _ _ _ (by decide), fX8_findAgreement_L2, if_pos (by decide)]
  exact e1
theorem few_low (n0 n1 s : Nat → Bool) {g : Nat} (hg : g ≤ 16) (hs : ∀ h, h < g → s h = false) (q : Nat) : fewN n0 n1 s 16 q = fewN n0 n1 s (16 - g) q := by
  induction g with
  | zero => rfl
  | succ g ih =>
    rw [ih (by omega) (fun h hh => hs h (by omega)), few_dark n0 n1 s (by omega) (hs g (by omega)), show 15 - g = 16 - (g + 1) by omega]
theorem shd_low {L : Lan} (hW : WF L) {h : Nat} (hh : h < gH L) : (shdA L).testBit h = false := by
  rw [shd_tb hW, decide_eq_false (by omega)]; rfl
theorem tw_changes {S : Sta} (hW : WFS S) (x y : Int32) : Two (fX7_changes x y) (fX8_changes x y) S := by
  have hn := hW.1.1
  have hh := hW.1.2.1
  cases hp : (pIn (gN (tLa S)) x && pIn (gN (tLa S)) y && decide (x ≠ y))
  · refine two_fd hW (i := 0) (by decide) (fun M h => ?_) (fun M h => ?_)
    · unfold fX7_changes
      rw [x1_areTwo h.1 hW.1, hp, bde, ifF]
      exact fd7 0 M
    · unfold fX8_changes
      rw [x8_areTwo h.1 hW.1, hp, bde, ifF]
      exact fd8 0 M
  · have hp2 := hp
    simp only [Bool.and_eq_true, decide_eq_true_eq] at hp2
    obtain ⟨⟨hx, hy⟩, hxy⟩ := hp2
    obtain ⟨p, hpn, rfl⟩ := pIn_ex hx (by omega)
    obtain ⟨q, hqn, rfl⟩ := pIn_ex hy (by omega)
    refine two_q hW (nI (fewN (gNd (tLa S) (min p q)).testBit (gNd (tLa S) (max p q)).testBit (shdA (tLa S)).testBit 16 0)) (fun M h => ?_) (fun M h => ?_)
    · obtain ⟨M1, e1, a1, s1⟩ := x0_make (d := 1) (p := min p q) (q := max p q) h.1 hW.1 (by decide) (by omega) (by omega) hp (imin_nI (by omega) (by omega)) (imax_nI (by omega) (by omega))
      refine ⟨M1, ?_, s1.fc⟩
      unfold fX7_changes
      rw [x1_areTwo h.1 hW.1, hp, bde, ifT, e1, bde, x0_cc a1, bde]
    · obtain ⟨M1, e1, s1, z1⟩ := x8_findAgreement (p := min p q) (q := max p q) h.1 hW.1 (by omega) (by omega)
      refine ⟨M1, ?_, rl_same h.1 (s1 58 (by decide)), FR.row (r := 62) (by decide) s1⟩
      unfold fX8_changes
      rw [x8_areTwo h.1 hW.1, hp, bde, ifT, imin_nI (by omega) (by omega), imax_nI (by omega) (by omega), e1, bde, few_low _ _ _ hh (fun h hh => shd_low hW.1 hh)]

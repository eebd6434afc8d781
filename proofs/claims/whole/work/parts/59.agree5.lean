/-! agree; the class's changes and holders -/
theorem x0_cc6 {M : Mem} {L : Lan} {p q : Nat} (hA : AGR M L p q) : ∀ (n h acc : Nat), h ≤ 16 → 16 - h < n → acc ≤ h → fX0_countChanges_L6 n (nI acc) (mI (pthN (gNd L p).testBit (gNd L q).testBit (shdA L).testBit h)) (nI h) M = some (nI (acc + fewN (gNd L p).testBit (gNd L q).testBit (shdA L).testBit (16 - h) (pthN (gNd L p).testBit (gNd L q).testBit (shdA L).testBit h)), M) := by
  have hs16 := shd_lt L
  have h24 : M 24 4 = nI (shdA L) := hA.2.2.1.2.2.1
  have h27 := hA.2.2.2.2.2
  have hl27 := stN_lt (h1N (gNd L p).testBit (gNd L q).testBit (shdA L).testBit) 16
  intro n
  induction n with
  | zero => intro h acc _ h2; omega
  | succ n ih =>
    intro h acc hh hn ha
    by_cases e : h = 16
    · subst e
      rw [fX0_countChanges_L6, if_pos (by decide)]
      rfl
    · have hp := pth_lt (gNd L p).testBit (gNd L q).testBit (shdA L).testBit h
      have ihh := fun acc' => ih (h + 1) acc' (by omega) (by omega)
      have hpt : pthN (gNd L p).testBit (gNd L q).testBit (shdA L).testBit (h + 1) = if (shdA L).testBit h = true then (if pickN (gNd L p).testBit (gNd L q).testBit (shdA L).testBit h (pthN (gNd L p).testBit (gNd L q).testBit (shdA L).testBit h) = true then 2 else 1) else pthN (gNd L p).testBit (gNd L q).testBit (shdA L).testBit h := rfl
      have k1 : h1N (gNd L p).testBit (gNd L q).testBit (shdA L).testBit h = ((shdA L).testBit h && pickN (gNd L p).testBit (gNd L q).testBit (shdA L).testBit h (pthN (gNd L p).testBit (gNd L q).testBit (shdA L).testBit h)) := rfl
      have b24 : fX7_bit (M 24 4) (nI h) M = some (bI ((shdA L).testBit h), M) := by rw [h24]; exact x7_bit M (by omega) (by omega)
      have b27 : fX7_bit (M 27 1) (nI h) M = some (bI (h1N (gNd L p).testBit (gNd L q).testBit (shdA L).testBit h), M) := by
        rw [h27, x7_bit M (by omega) (by omega), stN_tb, decide_eq_true (show h < 16 by omega), Bool.true_and]
      rw [fX0_countChanges_L6, if_neg (by rw [ge16 (by omega)]; omega), b24, bde]
      cases hs : (shdA L).testBit h
      · rw [hs, if_neg (by decide)] at hpt
        rw [hpt, show 16 - (h + 1) = 15 - h by omega] at ihh
        rw [if_neg (by decide), few_dark _ _ _ (by omega) hs]
        unfold fX0_countChanges_L58
        rw [bve, ad1]
        exact ihh acc (by omega)
      · rw [hs, if_pos rfl] at hpt
        rw [hs, Bool.true_and] at k1
        rw [show 16 - (h + 1) = 15 - h by omega] at ihh
        rw [if_pos (by decide), ckl_1_2, ixl_1, b27, bde, k1, pick_few _ _ _ (show h < 16 by omega) hp hs]
        generalize hP : pickN (gNd L p).testBit (gNd L q).testBit (shdA L).testBit h (pthN (gNd L p).testBit (gNd L q).testBit (shdA L).testBit h) = P at hpt ⊢
        generalize hQ : pthN (gNd L p).testBit (gNd L q).testBit (shdA L).testBit h = Q at hp ⊢
        rw [hpt] at ihh
        have l53 : ∀ x : Nat, x < 2 → fX0_countChanges_L53 (fX0_countChanges_L6 n) (nI h) (bI P) (nI x) (nI acc) M = fX0_countChanges_L6 n (nI (acc + x)) (bI P) (nI (h + 1)) M := by
          intro x hx
          unfold fX0_countChanges_L53 fX0_countChanges_L58
          rw [bve, bve, nI_add, ad1]
        have l48 : fX0_countChanges_L48 (fX0_countChanges_L6 n) (nI h) (bI P) (nI acc) M = fX0_countChanges_L6 n (nI (acc + 0)) (bI P) (nI (h + 1)) M := l53 0 (by omega)
        have l1 : fX0_countChanges_L53 (fX0_countChanges_L6 n) (nI h) (bI P) 1 (nI acc) M = fX0_countChanges_L6 n (nI (acc + 1)) (bI P) (nI (h + 1)) M := l53 1 (by omega)
        have i0 := ihh (acc + 0) (by omega)
        have i1 := ihh (acc + 1) (by omega)
        rw [l48, l1]
        unfold costN
        cases P
        · have w1 : (if false = true then (2 : Nat) else 1) = 1 := rfl
          rw [w1] at i0 i1 ⊢
          rcases (show Q = 0 ∨ Q = 1 ∨ Q = 2 by omega) with rfl | rfl | rfl
          · rw [if_pos (by decide), if_pos (by omega), if_pos rfl, Nat.zero_add]
            exact i0
          · rw [if_neg (by decide), if_pos (by decide), if_pos (by omega), if_pos rfl, Nat.zero_add]
            exact i0
          · rw [if_neg (by decide), if_neg (by decide), if_neg (by omega), if_pos rfl, ← Nat.add_assoc]
            exact i1
        · have w1 : (if true = true then (2 : Nat) else 1) = 2 := rfl
          rw [w1] at i0 i1 ⊢
          rcases (show Q = 0 ∨ Q = 1 ∨ Q = 2 by omega) with rfl | rfl | rfl
          · rw [if_pos (by decide), if_pos (by omega), if_neg (by omega), Nat.zero_add]
            exact i0
          · rw [if_neg (by decide), if_neg (by decide), if_neg (by omega), if_neg (by omega), ← Nat.add_assoc]
            exact i1
          · rw [if_neg (by decide), if_pos (by decide), if_pos (by omega), if_neg (by omega), Nat.zero_add]
            exact i0
theorem x0_cc {M : Mem} {L : Lan} {p q : Nat} (hA : AGR M L p q) : fX0_countChanges M = some (nI (fewN (gNd L p).testBit (gNd L q).testBit (shdA L).testBit 16 0), M) := by
  have h := x0_cc6 hA fu 0 0 (by omega) (by show _ < 2000; omega) (Nat.le_refl _)
  rw [Nat.zero_add] at h
  exact h
theorem x0_holderAt {M : Mem} {L : Lan} {p q h : Nat} (hA : AGR M L p q) (hh : h < 16) : fX0_holderAt (nI h) M = some (if (shdA L).testBit h = true then (if h1N (gNd L p).testBit (gNd L q).testBit (shdA L).testBit h = true then nI q else nI p) else -1, M) := by
  have hs16 := shd_lt L
  have h24 : M 24 4 = nI (shdA L) := hA.2.2.1.2.2.1
  have h27 := hA.2.2.2.2.2
  have hl27 := stN_lt (h1N (gNd L p).testBit (gNd L q).testBit (shdA L).testBit) 16
  have b24 : fX7_bit (M 24 4) (nI h) M = some (bI ((shdA L).testBit h), M) := by rw [h24]; exact x7_bit M (by omega) (by omega)
  have b27 : fX7_bit (M 27 1) (nI h) M = some (bI (h1N (gNd L p).testBit (gNd L q).testBit (shdA L).testBit h), M) := by
    rw [h27, x7_bit M (by omega) (by omega), stN_tb, decide_eq_true (show h < 16 by omega), Bool.true_and]
  unfold fX0_holderAt
  rw [b24, bde]
  cases (shdA L).testBit h
  · rw [ifF, if_neg (by decide)]
  · rw [ifT, ckl_1_2, ixl_1, b27, bde, if_pos rfl]
    cases h1N (gNd L p).testBit (gNd L q).testBit (shdA L).testBit h
    · have e := hA.1
      rw [if_neg (by decide)]
      show ck (inb 0 2) (some (M 25 (ix 0), M)) = _
      rw [ckl_0_2, ixl_0, e]
    · have e := hA.2.1
      rw [if_pos rfl]
      show ck (inb 1 2) (some (M 25 (ix 1), M)) = _
      rw [ckl_1_2, ixl_1, e]
theorem x8_meets {M : Mem} {L : Lan} (hC : RLn M 58 L) (hW : WF L) {p q : Nat} (hp : p < gN L) (hq : q < gN L) : fX8_meets (nI p) (nI q) M = some (nI (mtsN L p q), M) := by
  have hn := hW.1
  have h3 : M 58 3 = nI (gL L) := hC.2.2.2.2.2.2.2.1
  have np := (hW.2.2.2.1 p (by omega)).2.2.2
  have nq := (hW.2.2.2.1 q (by omega)).2.2.2
  have hsh : nI (rstN L) &&& nI (gL L) = nI (shdA L) := nI_and _ _
  have hin : ∀ z, z < gN L → fX8_needsIn (nI z) (nI (drkA L)) M = some (nI (pcN (gNd L z &&& drkA L)), M) := by
    intro z hz
    have nz := (hW.2.2.2.1 z (by omega)).2.2.2
    unfold fX8_needsIn
    rw [x8_Nd hC (by omega), bde, nI_and, x8_bits M (and_lt nz), bde]
  have hlt : (gNd L p ||| gNd L q) &&& shdA L < 65536 := Nat.lt_of_le_of_lt Nat.and_le_right (shd_lt L)
  unfold fX8_meets mtsN
  rw [x8_restHours hC hW, bde, ckl_3_56, ixl_3, h3, hsh, bve, x8_restHours hC hW, bde, ckl_3_56, h3, drk_e hW, bve, x8_Nd hC (by omega), bde, x8_Nd hC (by omega), bde, nI_or, nI_and, x8_bits M hlt, bde, hin p hp, bde, hin q hq, bde, nI_add, nI_add]
theorem mts_sym (L : Lan) (p q : Nat) : mtsN L p q = mtsN L q p := by
  unfold mtsN
  rw [Nat.or_comm, Nat.add_assoc, Nat.add_assoc, Nat.add_comm (pcN (gNd L p &&& drkA L))]
theorem mts_mm (L : Lan) (p q : Nat) : mtsN L (min p q) (max p q) = mtsN L p q := by
  rcases Nat.le_total p q with z | z
  · rw [Nat.max_eq_right z, Nat.min_eq_left z]
  · rw [Nat.max_eq_left z, Nat.min_eq_right z]; exact mts_sym _ _ _
theorem tw_agree {S : Sta} (hW : WFS S) (x y : Int32) : Two (fX7_agree x y) (fX8_agree x y) S := by
  have hn := hW.1.1
  cases hp : (pIn (gN (tLa S)) x && pIn (gN (tLa S)) y && decide (x ≠ y))
  · refine two_fd hW (i := 0) (by decide) (fun M h => ?_) (fun M h => ?_)
    · unfold fX7_agree
      rw [x1_areTwo h.1 hW.1, hp, bde, ifF]
      exact fd7 0 M
    · unfold fX8_agree
      rw [x8_areTwo h.1 hW.1, hp, bde, ifF]
      exact fd8 0 M
  · have hp2 := hp
    simp only [Bool.and_eq_true, decide_eq_true_eq] at hp2
    obtain ⟨⟨hx, hy⟩, hxy⟩ := hp2
    obtain ⟨p, hpn, rfl⟩ := pIn_ex hx (by omega)
    obtain ⟨q, hqn, rfl⟩ := pIn_ex hy (by omega)
    refine two_q hW (nI (mtsN (tLa S) p q)) (fun M h => ?_) (fun M h => ?_)
    · obtain ⟨M1, e1, a1, s1⟩ := x0_make (d := 1) (p := min p q) (q := max p q) h.1 hW.1 (by decide) (by omega) (by omega) hp (imin_nI (by omega) (by omega)) (imax_nI (by omega) (by omega))
      refine ⟨M1, ?_, s1.fc⟩
      unfold fX7_agree
      rw [x1_areTwo h.1 hW.1, hp, bde, ifT, e1, bde, x0_both a1, bde, ag_mts hW.1, mts_mm]
    · refine ⟨M, ?_, h.1, FR.rf⟩
      unfold fX8_agree
      rw [x8_areTwo h.1 hW.1, hp, bde, ifT, x8_meets h.1 hW.1 hpn hqn, bde]

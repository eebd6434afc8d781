/-! judge -/
def jdN (v : Nat → Int32) (L : Lan) (l : Nat) : Nat → Nat → Nat
  | 0, _ => 0
  | f + 1, k => if l ≤ k then 0 else if gH L + k < 16 ∧ v k = nI (havA L (gH L + k)) then jdN v L l f (k + 1) else 1 + k
theorem x4_isSet {M : Mem} {L : Lan} (hR : RSt M L) (hh : gH L ≤ 16) {k : Nat} (hk : k < 40) (w : Int32) : fX4_isShadowSet (nI (gH L) + nI k) w M = some (bI (decide (gH L + k < 16 ∧ w = nI (havA L (gH L + k)))), M) := by
  obtain ⟨r1, r2, r3, r4⟩ := hR
  unfold fX4_isShadowSet
  rw [nI_add, r3, if_neg (by rw [lit_lt (by omega) (by omega)]; omega)]
  by_cases e : 16 ≤ gH L + k
  · rw [if_pos (by rw [ge16 (by omega)]; exact e), ck_b0, decide_eq_false (by omega)]; rfl
  · rw [if_neg (by rw [ge16 (by omega)]; exact e), ck_in (by omega) (by decide), ix_nI (by omega), r2 _ (by omega) (by omega)]
    by_cases c : nI (havA L (gH L + k)) = w
    · rw [if_pos c, ck_b1, decide_eq_true ⟨by omega, c.symm⟩]; rfl
    · rw [if_neg c, ck_b0, decide_eq_false (fun q => c q.2.symm)]; rfl
theorem x7_judge30 {M : Mem} {L : Lan} {s l : Nat} {v : Nat → Int32} (hR : RSt M L) (hh : gH L ≤ 16) (hs : s < 4) (hl : l ≤ 40) (h8 : M 1 8 = nI (gH L)) (h2 : M (48 + 2 * s) 2 = nI l) (hv : ∀ i, i < 40 → M (48 + 2 * s + 1) i = v i) : ∀ (f n k : Nat), k ≤ l → l ≤ k + f → f < n → fX7_judge_L30 n (nI s) (nI k) M = some (nI (jdN v L l (f + 1) k), M) := by
  have hix : ix (nI s) = s := ix_nI (by omega)
  intro f
  induction f with
  | zero =>
    intro n k hk hf hn
    obtain ⟨n, rfl⟩ : ∃ z, n = z + 1 := ⟨n - 1, by omega⟩
    rw [fX7_judge_L30, ck_in hs (by decide), hix, h2, if_pos (by rw [lit_le (by omega) (by omega)]; omega)]
    show _ = some (nI (if l ≤ k then 0 else _), M)
    rw [if_pos (by omega)]; rfl
  | succ f ih =>
    intro n k hk hf hn
    obtain ⟨n, rfl⟩ : ∃ z, n = z + 1 := ⟨n - 1, by omega⟩
    rw [fX7_judge_L30, ck_in hs (by decide), hix, h2]
    show _ = some (nI (if l ≤ k then 0 else if gH L + k < 16 ∧ v k = nI (havA L (gH L + k)) then jdN v L l (f + 1) (k + 1) else 1 + k), M)
    by_cases e : l ≤ k
    · rw [if_pos (by rw [lit_le (by omega) (by omega)]; exact e), if_pos e]; rfl
    · rw [if_neg (by rw [lit_le (by omega) (by omega)]; exact e), if_neg e, ck_in hs (by decide), ck_in (by omega) (by decide), ix_nI (by omega), hv k (by omega), h8, x4_isSet hR hh (by omega), bde]
      by_cases c : gH L + k < 16 ∧ v k = nI (havA L (gH L + k))
      · rw [decide_eq_true c, ifT, if_pos c, bve, ad1]
        exact ih n (k + 1) (by omega) (by omega) (by omega)
      · rw [decide_eq_false c, ifF, if_neg c, da1]
theorem x8_judge45 {L : Lan} {s l : Nat} {v : Nat → Int32} (hW : WF L) (hs : s < 4) (hl : l ≤ 40) : ∀ (f n k : Nat) (M : Mem), k ≤ l → l ≤ k + f → f + 2 < n → gH L + k ≤ 16 → RLn M 58 (hrsN k L) → RLn M 60 L → M 70 s = nI l → (∀ i, i < 40 → M 71 (40 * s + i) = v i) → ∃ M1, fX8_judge_L45 n (nI s) (nI k) 1 M = some (nI (jdN v L l (f + 1) k), M1) ∧ RLn M1 58 L ∧ Sr M M1 := by
  have hix : ix (nI s) = s := ix_nI (by omega)
  have back : ∀ (w : Int32) (M : Mem), RLn M 60 L → ∃ M1, fX8_judge_L122 w M = some (w, M1) ∧ RLn M1 58 L ∧ Sr M M1 := by
    intro w M h60
    obtain ⟨M1, e1, c1, s1⟩ := x8_copyRow (d1 := 60) (d2 := 58) (by decide) M
    refine ⟨M1, ?_, rl_copy h60 c1, s1⟩
    unfold fX8_judge_L122 fX8_putBack
    rw [e1, bde, bde]
  intro f
  induction f with
  | zero =>
    intro n k M hk hf hn hh hC h60 h70 hv
    obtain ⟨n, rfl⟩ : ∃ z, n = z + 1 := ⟨n - 1, by omega⟩
    obtain ⟨M1, e1, c1, s1⟩ := back 0 M h60
    refine ⟨M1, ?_, c1, s1⟩
    rw [fX8_judge_L45, ck_in hs (by decide), hix, h70, if_pos (by rw [lit_le (by omega) (by omega)]; omega)]
    unfold fX8_judge_L110
    rw [if_neg (by decide), e1]
    show _ = some (nI (if l ≤ k then 0 else _), M1)
    rw [if_pos (by omega)]; rfl
  | succ f ih =>
    intro n k M hk hf hn hh hC h60 h70 hv
    obtain ⟨n, rfl⟩ : ∃ z, n = z + 2 := ⟨n - 2, by omega⟩
    have hW2 : WF (hrsN k L) := wf_hrs k L hW hh
    show ∃ M1, _ = some (nI (if l ≤ k then 0 else if gH L + k < 16 ∧ v k = nI (havA L (gH L + k)) then jdN v L l (f + 1) (k + 1) else 1 + k), M1) ∧ _
    by_cases e : l ≤ k
    · obtain ⟨M1, e1, c1, s1⟩ := back 0 M h60
      refine ⟨M1, ?_, c1, s1⟩
      rw [fX8_judge_L45, ck_in hs (by decide), hix, h70, if_pos (by rw [lit_le (by omega) (by omega)]; exact e), if_pos e]
      unfold fX8_judge_L110
      rw [if_neg (by decide), e1]; rfl
    · have h0 : M 58 0 = nI (gH L + k) := by rw [← hrs_H]; exact hC.2.2.2.2.2.2.2.2.1
      have r45 : fX8_judge_L45 (n + 2) (nI s) (nI k) 1 M = (if bI (decide (gH (hrsN k L) = 16)) = 0 then (ck (inb ((40 * nI s) + nI k) 160) (ck (inb 0 56) (bd (fX8_whoHave (M 58 (ix 0)) M) fun r11 M10 => (if (M 71 (ix ((40 * nI s) + nI k))) = r11 then (fX8_judge_L95 (fX8_judge_L45 (n + 1)) (nI s) (nI k) 1 M10) else (fX8_judge_L94 (fX8_judge_L45 (n + 1)) (nI s) (nI k) M10))))) else (fX8_judge_L94 (fX8_judge_L45 (n + 1)) (nI s) (nI k) M)) := by
        rw [fX8_judge_L45, ck_in hs (by decide), hix, h70, if_neg (by rw [lit_le (by omega) (by omega)]; exact e), if_neg (by decide), x8_isOver hC hW2, bde]
      have fail : ∃ M1, fX8_judge_L94 (fX8_judge_L45 (n + 1)) (nI s) (nI k) M = some (nI (1 + k), M1) ∧ RLn M1 58 L ∧ Sr M M1 := by
        obtain ⟨M1, e1, c1, s1⟩ := back (nI (1 + k)) M h60
        refine ⟨M1, ?_, c1, s1⟩
        unfold fX8_judge_L94 fX8_judge_L95
        rw [if_pos rfl, fX8_judge_L45, ck_in hs (by decide), hix, h70, if_neg (by rw [lit_le (by omega) (by omega)]; exact e), if_pos rfl]
        unfold fX8_judge_L110
        rw [if_pos rfl, da1, e1]
      simp only [if_neg e]
      rw [r45, hrs_H]
      by_cases o : gH L + k = 16
      · obtain ⟨M1, e1, c1, s1⟩ := fail
        refine ⟨M1, ?_, c1, s1⟩
        rw [decide_eq_true o, ifT, e1, if_neg (fun q => by omega)]
      · have hw : fX8_whoHave (nI (gH L + k)) M = some (nI (havN (hrsN k L) (gH L + k)), M) := x8_whoHave hC hW2 (by omega)
        have hA : havA L (gH L + k) = havN (hrsN k L) (gH L + k) := by
          unfold havA
          rw [Nat.add_sub_cancel_left]
        rw [decide_eq_false o, ifF, mu40, nI_add, ck_in (by omega) (by decide), ckl_0_56, ixl_0, h0, hw, bde, ix_nI (by omega), hv k (by omega), ← hA]
        by_cases c : v k = nI (havA L (gH L + k))
        · obtain ⟨M2, e2, c2, s2⟩ := x8_hour hC hW2 (by rw [hrs_H]; omega)
          rw [← hrs_s] at c2
          obtain ⟨M3, e3, c3, s3⟩ := ih (n + 1) (k + 1) M2 (by omega) (by omega) (by omega) (by omega) c2 (rl_same h60 (s2 60 (by decide))) (by rw [s2 70 (by decide)]; exact h70) (fun i hi => by rw [s2 71 (by decide)]; exact hv i hi)
          refine ⟨M3, ?_, c3, s2.tr s3⟩
          rw [if_pos c, if_pos ⟨by omega, c⟩]
          unfold fX8_judge_L95
          rw [if_neg (by decide), e2, bde, bve, ad1, e3]
        · obtain ⟨M1, e1, c1, s1⟩ := fail
          refine ⟨M1, ?_, c1, s1⟩
          rw [if_neg c, if_neg (fun q => c q.2), e1]
theorem tw_judge {S : Sta} (hW : WFS S) (x : Int32) : Two (fX7_judge x) (fX8_judge x) S := by
  have hn := hW.1.1
  have hh := hW.1.2.1
  cases hp : pIn 4 x
  · refine two_fd hW (i := 0) (by decide) (fun M h => ?_) (fun M h => ?_)
    · unfold fX7_judge; rw [x7_lackOf h hW, hp, if_pos rfl, bde, if_neg (by decide)]; exact fd7 0 M
    · unfold fX8_judge; rw [x8_isSheet, hp, bde, ifF]; exact fd8 0 M
  obtain ⟨s, hs, rfl⟩ := pIn_ex hp (by decide)
  have hix : ix (nI s) = s := ix_nI (by omega)
  obtain ⟨hb, hl⟩ := hW.2.2.2.2 s hs
  by_cases e : tSb S s = 0
  · refine two_fd hW (i := 5) (by decide) (fun M h => ?_) (fun M h => ?_)
    · unfold fX7_judge; rw [x7_lackOf h hW, hp, if_neg (by decide), hix, if_pos e, bde, if_neg (by decide)]; exact fd7 5 M
    · unfold fX8_judge; rw [x8_isSheet, hp, bde, ifT, ck_in hs (by decide), hix, (h.2.2.2.2.2.1 s hs).1, if_pos (by rw [e]; rfl)]; exact fd8 5 M
  have e0 : ¬ nI (tSb S s) = 0 := by rw [nI_0', lit_eq (by omega) (by decide)]; exact e
  refine two_q hW (nI (jdN (tSn S s) (tLa S) (tSl S s) 41 0)) (fun M h => ?_) (fun M h => ?_)
  · obtain ⟨M1, e1, c1, s1⟩ := x4_see h.1 hW.1 (by decide)
    have h' := h.fc (FC.ofR s1)
    obtain ⟨g1, g2, g3⟩ := h'.2.2.2.2.2.1 s hs
    have g8 : M1 1 8 = nI (gH (tLa S)) := h'.1.2.2.2.2.2.2.2.2.1
    refine ⟨M1, ?_, FC.ofR s1⟩
    unfold fX7_judge
    rw [x7_lackOf h hW, hp, if_neg (by decide), hix, if_neg e, bde, if_pos rfl, e1, bde]
    exact x7_judge30 c1 hh hs hl g8 g2 g3 40 fu 0 (by omega) (by omega) (by show _ < 2000; omega)
  · obtain ⟨M1, e1, c1, s1⟩ := x8_copyRow (d1 := 58) (d2 := 60) (by decide) M
    have f1 : FR M M1 := FR.row (r := 60) (by decide) s1
    have h' := h.fr f1 (rl_same h.1 (s1 58 (by decide)))
    obtain ⟨g1, g2, g3⟩ := h'.2.2.2.2.2.1 s hs
    obtain ⟨M2, e2, c2, s2⟩ := x8_judge45 (L := tLa S) (s := s) hW.1 hs hl 40 fu 0 M1 (by omega) (by omega) (by show _ < 2000; omega) (by omega) h'.1 (rl_copy h.1 c1) g2 g3
    refine ⟨M2, ?_, c2, f1.tr (FR.of s2)⟩
    unfold fX8_judge
    rw [x8_isSheet, hp, bde, ifT, ck_in hs (by decide), hix, (h.2.2.2.2.2.1 s hs).1, if_neg e0, e1, bde]
    exact e2

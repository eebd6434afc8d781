/-! holder -/
theorem pth_low (n0 n1 s : Nat → Bool) {g : Nat} (hs : ∀ h, h < g → s h = false) : pthN n0 n1 s g = 0 := by
  induction g with
  | zero => rfl
  | succ g ih =>
    show (if s g = true then _ else pthN n0 n1 s g) = 0
    rw [if_neg (by rw [hs g (by omega)]; decide)]
    exact ih (fun h hh => hs h (by omega))
theorem x8_hb26 {M : Mem} {L : Lan} {p q : Nat} (hC : RLn M 58 L) (hW : WF L) (hp : p < gN L) (hq : q < gN L) (hR : ∀ h, gH L ≤ h → h ≤ 16 → RowF M (gNd L p).testBit (gNd L q).testBit (shdA L).testBit h) : ∀ (n h : Nat), gH L ≤ h → h ≤ 16 → 16 - h < n →
    fX8_heldByLess_L26 n (nI p) (nI q) (nI (stN (h0N (gNd L p).testBit (gNd L q).testBit (shdA L).testBit) h)) (nI (pthN (gNd L p).testBit (gNd L q).testBit (shdA L).testBit h)) (nI h) M = some (nI (stN (h0N (gNd L p).testBit (gNd L q).testBit (shdA L).testBit) 16), M) := by
  intro n
  induction n with
  | zero => intro h _ _ h2; omega
  | succ n ih =>
    intro h hg hh hn
    by_cases e : h = 16
    · subst e
      rw [fX8_heldByLess_L26, if_pos (by decide)]
    · have hpl := pth_lt (gNd L p).testBit (gNd L q).testBit (shdA L).testBit h
      have ihh := ih (h + 1) (by omega) (by omega) (by omega)
      have hsl : (shdA L).testBit h = (gL L).testBit h := by
        rw [shd_tb hW, decide_eq_true hg, decide_eq_true (show h < 16 by omega)]; simp
      have hpt : pthN (gNd L p).testBit (gNd L q).testBit (shdA L).testBit (h + 1) = if (shdA L).testBit h = true then (if pickN (gNd L p).testBit (gNd L q).testBit (shdA L).testBit h (pthN (gNd L p).testBit (gNd L q).testBit (shdA L).testBit h) = true then 2 else 1) else pthN (gNd L p).testBit (gNd L q).testBit (shdA L).testBit h := rfl
      have k0 : h0N (gNd L p).testBit (gNd L q).testBit (shdA L).testBit h = ((shdA L).testBit h && !pickN (gNd L p).testBit (gNd L q).testBit (shdA L).testBit h (pthN (gNd L p).testBit (gNd L q).testBit (shdA L).testBit h)) := rfl
      have li : fX8_isLit (nI h) M = some (bI ((gL L).testBit h), M) := x8_isLit hC hW (by omega)
      have hst : ∀ k, stN (h0N (gNd L p).testBit (gNd L q).testBit (shdA L).testBit) k < 2 ^ k := fun k => stN_lt _ k
      rw [fX8_heldByLess_L26, if_neg (by rw [ge16 (by omega)]; omega), li, bde]
      cases hl : (gL L).testBit h
      · rw [hsl, hl, if_neg (by decide)] at hpt
        rw [hsl, hl, Bool.false_and] at k0
        rw [hpt, st_n k0] at ihh
        rw [ifF]
        unfold fX8_heldByLess_L113
        rw [bve, ad1]
        exact ihh
      · have hs : (shdA L).testBit h = true := by rw [hsl, hl]
        rw [hs, if_pos rfl] at hpt
        rw [hs, Bool.true_and] at k0
        have m1 := x8_mayHave (w := 1) hC hW hp hq (show h < 16 by omega) (Or.inl rfl)
        have c1 := x8_chg (q := pthN (gNd L p).testBit (gNd L q).testBit (shdA L).testBit h) (w := 1) (hR (h + 1) (by omega) (by omega)) (show h < 16 by omega) hpl (Or.inl rfl)
        have r62 := hR h hg hh (pthN (gNd L p).testBit (gNd L q).testBit (shdA L).testBit h) hpl
        have pr := pick_ref (gNd L p).testBit (gNd L q).testBit (shdA L).testBit (show h < 16 by omega) hpl hs
        have b1 := cost_lt (gNd L p).testBit (gNd L q).testBit (shdA L).testBit h (pthN (gNd L p).testBit (gNd L q).testBit (shdA L).testBit h) 1
        have b2 : fewN (gNd L p).testBit (gNd L q).testBit (shdA L).testBit (16 - h) (pthN (gNd L p).testBit (gNd L q).testBit (shdA L).testBit h) < 100 := by
          obtain ⟨i1, i2, i3, i4, i5, i6, i7, i8⟩ := few_inv (gNd L p).testBit (gNd L q).testBit (shdA L).testBit (16 - h)
          rcases (show pthN (gNd L p).testBit (gNd L q).testBit (shdA L).testBit h = 0 ∨ pthN (gNd L p).testBit (gNd L q).testBit (shdA L).testBit h = 1 ∨ pthN (gNd L p).testBit (gNd L q).testBit (shdA L).testBit h = 2 by omega) with z | z | z <;> rw [z] <;> omega
        have yes : pickN (gNd L p).testBit (gNd L q).testBit (shdA L).testBit h (pthN (gNd L p).testBit (gNd L q).testBit (shdA L).testBit h) = false → fX8_heldByLess_L83 (fX8_heldByLess_L26 n) (nI p) (nI q) (nI (stN (h0N (gNd L p).testBit (gNd L q).testBit (shdA L).testBit) h)) (nI h) 1 M = some (nI (stN (h0N (gNd L p).testBit (gNd L q).testBit (shdA L).testBit) 16), M) := by
          intro hk
          rw [hk, if_neg (by decide)] at hpt
          rw [hk] at k0
          rw [hpt, ← st_s (by omega) k0] at ihh
          unfold fX8_heldByLess_L83 fX8_heldByLess_L95 fX8_heldByLess_L111 fX8_heldByLess_L113
          rw [if_neg (by decide), if_neg (by decide), bve, bve, ad1]
          exact ihh
        have no : pickN (gNd L p).testBit (gNd L q).testBit (shdA L).testBit h (pthN (gNd L p).testBit (gNd L q).testBit (shdA L).testBit h) = true → fX8_heldByLess_L82 (fX8_heldByLess_L26 n) (nI p) (nI q) (nI (stN (h0N (gNd L p).testBit (gNd L q).testBit (shdA L).testBit) h)) (nI h) M = some (nI (stN (h0N (gNd L p).testBit (gNd L q).testBit (shdA L).testBit) 16), M) := by
          intro hk
          rw [hk, if_pos rfl] at hpt
          rw [hk] at k0
          have kf : h0N (gNd L p).testBit (gNd L q).testBit (shdA L).testBit h = false := k0
          rw [hpt, st_n kf] at ihh
          unfold fX8_heldByLess_L82 fX8_heldByLess_L83 fX8_heldByLess_L95 fX8_heldByLess_L111 fX8_heldByLess_L113
          rw [if_pos rfl, if_pos rfl, bve, bve, ad1, nI_0', nI_or, Nat.or_zero]
          exact ihh
        have m1' : fX8_mayHave (nI p) (nI q) (nI h) 1 M = _ := m1
        have c1' : fX8_changesWith (nI h) (nI (pthN (gNd L p).testBit (gNd L q).testBit (shdA L).testBit h)) 1 M = _ := c1
        rw [ifT, m1', bde]
        by_cases al : (gNd L p).testBit h = (gNd L q).testBit h ∨ (gNd L p).testBit h = true
        · have ha : (decide ((gNd L p).testBit h = (gNd L q).testBit h) || (if 1 = 1 then (gNd L p).testBit h else !(gNd L p).testBit h)) = true := by
            rw [if_pos rfl]
            simpa using al
          rw [ha, ifT, c1', bde, mu3, nI_add, ck_in (by omega) (by decide), ix_nI (by omega), r62]
          by_cases ce : costN (fewN (gNd L p).testBit (gNd L q).testBit (shdA L).testBit (15 - h) 1) (fewN (gNd L p).testBit (gNd L q).testBit (shdA L).testBit (15 - h) 2) (pthN (gNd L p).testBit (gNd L q).testBit (shdA L).testBit h) 1 = fewN (gNd L p).testBit (gNd L q).testBit (shdA L).testBit (16 - h) (pthN (gNd L p).testBit (gNd L q).testBit (shdA L).testBit h)
          · rw [if_pos (by rw [ce])]
            exact yes (pr.mpr ⟨al, ce⟩)
          · rw [if_neg (by rw [lit_eq (by omega) (by omega)]; exact ce)]
            refine no ?_
            cases hk : pickN (gNd L p).testBit (gNd L q).testBit (shdA L).testBit h (pthN (gNd L p).testBit (gNd L q).testBit (shdA L).testBit h)
            · exact absurd (pr.mp hk).2 ce
            · rfl
        · have ha : (decide ((gNd L p).testBit h = (gNd L q).testBit h) || (if 1 = 1 then (gNd L p).testBit h else !(gNd L p).testBit h)) = false := by
            rw [if_pos rfl]
            simpa using al
          rw [ha, ifF]
          refine no ?_
          cases hk : pickN (gNd L p).testBit (gNd L q).testBit (shdA L).testBit h (pthN (gNd L p).testBit (gNd L q).testBit (shdA L).testBit h)
          · exact absurd (pr.mp hk).1 al
          · rfl
theorem x8_heldByLess {M : Mem} {L : Lan} {p q : Nat} (hC : RLn M 58 L) (hW : WF L) (hp : p < gN L) (hq : q < gN L) : ∃ M1, fX8_heldByLess (nI p) (nI q) M = some (nI (stN (h0N (gNd L p).testBit (gNd L q).testBit (shdA L).testBit) 16), M1) ∧ (∀ k, k ≠ 62 → M1 k = M k) := by
  have hh := hW.2.1
  obtain ⟨M1, e1, s1, z1⟩ := x8_findAgreement hC hW hp hq
  have c1 : RLn M1 58 L := rl_same hC (s1 58 (by decide))
  have h0 : M1 58 0 = nI (gH L) := c1.2.2.2.2.2.2.2.2.1
  refine ⟨M1, ?_, s1⟩
  have hb : fewN (gNd L p).testBit (gNd L q).testBit (shdA L).testBit (16 - gH L) 0 < 2 ^ 30 := by
    obtain ⟨i1, i2, i3, i4, i5, i6, i7, i8⟩ := few_inv (gNd L p).testBit (gNd L q).testBit (shdA L).testBit (16 - gH L)
    omega
  have hz : stN (h0N (gNd L p).testBit (gNd L q).testBit (shdA L).testBit) (gH L) = 0 := st_below (fun k hk => by
    unfold h0N
    rw [shd_low hW hk]; rfl)
  have hpz := pth_low (gNd L p).testBit (gNd L q).testBit (shdA L).testBit (g := gH L) (fun k hk => shd_low hW hk)
  have r := x8_hb26 c1 hW hp hq z1 fu (gH L) (Nat.le_refl _) hh (by show _ < 2000; omega)
  rw [hz, hpz] at r
  unfold fX8_heldByLess fX8_heldByLess_L14
  rw [e1, bde, if_pos (by rw [nI_0', lit_le (by omega) (by omega)]; omega), ckl_0_56, bve, ixl_0, h0]
  exact r
theorem tw_holder {S : Sta} (hW : WFS S) (x y z : Int32) : Two (fX7_holder x y z) (fX8_holder x y z) S := by
  have hn := hW.1.1
  have hh := hW.1.2.1
  cases hp : (pIn (gN (tLa S)) x && pIn (gN (tLa S)) y && decide (x ≠ y))
  · refine two_fd hW (i := 0) (by decide) (fun M h => ?_) (fun M h => ?_)
    · unfold fX7_holder
      rw [x1_areTwo h.1 hW.1, hp, bde, ifF]
      exact fd7 0 M
    · unfold fX8_holder
      rw [x8_areTwo h.1 hW.1, hp, bde, ifF]
      exact fd8 0 M
  have w15 : ∀ M, fX7_isWithin z 15 M = some (bI (pIn 16 z), M) := fun M => x7_isWithin (k := 15) z M (by decide)
  have v15 : ∀ M, fX8_within z 0 15 M = some (bI (pIn 16 z), M) := fun M => x8_within (k := 15) z M (by decide)
  cases hz : pIn 16 z
  · refine two_fd hW (i := 0) (by decide) (fun M h => ?_) (fun M h => ?_)
    · unfold fX7_holder
      rw [x1_areTwo h.1 hW.1, hp, bde, ifT, w15, hz, bde, ifF]
      exact fd7 0 M
    · unfold fX8_holder
      rw [x8_areTwo h.1 hW.1, hp, bde, ifT, v15, hz, bde, ifF]
      exact fd8 0 M
  have hp2 := hp
  simp only [Bool.and_eq_true, decide_eq_true_eq] at hp2
  obtain ⟨⟨hx, hy⟩, hxy⟩ := hp2
  obtain ⟨p, hpn, rfl⟩ := pIn_ex hx (by omega)
  obtain ⟨q, hqn, rfl⟩ := pIn_ex hy (by omega)
  obtain ⟨k, hk, rfl⟩ := pIn_ex hz (by decide)
  have hsk : (shdA (tLa S)).testBit k = (decide (gH (tLa S) ≤ k) && (gL (tLa S)).testBit k) := by rw [shd_tb hW.1, decide_eq_true hk, Bool.and_true]
  have k7 : ∀ M, AC M S → ∃ M1, FC M M1 ∧ fX7_holder (nI p) (nI q) (nI k) M = (if (shdA (tLa S)).testBit k = true then some (if h1N (gNd (tLa S) (min p q)).testBit (gNd (tLa S) (max p q)).testBit (shdA (tLa S)).testBit k = true then nI (max p q) else nI (min p q), M1) else fX7_found (nI 3) M1) := by
    intro M h
    obtain ⟨M1, e1, a1, s1⟩ := x0_make (d := 1) (p := min p q) (q := max p q) h.1 hW.1 (by decide) (by omega) (by omega) hp (imin_nI (by omega) (by omega)) (imax_nI (by omega) (by omega))
    refine ⟨M1, s1.fc, ?_⟩
    have ne : ∀ w : Nat, w < 8 → ¬ nI w = (-1 : Int32) := fun w hw q => by
      have := congrArg Int32.toInt q
      rw [nI_toInt (by omega)] at this
      have h2 : (-1 : Int32).toInt = -1 := rfl
      rw [h2] at this
      omega
    unfold fX7_holder
    rw [x1_areTwo h.1 hW.1, hp, bde, ifT, w15, hz, bde, ifT, e1, bde, x0_holderAt a1 hk, bde]
    cases (shdA (tLa S)).testBit k
    · rw [if_neg (show ¬ false = true by decide), if_pos rfl, if_neg (show ¬ false = true by decide)]
      exact fd7 3 M1
    · rw [if_pos rfl, if_pos rfl]
      cases h1N (gNd (tLa S) (min p q)).testBit (gNd (tLa S) (max p q)).testBit (shdA (tLa S)).testBit k
      · rw [if_neg (show ¬ false = true by decide), if_neg (ne _ (by omega))]
      · rw [if_pos rfl, if_neg (ne _ (by omega))]
  cases hs : (shdA (tLa S)).testBit k
  · refine ⟨low 3, fdS S 3, fun M h => ?_, fun M h => ?_, hW⟩
    · obtain ⟨M1, f1, e1⟩ := k7 M h
      obtain ⟨M2, e2, c2, s2⟩ := x7_found (h.fc f1) (i := 3) (by decide)
      exact ⟨M2, by rw [e1, hs, if_neg (by decide), e2], c2, fun k hk => (s2 k hk).trans (f1 k (by omega))⟩
    · obtain ⟨M2, e2, c2, s2⟩ := x8_finding h (i := 3) (by decide)
      refine ⟨M2, ?_, c2, s2⟩
      have l44 : fX8_holder_L44 M = some (low 3, M2) := by rw [← e2]; exact fd8 3 M
      have h0 : M 58 0 = nI (gH (tLa S)) := h.1.2.2.2.2.2.2.2.2.1
      have li : fX8_isLit (nI k) M = some (bI ((gL (tLa S)).testBit k), M) := x8_isLit h.1 hW.1 (by omega)
      rw [hsk] at hs
      unfold fX8_holder
      rw [x8_areTwo h.1 hW.1, hp, bde, ifT, v15, hz, bde, ifT, li, bde]
      cases hl : (gL (tLa S)).testBit k
      · rw [ifF, l44]
      · rw [hl, Bool.and_true] at hs
        have hgk : ¬ gH (tLa S) ≤ k := of_decide_eq_false hs
        rw [ifT, ckl_0_56, ixl_0, h0, if_neg (by rw [lit_le (by omega) (by omega)]; exact hgk), l44]
  · have hs2 := hs
    rw [hsk, Bool.and_eq_true, decide_eq_true_eq] at hs2
    obtain ⟨hgk, hl⟩ := hs2
    refine two_q hW (if h1N (gNd (tLa S) (min p q)).testBit (gNd (tLa S) (max p q)).testBit (shdA (tLa S)).testBit k = true then nI (max p q) else nI (min p q)) (fun M h => ?_) (fun M h => ?_)
    · obtain ⟨M1, f1, e1⟩ := k7 M h
      exact ⟨M1, by rw [e1, hs, if_pos rfl], f1⟩
    · obtain ⟨M1, e1, s1⟩ := x8_heldByLess (p := min p q) (q := max p q) h.1 hW.1 (by omega) (by omega)
      have h0 : M 58 0 = nI (gH (tLa S)) := h.1.2.2.2.2.2.2.2.2.1
      have li : fX8_isLit (nI k) M = some (bI ((gL (tLa S)).testBit k), M) := x8_isLit h.1 hW.1 (by omega)
      have hlt := stN_lt (h0N (gNd (tLa S) (min p q)).testBit (gNd (tLa S) (max p q)).testBit (shdA (tLa S)).testBit) 16
      refine ⟨M1, ?_, rl_same h.1 (s1 58 (by decide)), FR.row (r := 62) (by decide) s1⟩
      unfold fX8_holder
      rw [x8_areTwo h.1 hW.1, hp, bde, ifT, v15, hz, bde, ifT, li, hl, bde, ifT, ckl_0_56, ixl_0, h0, if_pos (by rw [lit_le (by omega) (by omega)]; exact hgk), imin_nI (by omega) (by omega), imax_nI (by omega) (by omega), bve, bve, e1, bde, x8_has _ (by omega) (by omega), bde, stN_tb, decide_eq_true hk, Bool.true_and]
      unfold h0N h1N
      rw [hs, Bool.true_and, Bool.true_and]
      cases pickN (gNd (tLa S) (min p q)).testBit (gNd (tLa S) (max p q)).testBit (shdA (tLa S)).testBit k (pthN (gNd (tLa S) (min p q)).testBit (gNd (tLa S) (max p q)).testBit (shdA (tLa S)).testBit k) <;> rfl

/-! change, share, part -/
theorem wf_kd {L : Lan} (hW : WF L) {p v : Nat} (hv : v ≤ 6) : WF (sKd L (uf (gKd L) p v)) := by
  obtain ⟨a1, a2, a3, a4, a5, a6⟩ := hW
  refine ⟨a1, a2, a3, fun i hi => ?_, a5, a6⟩
  obtain ⟨b1, b2, b3, b4⟩ := a4 i hi
  refine ⟨?_, b2, b3, b4⟩
  show uf (gKd L) p v i ≤ 6
  unfold uf; split <;> omega
theorem wf_su {L : Lan} (hW : WF L) {p v : Nat} (hv : v ≤ 99) : WF (sSu L (uf (gSu L) p v)) := by
  obtain ⟨a1, a2, a3, a4, a5, a6⟩ := hW
  refine ⟨a1, a2, a3, fun i hi => ?_, a5, a6⟩
  obtain ⟨b1, b2, b3, b4⟩ := a4 i hi
  refine ⟨b1, ?_, b3, b4⟩
  show uf (gSu L) p v i ≤ 99
  unfold uf; split <;> omega
theorem wf_sg {L : Lan} (hW : WF L) {p v : Nat} (hv : v ≤ 9) : WF (sSg L (uf (gSg L) p v)) := by
  obtain ⟨a1, a2, a3, a4, a5, a6⟩ := hW
  refine ⟨a1, a2, a3, fun i hi => ?_, a5, a6⟩
  obtain ⟨b1, b2, b3, b4⟩ := a4 i hi
  refine ⟨b1, b2, ?_, b4⟩
  show uf (gSg L) p v i ≤ 9
  unfold uf; split <;> omega
theorem wf_nd {L : Lan} (hW : WF L) {p v : Nat} (hv : v < 65536) : WF (sNd L (uf (gNd L) p v)) := by
  obtain ⟨a1, a2, a3, a4, a5, a6⟩ := hW
  refine ⟨a1, a2, a3, fun i hi => ?_, a5, a6⟩
  obtain ⟨b1, b2, b3, b4⟩ := a4 i hi
  refine ⟨b1, b2, b3, ?_⟩
  show uf (gNd L) p v i < 65536
  unfold uf; split <;> omega
theorem wf_l {L : Lan} (hW : WF L) {v : Nat} (hv : v < 65536) : WF (sL L v) := by
  obtain ⟨a1, a2, a3, a4⟩ := hW
  exact ⟨a1, a2, hv, a4⟩
/-- what a change of a field is: the row of the class, its bound, what it was, what becomes of the land -/
theorem x7_replace {M : Mem} {d p v k : Nat} (hp : p < 8) (hv : v < k + 1) (hk : k < 2 ^ 30) : fX7_replace d (nI p) (nI v) (nI k) M = some (M d p, wr M d p (nI v)) := by
  unfold fX7_replace
  rw [x7_isWithin _ M (by omega), pIn_t hv (by omega), bde, ifT]
  simp (disch := omega) only [bde, bve, wme, ck_in, ck_b0, ck_b1, ck_bI, ix_nI, bI_0, bI_1, nI_1, lit_le, lit_lt, lit_eq, ↓reduceIte, ckl_4_56, ckl_0_56, ckl_3_56, ckl_1_56, ckl_5_56, ckl_2_56, ckl_1_2, ckl_0_2, ckl_0_256, ckl_0_8, ckl_33_34, ckl_32_34, ixl_0, ixl_1, ixl_2, ixl_3, ixl_4, ixl_5, ixl_8, ixl_10, ixl_32, ixl_33, ixl_40]
theorem x7_replaceF {M : Mem} {d p k : Nat} {v : Int32} (hv : pIn (k + 1) v = false) (hk : k < 2 ^ 30) : fX7_replace d (nI p) v (nI k) M = fX7_found (nI 0) M := by
  unfold fX7_replace
  rw [x7_isWithin _ M (by omega), hv, bde, ifF]
  exact fd7 0 M
theorem rt_bd {α : Type} (x : Option (α × Mem)) : (bd x fun r M1 => some (r, M1)) = x := by
  cases x with
  | none => rfl
  | some q => rfl
theorem x8_change {M : Mem} {L : Lan} (hC : RLn M 58 L) (hW : WF L) (x y v : Int32) : fX8_change x y v M = if (pIn (gN L) x && ((decide (y = 0) && pIn 7 v) || (decide (y = 1) && pIn 100 v) || (decide (y = 2) && pIn 10 v) || (decide (y = 3) && pIn 65536 v))) = true then (bd (fX8_at x y M) fun r10 M9 => (bd (fX8_become r10 v M9) fun r12 M11 => (some (r12, M11)))) else fX8_finding (low 0) M := by
  have l86 : fX8_change_L86 M = fX8_finding (low 0) M := fd8 0 M
  have l58 : ∀ b : Bool, fX8_change_L58 x y v (bI b) M = if (pIn (gN L) x && b) = true then (bd (fX8_at x y M) fun r10 M9 => (bd (fX8_become r10 v M9) fun r12 M11 => (some (r12, M11)))) else fX8_finding (low 0) M := by
    intro b
    unfold fX8_change_L58
    rw [x8_isPerson hC hW, bde]
    cases pIn (gN L) x
    · rw [ifF, l86, if_neg (by simp)]
    · rw [ifT]
      cases b
      · rw [ifF, l86, if_neg (by simp)]
      · rw [ifT, if_pos (by simp)]
  have l53 : fX8_change_L53 x y v M = fX8_change_L58 x y v (bI true) M := rfl
  have l57 : fX8_change_L57 x y v M = fX8_change_L58 x y v (bI false) M := rfl
  have w9 : fX8_within v 0 9 M = some (bI (pIn 10 v), M) := x8_within v M (k := 9) (by decide)
  have w99 : fX8_within v 0 99 M = some (bI (pIn 100 v), M) := x8_within v M (k := 99) (by decide)
  have l41 : fX8_change_L41 x y v M = fX8_change_L58 x y v (bI (decide (y = 3) && pIn 65536 v)) M := by
    unfold fX8_change_L41
    by_cases e : y = 3
    · rw [if_pos e, x8_isHours, bde, decide_eq_true e, Bool.true_and]
      cases pIn 65536 v
      · rw [ifF, l57]
      · rw [ifT, l53]
    · rw [if_neg e, l57, decide_eq_false e, Bool.false_and]
  have l26 : fX8_change_L26 x y v M = fX8_change_L58 x y v (bI ((decide (y = 2) && pIn 10 v) || (decide (y = 3) && pIn 65536 v))) M := by
    unfold fX8_change_L26
    by_cases e : y = 2
    · rw [if_pos e, w9, bde, decide_eq_true e, Bool.true_and]
      cases pIn 10 v
      · rw [ifF, l41, Bool.false_or]
      · rw [ifT, l53, Bool.true_or]
    · rw [if_neg e, l41, decide_eq_false e, Bool.false_and, Bool.false_or]
  have l11 : fX8_change_L11 x y v M = fX8_change_L58 x y v (bI ((decide (y = 1) && pIn 100 v) || (decide (y = 2) && pIn 10 v) || (decide (y = 3) && pIn 65536 v))) M := by
    unfold fX8_change_L11
    by_cases e : y = 1
    · rw [if_pos e, w99, bde, decide_eq_true e, Bool.true_and]
      cases pIn 100 v
      · rw [ifF, l26, Bool.false_or]
      · rw [ifT, l53, Bool.true_or, Bool.true_or]
    · rw [if_neg e, l26, decide_eq_false e, Bool.false_and, Bool.false_or]
  rw [← l58]
  unfold fX8_change
  by_cases e : y = 0
  · rw [if_pos e, x8_isKind, bde, decide_eq_true e, Bool.true_and]
    cases pIn 7 v
    · rw [ifF, l11, Bool.false_or]
    · rw [ifT, l53, Bool.true_or, Bool.true_or, Bool.true_or]
  · rw [if_neg e, l11, decide_eq_false e, Bool.false_and, Bool.false_or]
theorem tw_change {S : Sta} (hW : WFS S) (x y v : Int32) : Two (fX7_change x y v) (fX8_change x y v) S := by
  have hn := hW.1.1
  cases hp : pIn (gN (tLa S)) x
  · refine two_fd hW (i := 0) (by decide) (fun M h => ?_) (fun M h => ?_)
    · unfold fX7_change
      rw [x1_isPerson h.1 hW.1, hp, bde, ifF]
      exact fd7 0 M
    · rw [x8_change h.1 hW.1, hp, if_neg (by simp)]
  · obtain ⟨p, hpn, rfl⟩ := pIn_ex hp (by omega)
    have hp8 : p < 8 := by omega
    have e7 : ∀ M, AC M S → fX7_change (nI p) y v M = (if y = 0 then (fX7_replace 2 (nI p) v (nI 6) M) else (if y = 1 then (fX7_replace 3 (nI p) v (nI 99) M) else (if y = 2 then (fX7_replace 4 (nI p) v (nI 9) M) else (if y = 3 then (fX7_replace 5 (nI p) v (nI 65535) M) else (fX7_found (nI 0) M))))) := by
      intro M h
      unfold fX7_change
      rw [x1_isPerson h.1 hW.1, hp, bde, ifT, rt_bd, rt_bd, rt_bd, rt_bd, rt_bd]
      rfl
    have e8 : ∀ M, AR M S → ∀ b : Bool, ((decide (y = 0) && pIn 7 v) || (decide (y = 1) && pIn 100 v) || (decide (y = 2) && pIn 10 v) || (decide (y = 3) && pIn 65536 v)) = b → fX8_change (nI p) y v M = if b = true then (bd (fX8_at (nI p) y M) fun r10 M9 => (bd (fX8_become r10 v M9) fun r12 M11 => (some (r12, M11)))) else fX8_finding (low 0) M := by
      intro M h b hb
      rw [x8_change h.1 hW.1, hp, hb, Bool.true_and]
    have bad : ((decide (y = 0) && pIn 7 v) || (decide (y = 1) && pIn 100 v) || (decide (y = 2) && pIn 10 v) || (decide (y = 3) && pIn 65536 v)) = false → Two (fX7_change (nI p) y v) (fX8_change (nI p) y v) S := by
      intro hb
      have hb2 := hb
      simp only [Bool.or_eq_false_iff, Bool.and_eq_false_iff, decide_eq_false_iff_not] at hb2
      obtain ⟨⟨⟨b0, b1⟩, b2⟩, b3⟩ := hb2
      refine two_fd hW (i := 0) (by decide) (fun M h => ?_) (fun M h => ?_)
      · rw [e7 M h]
        by_cases c0 : y = 0
        · rw [if_pos c0]; exact x7_replaceF (by rcases b0 with q | q; exact absurd c0 q; exact q) (by decide)
        rw [if_neg c0]
        by_cases c1 : y = 1
        · rw [if_pos c1]; exact x7_replaceF (by rcases b1 with q | q; exact absurd c1 q; exact q) (by decide)
        rw [if_neg c1]
        by_cases c2 : y = 2
        · rw [if_pos c2]; exact x7_replaceF (by rcases b2 with q | q; exact absurd c2 q; exact q) (by decide)
        rw [if_neg c2]
        by_cases c3 : y = 3
        · rw [if_pos c3]; exact x7_replaceF (by rcases b3 with q | q; exact absurd c3 q; exact q) (by decide)
        rw [if_neg c3]
      · rw [e8 M h false hb, if_neg (by decide)]
    by_cases c0 : y = 0
    · subst c0
      cases hv : pIn 7 v
      · exact bad (by rw [hv]; simp)
      · obtain ⟨k, hk, rfl⟩ := pIn_ex hv (by decide)
        refine two_L hW (nI (gKd (tLa S) p)) _ (wf_kd (p := p) (v := k) hW.1 (by omega)) (fun M h => ?_) (fun M h => ?_)
        · refine ⟨wr M 2 p (nI k), ?_, cl_Kd h.1 k, Sm.wr (by omega) (by omega)⟩
          rw [e7 M h, if_pos rfl, x7_replace hp8 hk (by decide), h.1.1 p hp8]
        · refine ⟨wr M 58 (16 + 5 * p + 0) (nI k), ?_, rl_Kd h.1 hp8 k, Sr.wr⟩
          rw [e8 M h true (by rw [hv]; simp), if_pos rfl, x8_at0, bde]
          unfold fX8_become
          simp (disch := omega) only [bde, bve, wme, ck_in, ck_b0, ck_b1, ck_bI, ix_nI, bI_0, bI_1, nI_1, lit_le, lit_lt, lit_eq, ↓reduceIte, ckl_4_56, ckl_0_56, ckl_3_56, ckl_1_56, ckl_5_56, ckl_2_56, ckl_1_2, ckl_0_2, ckl_0_256, ckl_0_8, ckl_33_34, ckl_32_34, ixl_0, ixl_1, ixl_2, ixl_3, ixl_4, ixl_5, ixl_8, ixl_10, ixl_32, ixl_33, ixl_40, h.1.1 p hp8]
    by_cases c1 : y = 1
    · subst c1
      cases hv : pIn 100 v
      · exact bad (by rw [hv]; simp)
      · obtain ⟨k, hk, rfl⟩ := pIn_ex hv (by decide)
        refine two_L hW (nI (gSu (tLa S) p)) _ (wf_su (p := p) (v := k) hW.1 (by omega)) (fun M h => ?_) (fun M h => ?_)
        · refine ⟨wr M 3 p (nI k), ?_, cl_Su h.1 k, Sm.wr (by omega) (by omega)⟩
          rw [e7 M h, if_neg (by decide), if_pos rfl, x7_replace hp8 hk (by decide)]
          rw [show M 3 p = nI (gSu (tLa S) p) from h.1.2.1 p hp8]
        · refine ⟨wr M 58 (16 + 5 * p + 1) (nI k), ?_, rl_Su h.1 hp8 k, Sr.wr⟩
          rw [e8 M h true (by rw [hv]; simp), if_pos rfl, x8_at1, bde]
          unfold fX8_become
          simp (disch := omega) only [bde, bve, wme, ck_in, ck_b0, ck_b1, ck_bI, ix_nI, bI_0, bI_1, nI_1, lit_le, lit_lt, lit_eq, ↓reduceIte, ckl_4_56, ckl_0_56, ckl_3_56, ckl_1_56, ckl_5_56, ckl_2_56, ckl_1_2, ckl_0_2, ckl_0_256, ckl_0_8, ckl_33_34, ckl_32_34, ixl_0, ixl_1, ixl_2, ixl_3, ixl_4, ixl_5, ixl_8, ixl_10, ixl_32, ixl_33, ixl_40, h.1.2.1 p hp8]
    by_cases c2 : y = 2
    · subst c2
      cases hv : pIn 10 v
      · exact bad (by rw [hv]; simp)
      · obtain ⟨k, hk, rfl⟩ := pIn_ex hv (by decide)
        refine two_L hW (nI (gSg (tLa S) p)) _ (wf_sg (p := p) (v := k) hW.1 (by omega)) (fun M h => ?_) (fun M h => ?_)
        · refine ⟨wr M 4 p (nI k), ?_, cl_Sg h.1 k, Sm.wr (by omega) (by omega)⟩
          rw [e7 M h, if_neg (by decide), if_neg (by decide), if_pos rfl, x7_replace hp8 hk (by decide)]
          rw [show M 4 p = nI (gSg (tLa S) p) from h.1.2.2.1 p hp8]
        · refine ⟨wr M 58 (16 + 5 * p + 2) (nI k), ?_, rl_Sg h.1 hp8 k, Sr.wr⟩
          rw [e8 M h true (by rw [hv]; simp), if_pos rfl, x8_at2, bde]
          unfold fX8_become
          simp (disch := omega) only [bde, bve, wme, ck_in, ck_b0, ck_b1, ck_bI, ix_nI, bI_0, bI_1, nI_1, lit_le, lit_lt, lit_eq, ↓reduceIte, ckl_4_56, ckl_0_56, ckl_3_56, ckl_1_56, ckl_5_56, ckl_2_56, ckl_1_2, ckl_0_2, ckl_0_256, ckl_0_8, ckl_33_34, ckl_32_34, ixl_0, ixl_1, ixl_2, ixl_3, ixl_4, ixl_5, ixl_8, ixl_10, ixl_32, ixl_33, ixl_40, h.1.2.2.1 p hp8]
    by_cases c3 : y = 3
    · subst c3
      cases hv : pIn 65536 v
      · exact bad (by rw [hv]; simp)
      · obtain ⟨k, hk, rfl⟩ := pIn_ex hv (by decide)
        refine two_L hW (nI (gNd (tLa S) p)) _ (wf_nd (p := p) (v := k) hW.1 (by omega)) (fun M h => ?_) (fun M h => ?_)
        · refine ⟨wr M 5 p (nI k), ?_, cl_Nd h.1 k, Sm.wr (by omega) (by omega)⟩
          rw [e7 M h, if_neg (by decide), if_neg (by decide), if_neg (by decide), if_pos rfl, x7_replace hp8 hk (by decide)]
          rw [show M 5 p = nI (gNd (tLa S) p) from h.1.2.2.2.1 p hp8]
        · refine ⟨wr M 58 (16 + 5 * p + 3) (nI k), ?_, rl_Nd h.1 hp8 k, Sr.wr⟩
          rw [e8 M h true (by rw [hv]; simp), if_pos rfl, x8_at3, bde]
          unfold fX8_become
          simp (disch := omega) only [bde, bve, wme, ck_in, ck_b0, ck_b1, ck_bI, ix_nI, bI_0, bI_1, nI_1, lit_le, lit_lt, lit_eq, ↓reduceIte, ckl_4_56, ckl_0_56, ckl_3_56, ckl_1_56, ckl_5_56, ckl_2_56, ckl_1_2, ckl_0_2, ckl_0_256, ckl_0_8, ckl_33_34, ckl_32_34, ixl_0, ixl_1, ixl_2, ixl_3, ixl_4, ixl_5, ixl_8, ixl_10, ixl_32, ixl_33, ixl_40, h.1.2.2.2.1 p hp8]
    exact bad (by simp [c0, c1, c2, c3])
/-- p has no mate, nor p's mate -/
def sepL (L : Lan) (p : Nat) : Lan := if gMt L p = 0 then L else
  let L1 := sMt L (uf (gMt L) (gMt L p - 1) 0)
  sMt L1 (uf (gMt L1) p 0)
theorem sep_N (L : Lan) (p : Nat) : gN (sepL L p) = gN L := by unfold sepL; split <;> rfl
theorem sep_Mt {L : Lan} {p : Nat} (h : ¬ gMt L p = 0) : gMt (sepL L p) = uf (uf (gMt L) (gMt L p - 1) 0) p 0 := by unfold sepL; rw [if_neg h]; rfl
theorem sep_0 {L : Lan} {p : Nat} (h : gMt L p = 0) : sepL L p = L := by unfold sepL; rw [if_pos h]
theorem sep_self (L : Lan) (p : Nat) : gMt (sepL L p) p = 0 := by
  by_cases h : gMt L p = 0
  · rw [sep_0 h]; exact h
  · rw [sep_Mt h]; unfold uf; rw [if_pos rfl]
theorem sep_or (L : Lan) (p i : Nat) : gMt (sepL L p) i = 0 ∨ gMt (sepL L p) i = gMt L i := by
  by_cases h : gMt L p = 0
  · rw [sep_0 h]; exact Or.inr rfl
  · rw [sep_Mt h]
    unfold uf
    by_cases e1 : i = p
    · rw [if_pos e1]; exact Or.inl rfl
    · rw [if_neg e1]
      by_cases e2 : i = gMt L p - 1
      · rw [if_pos e2]; exact Or.inl rfl
      · rw [if_neg e2]; exact Or.inr rfl
theorem wf_sep {L : Lan} (hW : WF L) {p : Nat} (hp : p < gN L) : WF (sepL L p) := by
  by_cases h : gMt L p = 0
  · rw [sep_0 h]; exact hW
  · obtain ⟨a1, a2, a3, a4, a5, a6⟩ := id hW
    have hm := sep_Mt h
    unfold sepL at hm ⊢
    rw [if_neg h] at hm ⊢
    refine ⟨a1, a2, a3, a4, fun i hi => ?_, a6⟩
    rw [hm]
    obtain ⟨b1, b2, b3⟩ := a5 i hi
    obtain ⟨p1, p2, p3⟩ := a5 p hp
    have hpp := p3 (gMt L p - 1) (by omega)
    show uf (uf (gMt L) (gMt L p - 1) 0) p 0 i ≤ gN L ∧ uf (uf (gMt L) (gMt L p - 1) 0) p 0 i ≠ i + 1 ∧ ∀ j, uf (uf (gMt L) (gMt L p - 1) 0) p 0 i = j + 1 → uf (uf (gMt L) (gMt L p - 1) 0) p 0 j = i + 1
    unfold uf
    by_cases e1 : i = p
    · rw [if_pos e1]; exact ⟨by omega, by omega, fun j hj => by omega⟩
    · rw [if_neg e1]
      by_cases e2 : i = gMt L p - 1
      · rw [if_pos e2]; exact ⟨by omega, by omega, fun j hj => by omega⟩
      · rw [if_neg e2]
        refine ⟨b1, b2, fun j hj => ?_⟩
        have hj2 := b3 j hj
        by_cases f1 : j = p
        · subst f1; omega
        · rw [if_neg f1]
          by_cases f2 : j = gMt L p - 1
          · rw [f2, hpp] at hj2; omega
          · rw [if_neg f2]; exact hj2
theorem x1_separate {M : Mem} {b p : Nat} {L : Lan} (hC : CLn M b L) (hW : WF L) (hp : p < gN L) : ∃ M1, fX1_separate b (nI p) M = some ((), M1) ∧ CLn M1 b (sepL L p) ∧ Sm b M M1 := by
  have hn := hW.1
  have h5 : M (b + 5) p = mI (gMt L p) := hC.2.2.2.2.1 p (by omega)
  by_cases h : gMt L p = 0
  · refine ⟨M, ?_, by rw [sep_0 h]; exact hC, Sm.rf⟩
    have hf : pIn (gN L) (mI 0) = false := by
      show decide (0 ≤ (-1 : Int) ∧ (-1 : Int) < _) = false
      rfl
    unfold fX1_separate
    rw [x1_isPerson hC hW, pIn_t hp (by omega), bde, ifT]
    simp (disch := omega) only [ck_in, ix_nI, h5, h, x1_isPerson hC hW, hf, bde, ifF]
  · obtain ⟨e1, e2⟩ := mI_mt hW hp h
    have hM1 := cl_Mt hC (i := gMt L p - 1) 0
    refine ⟨wr (wr M (b + 5) (gMt L p - 1) (mI 0)) (b + 5) p (mI 0), ?_, ?_, (Sm.wr (by omega) (by omega)).tr (Sm.wr (by omega) (by omega))⟩
    · unfold fX1_separate
      rw [x1_isPerson hC hW, pIn_t hp (by omega), bde, ifT]
      simp (disch := omega) only [ck_in, ix_nI, h5, e1, x1_isPerson hC hW, pIn_t e2, bde, ifT, wme]
      rfl
    · unfold sepL
      rw [if_neg h]
      exact cl_Mt hM1 0
theorem x8_parts {M : Mem} {p : Nat} {L : Lan} (hC : RLn M 58 L) (hW : WF L) (hp : p < gN L) : ∃ M1, fX8_parts (nI p) M = some (mI (gMt L p), M1) ∧ RLn M1 58 (sepL L p) ∧ Sr M M1 := by
  have hn := hW.1
  have h4 : M 58 (16 + 5 * p + 4) = mI (gMt L p) := hC.2.2.2.2.1 p (by omega)
  have hM1 := rl_Mt hC (i := p) (by omega) 0
  have em : (-1 : Int32) = mI 0 := rfl
  by_cases h : gMt L p = 0
  · refine ⟨wr M 58 (16 + 5 * p + 4) (mI 0), ?_, ?_, Sr.wr⟩
    · unfold fX8_parts fX8_become
      simp (disch := omega) only [x8_at4, bde, bve, wme, ck_in, ck_b0, ck_b1, ck_bI, ix_nI, bI_0, bI_1, nI_1, lit_le, lit_lt, lit_eq, ↓reduceIte, ckl_4_56, ckl_0_56, ckl_3_56, ckl_1_56, ckl_5_56, ckl_2_56, ckl_1_2, ckl_0_2, ckl_0_256, ckl_0_8, ckl_33_34, ckl_32_34, ixl_0, ixl_1, ixl_2, ixl_3, ixl_4, ixl_5, ixl_8, ixl_10, ixl_32, ixl_33, ixl_40, h4, h]
      rfl
    · have e : sMt L (uf (gMt L) p 0) = L := by
        have : uf (gMt L) p 0 = gMt L := by
          funext j
          unfold uf
          by_cases hj : j = p
          · rw [if_pos hj, hj, h]
          · rw [if_neg hj]
        rw [this]
        rfl
      rw [e] at hM1
      rw [sep_0 h]
      exact hM1
  · obtain ⟨e1, e2⟩ := mI_mt hW hp h
    have hM2 := rl_Mt hM1 (i := gMt L p - 1) (by omega) 0
    refine ⟨wr (wr M 58 (16 + 5 * p + 4) (mI 0)) 58 (16 + 5 * (gMt L p - 1) + 4) (mI 0), ?_, ?_, Sr.wr.tr Sr.wr⟩
    · unfold fX8_parts fX8_become
      simp (disch := omega) only [x8_at4, bde, bve, wme, ck_in, ck_b0, ck_b1, ck_bI, ix_nI, bI_0, bI_1, nI_1, lit_le, lit_lt, lit_eq, ↓reduceIte, ckl_4_56, ckl_0_56, ckl_3_56, ckl_1_56, ckl_5_56, ckl_2_56, ckl_1_2, ckl_0_2, ckl_0_256, ckl_0_8, ckl_33_34, ckl_32_34, ixl_0, ixl_1, ixl_2, ixl_3, ixl_4, ixl_5, ixl_8, ixl_10, ixl_32, ixl_33, ixl_40, h4, e1, nI_le0]
      rfl
    · have hm := sep_Mt h
      have e : sMt (sMt L (uf (gMt L) p 0)) (uf (gMt (sMt L (uf (gMt L) p 0))) (gMt L p - 1) 0) = sepL L p := by
        unfold sepL
        rw [if_neg h]
        have : uf (uf (gMt L) p 0) (gMt L p - 1) 0 = uf (uf (gMt L) (gMt L p - 1) 0) p 0 := by
          funext j
          unfold uf
          by_cases f1 : j = p <;> by_cases f2 : j = gMt L p - 1 <;> simp [f1, f2]
        show sMt L (uf (uf (gMt L) p 0) (gMt L p - 1) 0) = sMt L (uf (uf (gMt L) (gMt L p - 1) 0) p 0)
        rw [this]
      rw [e] at hM2
      exact hM2
/-- they are mates -/
def joiL (L : Lan) (a b : Nat) : Lan :=
  let L2 := sepL (sepL L a) b
  let L3 := sMt L2 (uf (gMt L2) a (b + 1))
  sMt L3 (uf (gMt L3) b (a + 1))
theorem wf_joi {L : Lan} (hW : WF L) {a b : Nat} (ha : a < gN L) (hb : b < gN L) (hab : a ≠ b) : WF (joiL L a b) := by
  have w1 := wf_sep hW ha
  have w2 := wf_sep w1 (p := b) (by rw [sep_N]; exact hb)
  have n2 : gN (sepL (sepL L a) b) = gN L := by rw [sep_N, sep_N]
  have z2 : gMt (sepL (sepL L a) b) b = 0 := sep_self _ _
  have z1 : gMt (sepL (sepL L a) b) a = 0 := by
    rcases sep_or (sepL L a) b a with q | q
    · exact q
    · rw [q]; exact sep_self _ _
  unfold joiL
  generalize sepL (sepL L a) b = X at w2 n2 z1 z2
  obtain ⟨a1, a2, a3, a4, a5, a6⟩ := w2
  refine ⟨a1, a2, a3, a4, fun i hi => ?_, a6⟩
  have hi' : i < gN X := hi
  obtain ⟨b1, b2, b3⟩ := a5 i hi'
  show uf (uf (gMt X) a (b + 1)) b (a + 1) i ≤ gN X ∧ uf (uf (gMt X) a (b + 1)) b (a + 1) i ≠ i + 1 ∧ ∀ j, uf (uf (gMt X) a (b + 1)) b (a + 1) i = j + 1 → uf (uf (gMt X) a (b + 1)) b (a + 1) j = i + 1
  unfold uf
  by_cases e1 : i = b
  · rw [if_pos e1]
    refine ⟨by omega, by omega, fun j hj => ?_⟩
    have : j = a := by omega
    rw [if_neg (by omega), if_pos this, e1]
  · rw [if_neg e1]
    by_cases e2 : i = a
    · rw [if_pos e2]
      refine ⟨by omega, by omega, fun j hj => ?_⟩
      have : j = b := by omega
      rw [if_pos this, e2]
    · rw [if_neg e2]
      refine ⟨b1, b2, fun j hj => ?_⟩
      have hj2 := b3 j hj
      have f1 : j ≠ b := by rintro rfl; omega
      have f2 : j ≠ a := by rintro rfl; omega
      rw [if_neg f1, if_neg f2]
      exact hj2
theorem nI_mI (n : Nat) : nI n = mI (n + 1) := (mI_s n).symm
theorem x1_join {M : Mem} {b p q : Nat} {L : Lan} (hC : CLn M b L) (hW : WF L) (hp : p < gN L) (hq : q < gN L) (hpq : p ≠ q) : ∃ M1, fX1_join b (nI p) (nI q) M = some ((), M1) ∧ CLn M1 b (joiL L p q) ∧ Sm b M M1 := by
  have hn := hW.1
  obtain ⟨M1, e1, c1, s1⟩ := x1_separate hC hW hp
  obtain ⟨M2, e2, c2, s2⟩ := x1_separate (p := q) c1 (wf_sep hW hp) (by rw [sep_N]; exact hq)
  have hne : nI p ≠ nI q := fun e => hpq (nI_inj (by omega) (by omega) e)
  refine ⟨wr (wr M2 (b + 5) p (mI (q + 1))) (b + 5) q (mI (p + 1)), ?_, ?_, ((s1.tr s2).tr (Sm.wr (by omega) (by omega))).tr (Sm.wr (by omega) (by omega))⟩
  · unfold fX1_join
    rw [x1_areTwo hC hW, pIn_t hp (by omega), pIn_t hq (by omega), decide_eq_true hne, bde, show (true && true && true) = true from rfl, ifT, e1, bde, e2, bde]
    simp (disch := omega) only [ck_in, ix_nI, wme]
    simp only [nI_mI]
  · exact cl_Mt (cl_Mt c2 (q + 1)) (p + 1)
theorem mI_toInt {m : Nat} (h : m < 2 ^ 30) : (mI m).toInt = (m : Int) - 1 := by
  rcases Nat.eq_zero_or_pos m with h0 | h0
  · subst h0; rfl
  · rw [mI_pos h0, nI_toInt (by omega)]; omega
theorem x8_areMates {M : Mem} {p q : Nat} {L : Lan} (hC : RLn M 58 L) (hW : WF L) (hp : p < gN L) (hq : q < gN L) (hpq : p ≠ q) : ∃ M1, fX8_areMates (nI p) (nI q) M = some (if mI (gMt L p) = nI q then 0 else 1, M1) ∧ RLn M1 58 (if mI (gMt L p) = nI q then L else joiL L p q) ∧ Sr M M1 := by
  have hn := hW.1
  have hm4 := x8_Mt hC (i := p) (by omega)
  by_cases h : mI (gMt L p) = nI q
  · refine ⟨M, ?_, by rw [if_pos h]; exact hC, Sr.rf⟩
    unfold fX8_areMates
    rw [hm4, bde, if_pos h, if_pos h]
  · obtain ⟨M1, e1, c1, s1⟩ := x8_parts hC hW hp
    have w1 := wf_sep hW hp
    obtain ⟨M2, e2, c2, s2⟩ := x8_parts (p := q) c1 w1 (by rw [sep_N]; exact hq)
    have b1 := (hW.2.2.2.2.1 p hp).1
    have b2 := (w1.2.2.2.2.1 q (by rw [sep_N]; exact hq)).1
    rw [sep_N] at b2
    refine ⟨wr (wr M2 58 (16 + 5 * p + 4) (mI (q + 1))) 58 (16 + 5 * q + 4) (mI (p + 1)), ?_, ?_, ((s1.tr s2).tr Sr.wr).tr Sr.wr⟩
    · unfold fX8_areMates
      rw [hm4, bde, if_neg h, if_neg h, e1, bde, e2, bde, bve, x8_at4, bde]
      have hge : (-2 : Int32) ≤ mI (gMt L p) + mI (gMt (sepL L p) q) := by
        rw [Int32.le_iff_toInt_le, Int32.toInt_add, mI_toInt (by omega), mI_toInt (by omega)]
        have hb : ((gMt L p : Int) - 1 + ((gMt (sepL L p) q : Int) - 1)).bmod (2 ^ 32) = (gMt L p : Int) - 1 + ((gMt (sepL L p) q : Int) - 1) := by
          apply Int.bmod_eq_of_le <;> omega
        rw [hb]
        show (-2 : Int) ≤ _
        omega
      simp (disch := omega) only [ck_in, ix_nI, wme, x8_at4, bde]
      rw [if_pos hge]
      simp only [nI_mI]
    · rw [if_neg h]
      exact rl_Mt (rl_Mt c2 (i := p) (by omega) (q + 1)) (i := q) (by omega) (p + 1)
theorem tw_share {S : Sta} (hW : WFS S) (x y : Int32) : Two (fX7_share x y) (fX8_share x y) S := by
  have hn := hW.1.1
  cases hp : (pIn (gN (tLa S)) x && pIn (gN (tLa S)) y && decide (x ≠ y))
  · refine two_fd hW (i := 0) (by decide) (fun M h => ?_) (fun M h => ?_)
    · unfold fX7_share
      rw [x1_areTwo h.1 hW.1, hp, bde, ifF]
      exact fd7 0 M
    · unfold fX8_share
      rw [x8_areTwo h.1 hW.1, hp, bde, ifF]
      exact fd8 0 M
  · have hp2 := hp
    simp only [Bool.and_eq_true, decide_eq_true_eq] at hp2
    obtain ⟨⟨hx, hy⟩, hxy⟩ := hp2
    obtain ⟨p, hpn, rfl⟩ := pIn_ex hx (by omega)
    obtain ⟨q, hqn, rfl⟩ := pIn_ex hy (by omega)
    have hpq : p ≠ q := fun e => hxy (by rw [e])
    have hL : WF (if mI (gMt (tLa S) p) = nI q then tLa S else joiL (tLa S) p q) := by
      split
      · exact hW.1
      · exact wf_joi hW.1 hpn hqn hpq
    refine two_L hW (if mI (gMt (tLa S) p) = nI q then 0 else 1) _ hL (fun M h => ?_) (fun M h => ?_)
    · have h5 : M 6 p = mI (gMt (tLa S) p) := h.1.2.2.2.2.1 p (by omega)
      unfold fX7_share
      by_cases e : mI (gMt (tLa S) p) = nI q
      · refine ⟨M, ?_, by rw [if_pos e]; exact h.1, Sm.rf⟩
        rw [x1_areTwo h.1 hW.1, hp, bde, ifT]
        simp (disch := omega) only [ck_in, ix_nI, h5]
        rw [if_pos e, if_pos e]
      · obtain ⟨M1, e1, c1, s1⟩ := x1_join h.1 hW.1 hpn hqn hpq
        refine ⟨M1, ?_, by rw [if_neg e]; exact c1, s1⟩
        rw [x1_areTwo h.1 hW.1, hp, bde, ifT]
        simp (disch := omega) only [ck_in, ix_nI, h5]
        rw [if_neg e, if_neg e, e1, bde]
    · obtain ⟨M1, e1, c1, s1⟩ := x8_areMates h.1 hW.1 hpn hqn hpq
      refine ⟨M1, ?_, c1, s1⟩
      unfold fX8_share
      rw [x8_areTwo h.1 hW.1, hp, bde, ifT, e1, bde]
theorem tw_part {S : Sta} (hW : WFS S) (x : Int32) : Two (fX7_part x) (fX8_part x) S := by
  have hn := hW.1.1
  cases hp : pIn (gN (tLa S)) x
  · refine two_fd hW (i := 0) (by decide) (fun M h => ?_) (fun M h => ?_)
    · unfold fX7_part
      rw [x1_isPerson h.1 hW.1, hp, bde, ifF]
      exact fd7 0 M
    · unfold fX8_part
      rw [x8_isPerson h.1 hW.1, hp, bde, ifF]
      exact fd8 0 M
  · obtain ⟨p, hpn, rfl⟩ := pIn_ex hp (by omega)
    by_cases h0 : gMt (tLa S) p = 0
    · refine two_fd hW (i := 3) (by decide) (fun M h => ?_) (fun M h => ?_)
      · have h5 : M 6 p = mI (gMt (tLa S) p) := h.1.2.2.2.2.1 p (by omega)
        unfold fX7_part
        rw [x1_isPerson h.1 hW.1, hp, bde, ifT]
        simp (disch := omega) only [ck_in, ix_nI, h5, bve, h0]
        rw [if_pos (show mI 0 = -1 from rfl)]
        exact fd7 3 M
      · unfold fX8_part
        rw [x8_isPerson h.1 hW.1, hp, bde, ifT, x8_Mt h.1 (by omega), bde, h0, if_neg (by decide)]
        exact fd8 3 M
    · obtain ⟨e1, e2⟩ := mI_mt hW.1 hpn h0
      refine two_L hW (mI (gMt (tLa S) p)) (sepL (tLa S) p) (wf_sep hW.1 hpn) (fun M h => ?_) (fun M h => ?_)
      · have h5 : M 6 p = mI (gMt (tLa S) p) := h.1.2.2.2.2.1 p (by omega)
        obtain ⟨M1, f1, c1, s1⟩ := x1_separate h.1 hW.1 hpn
        refine ⟨M1, ?_, c1, s1⟩
        unfold fX7_part
        rw [x1_isPerson h.1 hW.1, hp, bde, ifT]
        simp (disch := omega) only [ck_in, ix_nI, h5, bve]
        rw [if_neg (by rw [mI_m1 (by omega)]; exact h0), f1, bde]
      · obtain ⟨M1, f1, c1, s1⟩ := x8_parts h.1 hW.1 hpn
        refine ⟨M1, ?_, c1, s1⟩
        unfold fX8_part
        rw [x8_isPerson h.1 hW.1, hp, bde, ifT, x8_Mt h.1 (by omega), bde, if_pos (by rw [e1]; exact nI_pos' (by omega)), f1, bde]

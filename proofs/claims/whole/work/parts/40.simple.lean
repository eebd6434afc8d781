/-! calls on people, pairs, light, hours -/
theorem ifF {α : Type} {A B : α} : (if bI false = 0 then A else B) = A := if_pos (show bI false = 0 from rfl)
theorem ifT {α : Type} {A B : α} : (if bI true = 0 then A else B) = B := if_neg (by decide)
theorem two_q {S : Sta} (hW : WFS S) {f g : Mem → Option (Int32 × Mem)} (r : Int32) (hf : ∀ M, AC M S → ∃ M1, f M = some (r, M1) ∧ FC M M1) (hg : ∀ M, AR M S → ∃ M1, g M = some (r, M1) ∧ RLn M1 58 (tLa S) ∧ FR M M1) : Two f g S :=
  ⟨r, S, fun M h => by obtain ⟨M1, e, c⟩ := hf M h; exact ⟨M1, e, h.fc c, fun k hk => c k (by omega)⟩, fun M h => by obtain ⟨M1, e, c, d⟩ := hg M h; exact ⟨M1, e, h.fr d c, fun k hk => d.1 k (by omega)⟩, hW⟩
theorem two_q0 {S : Sta} (hW : WFS S) {f g : Mem → Option (Int32 × Mem)} (r : Int32) (hf : ∀ M, AC M S → f M = some (r, M)) (hg : ∀ M, AR M S → g M = some (r, M)) : Two f g S :=
  two_q hW r (fun M h => ⟨M, hf M h, FC.rf⟩) (fun M h => ⟨M, hg M h, h.1, FR.rf⟩)
theorem AC.land {M M1 : Mem} {S : Sta} {L : Lan} (h : AC M S) (hL : CLn M1 1 L) (f : Sm 1 M M1) : AC M1 (wLa S L) := by
  obtain ⟨h1, h2, h3, h4, h5, h6, h7⟩ := h
  refine ⟨hL, fun hk => cl_same (h2 hk) (fun k _ _ => f k (by omega)), by rw [f 0 (by omega)]; exact h3, fun i hi => by rw [f 35 (by omega)]; exact h4 i hi, by rw [f 34 (by omega)]; exact h5, fun s hs => ?_, fun q hq => by rw [f 56 (by omega)]; exact h7 q hq⟩
  obtain ⟨g1, g2, g3⟩ := h6 s hs
  exact ⟨by rw [f _ (by omega)]; exact g1, by rw [f _ (by omega)]; exact g2, fun i hi => by rw [f _ (by omega)]; exact g3 i hi⟩
theorem AR.land {M M1 : Mem} {S : Sta} {L : Lan} (h : AR M S) (hL : RLn M1 58 L) (f : Sr M M1) : AR M1 (wLa S L) := by
  obtain ⟨h1, h2, h3, h4, h5, h6, h7, h8⟩ := h
  refine ⟨hL, fun hk => rl_same (h2 hk) (f 59 (by omega)), by rw [f 57 (by omega)]; exact h3, fun i hi => by rw [f 66 (by omega)]; exact h4 i hi, by rw [f 57 (by omega)]; exact h5, fun s hs => ?_, fun q hq => by rw [f 61 (by omega)]; exact h7 q hq, by rw [f 61 (by omega)]; exact h8⟩
  obtain ⟨g1, g2, g3⟩ := h6 s hs
  exact ⟨by rw [f _ (by omega)]; exact g1, by rw [f _ (by omega)]; exact g2, fun i hi => by rw [f _ (by omega)]; exact g3 i hi⟩
theorem two_L {S : Sta} (hW : WFS S) {f g : Mem → Option (Int32 × Mem)} (r : Int32) (L : Lan) (hL : WF L) (hf : ∀ M, AC M S → ∃ M1, f M = some (r, M1) ∧ CLn M1 1 L ∧ Sm 1 M M1) (hg : ∀ M, AR M S → ∃ M1, g M = some (r, M1) ∧ RLn M1 58 L ∧ Sr M M1) : Two f g S :=
  ⟨r, wLa S L, fun M h => by obtain ⟨M1, e, c, d⟩ := hf M h; exact ⟨M1, e, h.land c d, fun k hk => d k (by omega)⟩, fun M h => by obtain ⟨M1, e, c, d⟩ := hg M h; exact ⟨M1, e, h.land c d, fun k hk => d k (by omega)⟩, ⟨hL, hW.2⟩⟩
/-- the same as found, with the answer handed on -/
theorem fd7 (i : Nat) (M : Mem) : (bd (fX7_found (nI i) M) fun r M1 => some (r, M1)) = fX7_found (nI i) M := rt_fd7 _ M
theorem fd8 (i : Nat) (M : Mem) : (bd (fX8_finding (low i) M) fun r M1 => some (r, M1)) = fX8_finding (low i) M := rt_fd8 _ M
theorem x8_isKind (x : Int32) (M : Mem) : fX8_isKind x M = some (bI (pIn 7 x), M) := by
  unfold fX8_isKind
  rw [show (6 : Int32) = nI 6 from rfl, x8_within x M (by decide), bde, ck_bI]
theorem x8_isHours (x : Int32) (M : Mem) : fX8_isHours x M = some (bI (pIn 65536 x), M) := by
  unfold fX8_isHours
  rw [show (65535 : Int32) = nI 65535 from rfl, x8_within x M (by decide), bde, ck_bI]
theorem x8_isSpot (x : Int32) (M : Mem) : fX8_isSpot x M = some (bI (pIn 10 x), M) := by
  unfold fX8_isSpot
  rw [show (9 : Int32) = nI 9 from rfl, x8_within x M (by decide), bde, ck_bI]
theorem x8_areTwo {M : Mem} {L : Lan} (hC : RLn M 58 L) (hW : WF L) (x y : Int32) : fX8_areTwo x y M = some (bI (pIn (gN L) x && pIn (gN L) y && decide (x ≠ y)), M) := by
  unfold fX8_areTwo
  rw [x8_isPerson hC hW, bde]
  cases pIn (gN L) x
  · rfl
  · rw [ifT, x8_isPerson hC hW, bde]
    cases pIn (gN L) y
    · rfl
    · rw [if_neg (by decide)]
      by_cases h : x = y
      · rw [if_pos h]; simp [h, ck_b0, bI]
      · rw [if_neg h]; simp [h, ck_b1, bI]
/-- one more of a kind -/
def comL (L : Lan) (k s g d : Nat) : Lan :=
  let n := gN L
  let L1 := sKd L (uf (gKd L) n k)
  let L2 := sSu L1 (uf (gSu L1) n s)
  let L3 := sSg L2 (uf (gSg L2) n g)
  let L4 := sNd L3 (uf (gNd L3) n d)
  let L5 := sMt L4 (uf (gMt L4) n 0)
  sN L5 (n + 1)
theorem wf_com {L : Lan} (hW : WF L) {k s g d : Nat} (hn : gN L < 8) (hk : k ≤ 6) (hs : s ≤ 99) (hg : g ≤ 9) (hd : d < 65536) : WF (comL L k s g d) := by
  obtain ⟨a1, a2, a3, a4, a5, a6⟩ := hW
  refine ⟨by show gN L + 1 ≤ 8; omega, a2, a3, fun i hi => ?_, fun i hi => ?_, fun q hq => by show gSp L q ≤ gN L + 1; have := a6 q hq; omega⟩
  · obtain ⟨b1, b2, b3, b4⟩ := a4 i hi
    show uf (gKd L) (gN L) k i ≤ 6 ∧ uf (gSu L) (gN L) s i ≤ 99 ∧ uf (gSg L) (gN L) g i ≤ 9 ∧ uf (gNd L) (gN L) d i < 65536
    unfold uf
    by_cases e : i = gN L
    · simp only [if_pos e]; exact ⟨hk, hs, hg, hd⟩
    · simp only [if_neg e]; exact ⟨b1, b2, b3, b4⟩
  · show uf (gMt L) (gN L) 0 i ≤ gN L + 1 ∧ uf (gMt L) (gN L) 0 i ≠ i + 1 ∧ ∀ j, uf (gMt L) (gN L) 0 i = j + 1 → uf (gMt L) (gN L) 0 j = i + 1
    have hi' : i < gN L + 1 := hi
    unfold uf
    by_cases e : i = gN L
    · simp only [if_pos e]
      exact ⟨by omega, by omega, fun j h => by omega⟩
    · simp only [if_neg e]
      obtain ⟨b1, b2, b3⟩ := a5 i (by omega)
      refine ⟨by omega, b2, fun j h => ?_⟩
      rw [if_neg (by omega)]
      exact b3 j h
theorem x1_isFull {M : Mem} {b : Nat} {L : Lan} (hC : CLn M b L) (hW : WF L) : fX1_isFull b M = some (bI (decide (gN L = 8)), M) := by
  have h6 : M b 6 = nI (gN L) := hC.2.2.2.2.2.2.1
  have := hW.1
  unfold fX1_isFull
  simp (disch := omega) only [bde, bve, wme, ck_in, ck_b0, ck_b1, ck_bI, ix_nI, bI_0, bI_1, nI_1, lit_le, lit_lt, lit_eq, ↓reduceIte, ckl_4_56, ckl_0_56, ckl_3_56, ckl_1_56, ckl_5_56, ckl_2_56, ckl_1_2, ckl_0_2, ckl_0_256, ckl_0_8, ckl_33_34, ckl_32_34, ixl_0, ixl_1, ixl_2, ixl_3, ixl_4, ixl_5, ixl_8, ixl_10, ixl_32, ixl_33, ixl_40, h6, lt8]
  by_cases h : gN L < 8
  · rw [if_pos h, decide_eq_false (by omega)]; rfl
  · rw [if_neg h, decide_eq_true (by omega)]; rfl
theorem x1_add {M : Mem} {b k : Nat} {L : Lan} (hC : CLn M b L) (hn : gN L < 8) : ∃ M1, fX1_add b (nI k) M = some (nI (gN L), M1) ∧ CLn M1 b (comL L k 0 3 0) ∧ Sm b M M1 := by
  have h6 : M b 6 = nI (gN L) := hC.2.2.2.2.2.2.1
  have hF : fX1_isFull b M = some (0, M) := by
    unfold fX1_isFull
    simp (disch := omega) only [bde, bve, wme, ck_in, ck_b0, ck_b1, ck_bI, ix_nI, bI_0, bI_1, nI_1, lit_le, lit_lt, lit_eq, ↓reduceIte, ckl_4_56, ckl_0_56, ckl_3_56, ckl_1_56, ckl_5_56, ckl_2_56, ckl_1_2, ckl_0_2, ckl_0_256, ckl_0_8, ckl_33_34, ckl_32_34, ixl_0, ixl_1, ixl_2, ixl_3, ixl_4, ixl_5, ixl_8, ixl_10, ixl_32, ixl_33, ixl_40, h6, lt8, hn]
  refine ⟨wr (wr (wr (wr (wr (wr M (b + 1) (gN L) (nI k)) (b + 2) (gN L) (nI 0)) (b + 3) (gN L) (nI 3)) (b + 4) (gN L) (nI 0)) (b + 5) (gN L) (mI 0)) b 6 (nI (gN L + 1)), ?_, ?_, ?_⟩
  · unfold fX1_add
    rw [hF]
    have e3 : (3 : Int32) = nI 3 := rfl
    have em : (-1 : Int32) = mI 0 := rfl
    simp (disch := omega) only [bde, bve, wme, ck_in, ck_b0, ck_b1, ck_bI, ix_nI, bI_0, bI_1, nI_1, lit_le, lit_lt, lit_eq, ↓reduceIte, ckl_4_56, ckl_0_56, ckl_3_56, ckl_1_56, ckl_5_56, ckl_2_56, ckl_1_2, ckl_0_2, ckl_0_256, ckl_0_8, ckl_33_34, ckl_32_34, ixl_0, ixl_1, ixl_2, ixl_3, ixl_4, ixl_5, ixl_8, ixl_10, ixl_32, ixl_33, ixl_40, wr_n, h6, wr_b, upd, pk_sub, Nat.add_sub_cancel]
    rw [sb1 (by omega), Nat.add_sub_cancel]
    rfl
  · exact cl_N (cl_Mt (cl_Nd (cl_Sg (cl_Su (cl_Kd hC k) 0) 3) 0) 0) _
  · exact ((((((Sm.wr (by omega) (by omega)).tr (Sm.wr (by omega) (by omega))).tr (Sm.wr (by omega) (by omega))).tr (Sm.wr (by omega) (by omega))).tr (Sm.wr (by omega) (by omega))).tr (Sm.wr (by omega) (by omega)))
theorem x8_comes {M : Mem} {k s g d : Nat} {L : Lan} (hC : RLn M 58 L) (hn : gN L < 8) : ∃ M1, fX8_comes (nI k) (nI s) (nI g) (nI d) M = some (nI (gN L), M1) ∧ RLn M1 58 (comL L k s g d) ∧ Sr M M1 := by
  have h4 : M 58 4 = nI (gN L) := hC.2.2.2.2.2.2.1
  refine ⟨wr (wr (wr (wr (wr (wr M 58 (16 + 5 * gN L + 0) (nI k)) 58 (16 + 5 * gN L + 1) (nI s)) 58 (16 + 5 * gN L + 2) (nI g)) 58 (16 + 5 * gN L + 3) (nI d)) 58 (16 + 5 * gN L + 4) (mI 0)) 58 4 (nI (gN L + 1)), ?_, ?_, ?_⟩
  · unfold fX8_comes
    have e4 : ∀ (X : Mem) (v : Int32) (q : Nat), 16 ≤ q → wr X 58 q v 58 4 = X 58 4 := fun X v q hq => by rw [wr_app, if_pos rfl, if_neg (by omega)]
    have em : (-1 : Int32) = mI 0 := rfl
    simp (disch := omega) only [bde, bve, wme, ck_in, ck_b0, ck_b1, ck_bI, ix_nI, bI_0, bI_1, nI_1, lit_le, lit_lt, lit_eq, ↓reduceIte, ckl_4_56, ckl_0_56, ckl_3_56, ckl_1_56, ckl_5_56, ckl_2_56, ckl_1_2, ckl_0_2, ckl_0_256, ckl_0_8, ckl_33_34, ckl_32_34, ixl_0, ixl_1, ixl_2, ixl_3, ixl_4, ixl_5, ixl_8, ixl_10, ixl_32, ixl_33, ixl_40, h4, x8_at0, x8_at1, x8_at2, x8_at3, x8_at4, e4]
    rw [em]
  · exact rl_N (rl_Mt (rl_Nd (rl_Sg (rl_Su (rl_Kd hC hn k) hn s) hn g) hn d) hn 0) _
  · exact ((((((Sr.wr).tr Sr.wr).tr Sr.wr).tr Sr.wr).tr Sr.wr).tr Sr.wr)
theorem tw_person {S : Sta} (hW : WFS S) (x : Int32) : Two (fX7_person x) (fX8_person x) S := by
  cases hp : pIn 7 x
  · refine two_fd hW (i := 0) (by decide) (fun M h => ?_) (fun M h => ?_)
    · unfold fX7_person
      rw [show (6 : Int32) = nI 6 from rfl, x7_isWithin x M (by decide), hp, bde, ifF]
      exact fd7 0 M
    · unfold fX8_person
      rw [x8_isKind, hp, bde, ifF]
      exact fd8 0 M
  · obtain ⟨k, hk, rfl⟩ := pIn_ex hp (by decide)
    by_cases hn : gN (tLa S) = 8
    · refine two_fd hW (i := 1) (by decide) (fun M h => ?_) (fun M h => ?_)
      · unfold fX7_person
        rw [show (6 : Int32) = nI 6 from rfl, x7_isWithin _ M (by decide), hp, bde, ifT, x1_isFull h.1 hW.1, bde, decide_eq_true hn, ifT]
        exact fd7 1 M
      · unfold fX8_person
        have h4 : M 58 4 = nI 8 := by rw [← hn]; exact h.1.2.2.2.2.2.2.1
        rw [x8_isKind, hp, bde, ifT, ckl_4_56, ixl_4, h4, if_pos (show nI 8 = 8 from rfl)]
        exact fd8 1 M
    · have hn8 : gN (tLa S) < 8 := by have := hW.1.1; omega
      refine two_L hW (nI (gN (tLa S))) (comL (tLa S) k 0 3 0) (wf_com hW.1 hn8 (by omega) (by decide) (by decide) (by decide)) (fun M h => ?_) (fun M h => ?_)
      · obtain ⟨M1, e1, c1, s1⟩ := x1_add (k := k) h.1 hn8
        refine ⟨M1, ?_, c1, s1⟩
        unfold fX7_person
        rw [show (6 : Int32) = nI 6 from rfl, x7_isWithin _ M (by decide), hp, bde, ifT, x1_isFull h.1 hW.1, bde, decide_eq_false hn, ifF, e1, bde]
      · obtain ⟨M1, e1, c1, s1⟩ := x8_comes (k := k) (s := 0) (g := 3) (d := 0) h.1 hn8
        refine ⟨M1, ?_, c1, s1⟩
        unfold fX8_person
        have h4 : M 58 4 = nI (gN (tLa S)) := h.1.2.2.2.2.2.2.1
        rw [x8_isKind, hp, bde, ifT, ckl_4_56, ixl_4, h4, if_neg (by rw [q8 (by omega)]; exact hn)]
        have e1' : fX8_comes (nI k) 0 3 0 M = some (nI (gN (tLa S)), M1) := e1
        rw [e1', bde]
theorem pf_no {n c : Nat} {x : Int32} (h : pIn n x = false) (hc : c < n) (hn : n ≤ 2 ^ 31) : ¬ x = nI c := by
  intro e
  rw [e, pIn_t hc hn] at h
  cases h
theorem tw_light {S : Sta} (hW : WFS S) (x : Int32) : Two (fX7_light x) (fX8_light x) S := by
  cases hp : pIn 65536 x
  · refine two_fd hW (i := 0) (by decide) (fun M h => ?_) (fun M h => ?_)
    · unfold fX7_light
      rw [show (65535 : Int32) = nI 65535 from rfl, x7_isWithin x M (by decide), hp, bde, ifF]
      exact fd7 0 M
    · unfold fX8_light
      rw [x8_isHours, hp, bde, ifF]
      exact fd8 0 M
  · obtain ⟨k, hk, rfl⟩ := pIn_ex hp (by decide)
    have hL : WF (sL (tLa S) k) := by obtain ⟨a1, a2, a3, a4⟩ := hW.1; exact ⟨a1, a2, hk, a4⟩
    refine two_L hW (nI (gL (tLa S))) (sL (tLa S) k) hL (fun M h => ?_) (fun M h => ?_)
    · have h7 : M 1 7 = nI (gL (tLa S)) := h.1.2.2.2.2.2.2.2.1
      refine ⟨wr M 1 7 (nI k), ?_, cl_L h.1 k, Sm.wr (by omega) (by omega)⟩
      unfold fX7_light
      rw [show (65535 : Int32) = nI 65535 from rfl, x7_isWithin _ M (by decide), hp, bde, ifT, bve, wme, h7]
    · have h3 : M 58 3 = nI (gL (tLa S)) := h.1.2.2.2.2.2.2.2.1
      refine ⟨wr M 58 3 (nI k), ?_, rl_L h.1 k, Sr.wr⟩
      unfold fX8_light fX8_become
      rw [x8_isHours, hp, bde, ifT, ckl_3_56, bve, ckl_3_56, wme, ixl_3, bde, h3]
theorem tw_at {S : Sta} (hW : WFS S) (x : Int32) : Two (fX7_at x) (fX8_at_ x) S := by
  cases hp : pIn 17 x
  · refine two_fd hW (i := 0) (by decide) (fun M h => ?_) (fun M h => ?_)
    · unfold fX7_at
      rw [show (16 : Int32) = nI 16 from rfl, x7_isWithin x M (by decide), hp, bde, ifF]
      exact fd7 0 M
    · unfold fX8_at_
      rw [show (16 : Int32) = nI 16 from rfl, x8_within x M (by decide), hp, bde, ifF]
      exact fd8 0 M
  · obtain ⟨k, hk, rfl⟩ := pIn_ex hp (by decide)
    refine two_L hW (nI (gH (tLa S))) (sH (tLa S) k) (wf_H hW.1 (by omega)) (fun M h => ?_) (fun M h => ?_)
    · have h8 : M 1 8 = nI (gH (tLa S)) := h.1.2.2.2.2.2.2.2.2.1
      refine ⟨wr M 1 8 (nI k), ?_, cl_H h.1 k, Sm.wr (by omega) (by omega)⟩
      unfold fX7_at
      rw [show (16 : Int32) = nI 16 from rfl, x7_isWithin _ M (by decide), hp, bde, ifT, bve, wme, h8]
    · have h0 : M 58 0 = nI (gH (tLa S)) := h.1.2.2.2.2.2.2.2.2.1
      refine ⟨wr M 58 0 (nI k), ?_, rl_H h.1 k, Sr.wr⟩
      unfold fX8_at_ fX8_become
      rw [show (16 : Int32) = nI 16 from rfl, x8_within _ M (by decide), hp, bde, ifT, ckl_0_56, bve, ckl_0_56, wme, ixl_0, bde, h0]
theorem tw_seed {S : Sta} (hW : WFS S) (x : Int32) : Two (fX7_seed x) (fX8_seed x) S := by
  refine two_L hW (gDr (tLa S)) (sDr (tLa S) x) hW.1 (fun M h => ?_) (fun M h => ?_)
  · have h8 : M 1 11 = gDr (tLa S) := h.1.2.2.2.2.2.2.2.2.2.2.2
    refine ⟨wr M 1 11 x, ?_, cl_Dr h.1 x, Sm.wr (by omega) (by omega)⟩
    unfold fX7_seed
    rw [bve, wme, h8]
  · have h0 : M 58 5 = gDr (tLa S) := h.1.2.2.2.2.2.2.2.2.2.2.2
    refine ⟨wr M 58 5 x, ?_, rl_Dr h.1 x, Sr.wr⟩
    unfold fX8_seed fX8_become
    rw [ckl_5_56, bve, ckl_5_56, wme, ixl_5, bde, h0]
theorem tw_claim {S : Sta} (hW : WFS S) (x y : Int32) : Two (fX7_claim x y) (fX8_claim x y) S := by
  cases hp : pIn (gN (tLa S)) x
  · refine two_fd hW (i := 0) (by decide) (fun M h => ?_) (fun M h => ?_)
    · unfold fX7_claim fX7_claim_L20
      rw [x1_isPerson h.1 hW.1, hp, bde, ifF]
      exact fd7 0 M
    · unfold fX8_claim fX8_claim_L27
      rw [x8_isPerson h.1 hW.1, hp, bde, ifF]
      exact fd8 0 M
  · cases hq : pIn 16 y
    · refine two_fd hW (i := 0) (by decide) (fun M h => ?_) (fun M h => ?_)
      · unfold fX7_claim fX7_claim_L20
        rw [x1_isPerson h.1 hW.1, hp, bde, ifT, show (15 : Int32) = nI 15 from rfl, x7_isWithin _ M (by decide), hq, bde, ifF]
        exact fd7 0 M
      · unfold fX8_claim fX8_claim_L27
        rw [x8_isPerson h.1 hW.1, hp, bde, ifT, show (15 : Int32) = nI 15 from rfl, x8_within _ M (by decide), hq, bde, ifF]
        exact fd8 0 M
    · have hn := hW.1.1
      obtain ⟨p, hpn, rfl⟩ := pIn_ex hp (by omega)
      obtain ⟨q, hqn, rfl⟩ := pIn_ex hq (by decide)
      refine two_q0 hW (nI (claimN (tLa S) p q)) (fun M h => ?_) (fun M h => ?_)
      · unfold fX7_claim
        rw [x1_isPerson h.1 hW.1, hp, bde, ifT, show (15 : Int32) = nI 15 from rfl, x7_isWithin _ M (by decide), hq, bde, ifT, x1_claimOf h.1 hW.1 hpn (by omega), bde]
      · unfold fX8_claim
        rw [x8_isPerson h.1 hW.1, hp, bde, ifT, show (15 : Int32) = nI 15 from rfl, x8_within _ M (by decide), hq, bde, ifT, x8_claimOf h.1 hW.1 hpn (by omega), bde]
theorem tw_met {S : Sta} (hW : WFS S) (x : Int32) : Two (fX7_met x) (fX8_met x) S := by
  cases hp : pIn (gN (tLa S)) x
  · refine two_fd hW (i := 0) (by decide) (fun M h => ?_) (fun M h => ?_)
    · unfold fX7_met
      rw [x1_isPerson h.1 hW.1, hp, bde, ifF]
      exact fd7 0 M
    · unfold fX8_met
      rw [x8_isPerson h.1 hW.1, hp, bde, ifF]
      exact fd8 0 M
  · have hn := hW.1.1
    obtain ⟨p, hpn, rfl⟩ := pIn_ex hp (by omega)
    refine two_q hW (nI (metR (tLa S) p)) (fun M h => ?_) (fun M h => ?_)
    · obtain ⟨M1, e1, c1, s1⟩ := x4_see h.1 hW.1 (by decide)
      refine ⟨M1, ?_, FC.ofR s1⟩
      unfold fX7_met
      rw [x1_isPerson h.1 hW.1, hp, bde, ifT, e1, bde, x4_metOf c1 hW.1 hpn, bde]
    · obtain ⟨M1, e1, c1, a, b, c, d, f⟩ := x8_findRest h.1 hW.1 hpn
      refine ⟨M1, ?_, c1, f⟩
      unfold fX8_met
      rw [x8_isPerson h.1 hW.1, hp, bde, ifT, e1, bde, c]
theorem tw_shade {S : Sta} (hW : WFS S) (x : Int32) : Two (fX7_shade x) (fX8_shade x) S := by
  cases hp : pIn (gN (tLa S)) x
  · refine two_fd hW (i := 0) (by decide) (fun M h => ?_) (fun M h => ?_)
    · unfold fX7_shade
      rw [x1_isPerson h.1 hW.1, hp, bde, ifF]
      exact fd7 0 M
    · unfold fX8_shade
      rw [x8_isPerson h.1 hW.1, hp, bde, ifF]
      exact fd8 0 M
  · have hn := hW.1.1
    obtain ⟨p, hpn, rfl⟩ := pIn_ex hp (by omega)
    refine two_q hW (nI (shdN (tLa S) p)) (fun M h => ?_) (fun M h => ?_)
    · obtain ⟨M1, e1, c1, s1⟩ := x4_see h.1 hW.1 (by decide)
      refine ⟨M1, ?_, FC.ofR s1⟩
      unfold fX7_shade
      rw [x1_isPerson h.1 hW.1, hp, bde, ifT, e1, bde, x4_shadeOf c1 hW.1 hpn, bde]
    · obtain ⟨M1, e1, c1, a, b, c, d, f⟩ := x8_findRest h.1 hW.1 hpn
      refine ⟨M1, ?_, c1, f⟩
      unfold fX8_shade
      rw [x8_isPerson h.1 hW.1, hp, bde, ifT, e1, bde, b]
theorem tw_tan {S : Sta} (hW : WFS S) (x : Int32) : Two (fX7_tan x) (fX8_tan x) S := by
  cases hp : pIn (gN (tLa S)) x
  · refine two_fd hW (i := 0) (by decide) (fun M h => ?_) (fun M h => ?_)
    · unfold fX7_tan
      rw [x1_isPerson h.1 hW.1, hp, bde, ifF]
      exact fd7 0 M
    · unfold fX8_tan
      rw [x8_isPerson h.1 hW.1, hp, bde, ifF]
      exact fd8 0 M
  · have hn := hW.1.1
    obtain ⟨p, hpn, rfl⟩ := pIn_ex hp (by omega)
    refine two_q hW (nI (gSu (hrsN (16 - gH (tLa S)) (tLa S)) p)) (fun M h => ?_) (fun M h => ?_)
    · obtain ⟨M1, e1, c1, s1⟩ := x4_see h.1 hW.1 (by decide)
      refine ⟨M1, ?_, FC.ofR s1⟩
      unfold fX7_tan
      rw [x1_isPerson h.1 hW.1, hp, bde, ifT, e1, bde, x4_sunOf c1 hW.1 hpn, bde]
    · obtain ⟨M1, e1, c1, a, b, c, d, f⟩ := x8_findRest h.1 hW.1 hpn
      refine ⟨M1, ?_, c1, f⟩
      unfold fX8_tan
      rw [x8_isPerson h.1 hW.1, hp, bde, ifT, e1, bde, d]
theorem tw_all {S : Sta} (hW : WFS S) : Two fX7_all fX8_all S := by
  refine two_q hW (nI (smN (metR (tLa S)) (gN (tLa S)))) (fun M h => ?_) (fun M h => ?_)
  · obtain ⟨M1, e1, c1, s1⟩ := x4_see h.1 hW.1 (by decide)
    refine ⟨M1, ?_, FC.ofR s1⟩
    unfold fX7_all
    rw [e1, bde, x4_metOfAll c1 hW.1, bde]
  · obtain ⟨M1, e1, c1, f⟩ := x8_metByAll h.1 hW.1
    refine ⟨M1, ?_, c1, f⟩
    unfold fX8_all
    rw [e1, bde]

/-! as, wipe, image, undo, tear, status, count, feed -/
/-- a kind is of a kind -/
def upK (k : Nat) : Nat := if k = 0 then 0 else if k = 3 then 3 else if k = 4 then 4 else if k = 6 then 2 else 1
def knd (w : Nat) : Nat → Nat → Bool
  | 0, _ => false
  | n + 1, m => if m = 0 then false else if m = w + 1 then true else knd w n (upK (m - 1))
theorem und_e {k : Nat} (h : k < 7) : und k = mI (upK k) := by
  have : ∀ k, k < 7 → und k = mI (upK k) := by decide +kernel
  exact this k h
theorem upK_lt {k : Nat} (h : k < 7) : upK k < 8 := by unfold upK; split <;> (try split) <;> (try split) <;> (try split) <;> omega
theorem x8_above {k : Nat} (h : k < 7) (M : Mem) : fX8_above (nI k) M = some (mI (upK k), M) := by
  unfold fX8_above
  rcases (show k = 0 ∨ k = 1 ∨ k = 2 ∨ k = 3 ∨ k = 4 ∨ k = 5 ∨ k = 6 by omega) with rfl | rfl | rfl | rfl | rfl | rfl | rfl <;> rfl
theorem mI_cases {m : Nat} (h : m < 8) : (m = 0 ∧ mI m = -1) ∨ (∃ j, j < 7 ∧ m = j + 1 ∧ mI m = nI j) := by
  rcases Nat.eq_zero_or_pos m with h0 | h0
  · exact Or.inl ⟨h0, by rw [h0]; rfl⟩
  · exact Or.inr ⟨m - 1, by omega, by omega, mI_pos h0⟩
theorem knd_up : ∀ w, w < 7 → ∀ k, k < 7 → ∀ c, c < 8 → knd w (7 - c) (k + 1) = knd w 7 (k + 1) ∨ c ≥ 4 := by decide +kernel
theorem x1_kind20 {M : Mem} {b w : Nat} (hw : w < 7) : ∀ (f n m c : Nat), m < 8 → c + f = 7 → f < n → fX1_isOfKind_L20 b n (nI w) (mI m) (nI c) M = some (bI (knd w f m), M) := by
  intro f
  induction f with
  | zero =>
    intro n m c hm hc hn
    obtain ⟨n, rfl⟩ : ∃ k, n = k + 1 := ⟨n - 1, by omega⟩
    rw [fX1_isOfKind_L20, if_pos (by rw [show (7 : Int32) = nI 7 from rfl, lit_le (by omega) (by omega)]; omega), ck_b0]
    rfl
  | succ f ih =>
    intro n m c hm hc hn
    obtain ⟨n, rfl⟩ : ∃ k, n = k + 1 := ⟨n - 1, by omega⟩
    rw [fX1_isOfKind_L20, if_neg (by rw [show (7 : Int32) = nI 7 from rfl, lit_le (by omega) (by omega)]; omega)]
    rcases mI_cases hm with ⟨rfl, e⟩ | ⟨j, hj, rfl, e⟩
    · have hf : pIn 7 (mI 0) = false := by rfl
      rw [if_neg (by rw [eq_comm, e, ← show mI 0 = -1 from rfl]; intro q; have := congrArg (pIn 7) q; rw [pIn_t hw (by decide), hf] at this; cases this), w7_7, hf, bde, ifF, ck_b0]
      rfl
    · rw [e]
      by_cases q : j = w
      · rw [if_pos (by rw [q]), ck_b1, q]
        show some (bI true, M) = some (bI (if w + 1 = 0 then false else if w + 1 = w + 1 then true else _), M)
        rw [if_neg (by omega), if_pos rfl]
      · rw [if_neg (by rw [lit_eq (by omega) (by omega)]; exact q), w7_7, pIn_t hj (by decide), bde, ifT, ck_in hj (by decide), ix_nI (by omega), bve, bve, und_e hj, ad1, ih n (upK j) (c + 1) (upK_lt hj) (by omega) (by omega)]
        show _ = some (bI (if j + 1 = 0 then false else if j + 1 = w + 1 then true else knd w f (upK (j + 1 - 1))), M)
        rw [if_neg (by omega), if_neg (by omega), Nat.add_sub_cancel]
theorem x1_isOfKind {M : Mem} {b p w : Nat} {L : Lan} (hC : CLn M b L) (hW : WF L) (hp : p < gN L) (hw : w < 7) : fX1_isOfKind b (nI p) (nI w) M = some (bI (knd w 7 (gKd L p + 1)), M) := by
  have hn := hW.1
  have hk := (hW.2.2.2.1 p (by omega)).1
  unfold fX1_isOfKind
  rw [x1_isPerson hC hW, pIn_t hp (by omega), bde, ifT, ck_in (by omega) (by decide), ix_nI (by omega), hC.1 p (by omega), bve, nI_mI (gKd L p)]
  exact x1_kind20 hw 7 fu (gKd L p + 1) 0 (by omega) (by omega) (by show _ < 2000; omega)
theorem knd_deep : ∀ w, w < 7 → ∀ m, m < 8 → knd w 5 m = knd w 7 m := by decide +kernel
theorem upK_d : ∀ m, m < 8 → m ≠ 0 → upK (m - 1) = 0 ∨ upK (m - 1) < m := by decide +kernel
theorem x8_under2 {M : Mem} {w : Nat} (hw : w < 7) : ∀ (f n m : Nat), m ≤ f → m < 8 → f < n → fX8_isUnder_L2 n (nI w) (mI m) M = some (bI (knd w (f + 1) m), M) := by
  intro f
  induction f with
  | zero =>
    intro n m hm h8 hn
    obtain ⟨n, rfl⟩ : ∃ k, n = k + 1 := ⟨n - 1, by omega⟩
    have : m = 0 := by omega
    subst this
    rw [fX8_isUnder_L2, if_pos (by decide)]
    unfold fX8_isUnder_L19
    rw [if_pos (by decide), ck_b0]
    rfl
  | succ f ih =>
    intro n m hm h8 hn
    obtain ⟨n, rfl⟩ : ∃ k, n = k + 1 := ⟨n - 1, by omega⟩
    rw [fX8_isUnder_L2]
    rcases mI_cases h8 with ⟨rfl, e⟩ | ⟨j, hj, rfl, e⟩
    · rw [if_pos (by decide)]
      unfold fX8_isUnder_L19
      rw [if_pos (by decide), ck_b0]
      rfl
    · rw [e]
      have h0 : ¬ nI j < 0 := nI_pos (by omega)
      rw [if_neg h0]
      by_cases q : j = w
      · rw [if_pos (by rw [q])]
        unfold fX8_isUnder_L19
        rw [if_neg h0, ck_b1, q]
        show some (bI true, M) = some (bI (if w + 1 = 0 then false else if w + 1 = w + 1 then true else _), M)
        rw [if_neg (by omega), if_pos rfl]
      · rw [if_neg (by rw [lit_eq (by omega) (by omega)]; exact q), x8_above hj, bde]
        have hd := upK_d (j + 1) (by omega) (by omega)
        rw [Nat.add_sub_cancel] at hd
        rw [ih n (upK j) (by omega) (upK_lt hj) (by omega)]
        show _ = some (bI (if j + 1 = 0 then false else if j + 1 = w + 1 then true else knd w (f + 1) (upK (j + 1 - 1))), M)
        rw [if_neg (by omega), if_neg (by omega), Nat.add_sub_cancel]
theorem knd_8 : ∀ w, w < 7 → ∀ m, m < 8 → knd w 8 m = knd w 7 m := by decide +kernel
theorem x8_isUnder {M : Mem} {w k : Nat} (hw : w < 7) (hk : k < 7) : fX8_isUnder (nI k) (nI w) M = some (bI (knd w 7 (k + 1)), M) := by
  unfold fX8_isUnder
  rw [nI_mI k, ← knd_8 w hw (k + 1) (by omega)]
  exact x8_under2 hw 7 fu (k + 1) (by omega) (by omega) (by show _ < 2000; omega)
theorem mI_ge0 {m : Nat} (h : m < 2 ^ 30) : (0 ≤ mI m) = (m ≠ 0) := by
  apply propext
  rw [Int32.le_iff_toInt_le, mI_toInt h]
  show (0 : Int) ≤ _ ↔ _
  omega
theorem tw_as {S : Sta} (hW : WFS S) (x y : Int32) : Two (fX7_as x y) (fX8_as x y) S := by
  have hn := hW.1.1
  have bad : (∀ M, AC M S → fX7_as x y M = fX7_as_L18 M) → (∀ M, AR M S → fX8_as x y M = fX8_as_L14 M) → Two (fX7_as x y) (fX8_as x y) S := fun a b =>
    two_fd hW (i := 0) (by decide) (fun M h => by rw [a M h]; exact fd7 0 M) (fun M h => by rw [b M h]; exact fd8 0 M)
  cases hp : pIn 10 x
  · refine bad (fun M h => ?_) (fun M h => ?_)
    · unfold fX7_as
      rw [w8_10, hp, bde, ifF]
    · unfold fX8_as
      rw [x8_isSpot, hp, bde, ifF]
  cases hq : pIn 7 y
  · refine bad (fun M h => ?_) (fun M h => ?_)
    · unfold fX7_as
      rw [w8_10, hp, bde, ifT, w7_7, hq, bde, ifF]
    · unfold fX8_as
      rw [x8_isSpot, hp, bde, ifT, x8_isKind, hq, bde, ifF]
  obtain ⟨i, hi, rfl⟩ := pIn_ex hp (by decide)
  obtain ⟨w, hw, rfl⟩ := pIn_ex hq (by decide)
  have r7 : ∀ M, AC M S → fX7_as (nI i) (nI w) M = (if mI (gSp (tLa S) i) = (-1) then (bd (fX7_found 5 M) fun r11 M10 => (some (r11, M10))) else (bd (fX1_isOfKind 1 (mI (gSp (tLa S) i)) (nI w) M) fun r7 M6 => (if r7 = 0 then (bd (fX7_found 2 M6) fun r9 M8 => (some (r9, M8))) else (some (mI (gSp (tLa S) i), M6))))) := by
    intro M h
    unfold fX7_as
    rw [w8_10, hp, bde, ifT, w7_7, hq, bde, ifT, ck_in hi (by decide), ix_nI (by omega), h.1.2.2.2.2.2.1 i hi, bve]
  have r8 : ∀ M, AR M S → fX8_as (nI i) (nI w) M = (if 0 ≤ mI (gSp (tLa S) i) then (bd (fX8_personIs (mI (gSp (tLa S) i)) 0 M) fun r7 M6 => (bd (fX8_isUnder r7 (nI w) M6) fun r9 M8 => (if r9 = 0 then (bd (fX8_finding (-1000003) M8) fun r11 M10 => (some (r11, M10))) else (some (mI (gSp (tLa S) i), M8))))) else (bd (fX8_finding (-1000006) M) fun r13 M12 => (some (r13, M12)))) := by
    intro M h
    unfold fX8_as
    rw [x8_isSpot, hp, bde, ifT, x8_isKind, hq, bde, ifT, show (6 : Int32) + nI i = nI (6 + i) from nI_add 6 i, ck_in (by omega) (by decide), ix_nI (by omega), h.1.2.2.2.2.2.1 i hi, bve]
  have hs := hW.1.2.2.2.2.2 i hi
  by_cases z : gSp (tLa S) i = 0
  · refine two_fd hW (i := 5) (by decide) (fun M h => ?_) (fun M h => ?_)
    · rw [r7 M h, if_pos (by rw [mI_m1 (by omega)]; exact z)]; exact fd7 5 M
    · rw [r8 M h, if_neg (by rw [mI_ge0 (by omega)]; exact fun q => q z)]; exact fd8 5 M
  · obtain ⟨p, hpe⟩ : ∃ p, gSp (tLa S) i = p + 1 := ⟨gSp (tLa S) i - 1, by omega⟩
    have hpn : p < gN (tLa S) := by omega
    have hk := (hW.1.2.2.2.1 p (by omega)).1
    have q7 : ∀ M, AC M S → fX7_as (nI i) (nI w) M = (if bI (knd w 7 (gKd (tLa S) p + 1)) = 0 then (bd (fX7_found 2 M) fun r9 M8 => (some (r9, M8))) else (some (nI p, M))) := by
      intro M h
      rw [r7 M h, if_neg (by rw [mI_m1 (by omega)]; exact z), hpe, mI_s, x1_isOfKind h.1 hW.1 hpn hw, bde]
    have q8 : ∀ M, AR M S → fX8_as (nI i) (nI w) M = (if bI (knd w 7 (gKd (tLa S) p + 1)) = 0 then (bd (fX8_finding (-1000003) M) fun r9 M8 => (some (r9, M8))) else (some (nI p, M))) := by
      intro M h
      rw [r8 M h, if_pos (by rw [mI_ge0 (by omega)]; exact z), hpe, mI_s, x8_Kd h.1 (by omega), bde, x8_isUnder hw (by omega), bde]
    cases hb : knd w 7 (gKd (tLa S) p + 1)
    · refine two_fd hW (i := 2) (by decide) (fun M h => ?_) (fun M h => ?_)
      · rw [q7 M h, hb, ifF]; exact fd7 2 M
      · rw [q8 M h, hb, ifF]; exact fd8 2 M
    · refine two_q0 hW (nI p) (fun M h => ?_) (fun M h => ?_)
      · rw [q7 M h, hb, ifT]
      · rw [q8 M h, hb, ifT]
theorem tw_wipe {S : Sta} (hW : WFS S) : Two fX7_wipe fX8_wipe S := by
  obtain ⟨w1, w2, w3, w4, w5⟩ := hW
  refine ⟨nI (tTl S), wTl S 0, fun M h => ?_, fun M h => ?_, ⟨w1, w2, Nat.zero_le _, w4, w5⟩⟩
  · obtain ⟨h1, h2, h3, h4, h5, h6, h7⟩ := h
    refine ⟨wr M 34 1 (nI 0), ?_, ⟨cl_same h1 (fun k _ _ => wr_n _ _ _ _ (by omega)), fun hk => cl_same (h2 hk) (fun k _ _ => wr_n _ _ _ _ (by omega)), by rw [wr_n _ _ _ _ (by omega)]; exact h3, fun j hj => absurd hj (Nat.not_lt_zero _), by rw [wr_app, if_pos rfl, if_pos rfl]; rfl, fun s hs => ?_, fun q hq => by rw [wr_n _ _ _ _ (by omega)]; exact h7 q hq⟩, fun k hk => wr_n _ _ _ _ (by omega)⟩
    · unfold fX7_wipe
      rw [bve, wme, h5]
      rfl
    · obtain ⟨g1, g2, g3⟩ := h6 s hs
      exact ⟨by rw [wr_n _ _ _ _ (by omega)]; exact g1, by rw [wr_n _ _ _ _ (by omega)]; exact g2, fun j hj => by rw [wr_n _ _ _ _ (by omega)]; exact g3 j hj⟩
  · obtain ⟨h1, h2, h3, h4, h5, h6, h7, h8⟩ := h
    refine ⟨wr M 57 15 (nI 0), ?_, ⟨rl_same h1 (wr_n _ _ _ _ (by omega)), fun hk => rl_same (h2 hk) (wr_n _ _ _ _ (by omega)), by rw [wr_app, if_pos rfl, if_neg (by omega)]; exact h3, fun j hj => absurd hj (Nat.not_lt_zero _), by rw [wr_app, if_pos rfl, if_pos rfl]; rfl, fun s hs => ?_, fun q hq => by rw [wr_n _ _ _ _ (by omega)]; exact h7 q hq, by rw [wr_n _ _ _ _ (by omega)]; exact h8⟩, fun k hk => wr_n _ _ _ _ (by omega)⟩
    · unfold fX8_wipe
      rw [bve, wme, h5]
      rfl
    · obtain ⟨g1, g2, g3⟩ := h6 s hs
      exact ⟨by rw [wr_n _ _ _ _ (by omega)]; exact g1, by rw [wr_n _ _ _ _ (by omega)]; exact g2, fun j hj => by rw [wr_n _ _ _ _ (by omega)]; exact g3 j hj⟩
/-- the image's flag -/
theorem AC.flag {M : Mem} {S : Sta} {b : Bool} (h : AC M S) (hk : b = true → CLn M 8 (tKe S)) : AC (wr M 0 9 (bI b)) (wKf S b) := by
  obtain ⟨h1, h2, h3, h4, h5, h6, h7⟩ := h
  refine ⟨cl_same h1 (fun k _ _ => wr_n _ _ _ _ (by omega)), fun e => cl_same (hk e) (fun k _ _ => wr_n _ _ _ _ (by omega)), by rw [wr_app, if_pos rfl, if_pos rfl]; rfl, fun j hj => by rw [wr_n _ _ _ _ (by omega)]; exact h4 j hj, by rw [wr_n _ _ _ _ (by omega)]; exact h5, fun s hs => ?_, fun q hq => by rw [wr_n _ _ _ _ (by omega)]; exact h7 q hq⟩
  obtain ⟨g1, g2, g3⟩ := h6 s hs
  exact ⟨by rw [wr_n _ _ _ _ (by omega)]; exact g1, by rw [wr_n _ _ _ _ (by omega)]; exact g2, fun j hj => by rw [wr_n _ _ _ _ (by omega)]; exact g3 j hj⟩
theorem AR.flag {M : Mem} {S : Sta} {b : Bool} (h : AR M S) (hk : b = true → RLn M 59 (tKe S)) : AR (wr M 57 3 (bI b)) (wKf S b) := by
  obtain ⟨h1, h2, h3, h4, h5, h6, h7, h8⟩ := h
  refine ⟨rl_same h1 (wr_n _ _ _ _ (by omega)), fun e => rl_same (hk e) (wr_n _ _ _ _ (by omega)), by rw [wr_app, if_pos rfl, if_pos rfl]; rfl, fun j hj => by rw [wr_n _ _ _ _ (by omega)]; exact h4 j hj, by rw [wr_app, if_pos rfl, if_neg (by omega)]; exact h5, fun s hs => ?_, fun q hq => by rw [wr_n _ _ _ _ (by omega)]; exact h7 q hq, by rw [wr_n _ _ _ _ (by omega)]; exact h8⟩
  obtain ⟨g1, g2, g3⟩ := h6 s hs
  exact ⟨by rw [wr_n _ _ _ _ (by omega)]; exact g1, by rw [wr_n _ _ _ _ (by omega)]; exact g2, fun j hj => by rw [wr_n _ _ _ _ (by omega)]; exact g3 j hj⟩
theorem AC.kept {M M1 : Mem} {S : Sta} {L : Lan} (h : AC M S) (hL : CLn M1 8 L) (f : Sm 8 M M1) : AC M1 (wKe S L) := by
  obtain ⟨h1, h2, h3, h4, h5, h6, h7⟩ := h
  refine ⟨cl_same h1 (fun k _ _ => f k (by omega)), fun _ => hL, by rw [f 0 (by omega)]; exact h3, fun i hi => by rw [f 35 (by omega)]; exact h4 i hi, by rw [f 34 (by omega)]; exact h5, fun s hs => ?_, fun q hq => by rw [f 56 (by omega)]; exact h7 q hq⟩
  obtain ⟨g1, g2, g3⟩ := h6 s hs
  exact ⟨by rw [f _ (by omega)]; exact g1, by rw [f _ (by omega)]; exact g2, fun i hi => by rw [f _ (by omega)]; exact g3 i hi⟩
theorem AR.kept {M M1 : Mem} {S : Sta} {L : Lan} (h : AR M S) (hL : RLn M1 59 L) (f : ∀ k, k ≠ 59 → M1 k = M k) : AR M1 (wKe S L) := by
  obtain ⟨h1, h2, h3, h4, h5, h6, h7, h8⟩ := h
  refine ⟨rl_same h1 (f 58 (by omega)), fun _ => hL, by rw [f 57 (by omega)]; exact h3, fun i hi => by rw [f 66 (by omega)]; exact h4 i hi, by rw [f 57 (by omega)]; exact h5, fun s hs => ?_, fun q hq => by rw [f 61 (by omega)]; exact h7 q hq, by rw [f 61 (by omega)]; exact h8⟩
  obtain ⟨g1, g2, g3⟩ := h6 s hs
  exact ⟨by rw [f _ (by omega)]; exact g1, by rw [f _ (by omega)]; exact g2, fun i hi => by rw [f _ (by omega)]; exact g3 i hi⟩
theorem tw_image {S : Sta} (hW : WFS S) : Two fX7_image fX8_image S := by
  obtain ⟨w1, w2, w3⟩ := hW
  refine ⟨1, wKf (wKe S (tLa S)) true, fun M h => ?_, fun M h => ?_, ⟨w1, fun _ => w1, w3⟩⟩
  · obtain ⟨M1, e1, c1, s1⟩ := x1_become (b := 8) h.1 (by omega)
    refine ⟨wr M1 0 9 (bI true), ?_, (h.kept c1 s1).flag (fun _ => c1), fun k hk => by rw [wr_n _ _ _ _ (by omega)]; exact s1 k (by omega)⟩
    unfold fX7_image
    rw [e1, bde, ck_b1, wme]
    rfl
  · obtain ⟨M1, e1, c1, s1⟩ := x8_copyRow (d1 := 58) (d2 := 59) (by decide) M
    have c2 := rl_copy h.1 c1
    refine ⟨wr M1 57 3 (bI true), ?_, (h.kept c2 s1).flag (fun _ => c2), fun k hk => by rw [wr_n _ _ _ _ (by omega)]; exact s1 k (by omega)⟩
    unfold fX8_image
    rw [e1, bde, ck_b1, wme]
    rfl
theorem tw_undo {S : Sta} (hW : WFS S) : Two fX7_undo fX8_undo S := by
  cases hk : tKf S
  · refine two_fd hW (i := 3) (by decide) (fun M h => ?_) (fun M h => ?_)
    · unfold fX7_undo
      rw [h.2.2.1, hk, ifF]; exact fd7 3 M
    · unfold fX8_undo
      rw [h.2.2.1, hk, ifF]; exact fd8 3 M
  · refine two_L hW (nI (gH (tKe S))) (tKe S) (hW.2.1 hk) (fun M h => ?_) (fun M h => ?_)
    · obtain ⟨M1, e1, c1, s1⟩ := x1_become (b := 1) (h.2.1 hk) (by omega)
      have g : M1 1 8 = nI (gH (tKe S)) := c1.2.2.2.2.2.2.2.2.1
      refine ⟨M1, ?_, c1, s1⟩
      unfold fX7_undo
      rw [h.2.2.1, hk, ifT, e1, bde, g]
    · obtain ⟨M1, e1, c1, s1⟩ := x8_copyRow (d1 := 59) (d2 := 58) (by decide) M
      have c2 := rl_copy (h.2.1 hk) c1
      have g : M1 58 0 = nI (gH (tKe S)) := c2.2.2.2.2.2.2.2.2.1
      refine ⟨M1, ?_, c2, s1⟩
      unfold fX8_undo
      rw [h.2.2.1, hk, ifT, e1, bde, ckl_0_56, ixl_0, g]
theorem tw_tear {S : Sta} (hW : WFS S) : Two fX7_tear fX8_tear S := by
  obtain ⟨w1, w2, w3⟩ := hW
  refine ⟨bI (tKf S), wKf S false, fun M h => ?_, fun M h => ?_, ⟨w1, fun e => (by cases e), w3⟩⟩
  · refine ⟨wr M 0 9 (bI false), ?_, h.flag (fun e => by cases e), fun k hk => wr_n _ _ _ _ (by omega)⟩
    unfold fX7_tear fX7_tear_L12
    rw [h.2.2.1, ck_b0, wme, wme]
    cases tKf S <;> rfl
  · refine ⟨wr M 57 3 (bI false), ?_, h.flag (fun e => by cases e), fun k hk => wr_n _ _ _ _ (by omega)⟩
    unfold fX8_tear fX8_tear_L12
    rw [h.2.2.1, ck_b0, wme, wme]
    cases tKf S <;> rfl

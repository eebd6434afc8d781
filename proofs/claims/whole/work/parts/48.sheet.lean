/-! sheet, write -/
def setS (S : Sta) (s b l : Nat) (f : Nat → Int32) : Sta := wSn (wSl (wSb S (uf (tSb S) s b)) (uf (tSl S) s l)) (fun t i => if t = s then f i else tSn S t i)
theorem wfs_set {S : Sta} (hW : WFS S) {s b l : Nat} {f : Nat → Int32} (hb : b = 0 ∨ b = 8 ∨ b = 16 ∨ b = 32) (hl : l ≤ 40) : WFS (setS S s b l f) := by
  obtain ⟨w1, w2, w3, w4, w5⟩ := hW
  refine ⟨w1, w2, w3, w4, fun t ht => ?_⟩
  obtain ⟨a1, a2⟩ := w5 t ht
  show (uf (tSb S) s b t = 0 ∨ uf (tSb S) s b t = 8 ∨ uf (tSb S) s b t = 16 ∨ uf (tSb S) s b t = 32) ∧ uf (tSl S) s l t ≤ 40
  unfold uf
  by_cases e : t = s
  · simp only [if_pos e]; exact ⟨hb, hl⟩
  · simp only [if_neg e]; exact ⟨a1, a2⟩
theorem AC.set {M M1 : Mem} {S : Sta} {s b l : Nat} {f : Nat → Int32} (h : AC M S) (hs : s < 4) (hf : ∀ k, k ≠ 48 + 2 * s → k ≠ 48 + 2 * s + 1 → M1 k = M k) (h1 : M1 (48 + 2 * s) 1 = nI b) (h2 : M1 (48 + 2 * s) 2 = nI l) (h3 : ∀ i, i < 40 → M1 (48 + 2 * s + 1) i = f i) : AC M1 (setS S s b l f) := by
  obtain ⟨a1, a2, a3, a4, a5, a6, a7⟩ := h
  refine ⟨cl_same a1 (fun k _ _ => hf k (by omega) (by omega)), fun hk => cl_same (a2 hk) (fun k _ _ => hf k (by omega) (by omega)), by rw [hf 0 (by omega) (by omega)]; exact a3, fun i hi => by rw [hf 35 (by omega) (by omega)]; exact a4 i hi, by rw [hf 34 (by omega) (by omega)]; exact a5, fun t ht => ?_, fun q hq => by rw [hf 56 (by omega) (by omega)]; exact a7 q hq⟩
  show M1 (48 + 2 * t) 1 = nI (uf (tSb S) s b t) ∧ M1 (48 + 2 * t) 2 = nI (uf (tSl S) s l t) ∧ ∀ i, i < 40 → M1 (48 + 2 * t + 1) i = if t = s then f i else tSn S t i
  unfold uf
  by_cases e : t = s
  · simp only [if_pos e]; rw [e]; exact ⟨h1, h2, h3⟩
  · obtain ⟨g1, g2, g3⟩ := a6 t ht
    simp only [if_neg e]
    rw [hf (48 + 2 * t) (by omega) (by omega), hf (48 + 2 * t + 1) (by omega) (by omega)]
    exact ⟨g1, g2, g3⟩
theorem AR.set {M M1 : Mem} {S : Sta} {s b l : Nat} {f : Nat → Int32} (h : AR M S) (hs : s < 4) (hf : ∀ k, k ≠ 69 → k ≠ 70 → k ≠ 71 → k ≠ 72 → M1 k = M k) (h1 : ∀ t, t < 4 → M1 69 t = if t = s then nI b else M 69 t) (h2 : ∀ t, t < 4 → M1 70 t = if t = s then nI l else M 70 t) (h3 : ∀ t i, t < 4 → i < 40 → M1 71 (40 * t + i) = if t = s then f i else M 71 (40 * t + i)) : AR M1 (setS S s b l f) := by
  obtain ⟨a1, a2, a3, a4, a5, a6, a7, a8⟩ := h
  refine ⟨rl_same a1 (hf 58 (by omega) (by omega) (by omega) (by omega)), fun hk => rl_same (a2 hk) (hf 59 (by omega) (by omega) (by omega) (by omega)), by rw [hf 57 (by omega) (by omega) (by omega) (by omega)]; exact a3, fun i hi => by rw [hf 66 (by omega) (by omega) (by omega) (by omega)]; exact a4 i hi, by rw [hf 57 (by omega) (by omega) (by omega) (by omega)]; exact a5, fun t ht => ?_, fun q hq => by rw [hf 61 (by omega) (by omega) (by omega) (by omega)]; exact a7 q hq, by rw [hf 61 (by omega) (by omega) (by omega) (by omega)]; exact a8⟩
  show M1 69 t = nI (uf (tSb S) s b t) ∧ M1 70 t = nI (uf (tSl S) s l t) ∧ ∀ i, i < 40 → M1 71 (40 * t + i) = if t = s then f i else tSn S t i
  obtain ⟨g1, g2, g3⟩ := a6 t ht
  rw [h1 t ht, h2 t ht]
  unfold uf
  by_cases e : t = s
  · simp only [if_pos e]; exact ⟨trivial, trivial, fun i hi => by rw [h3 t i ht hi, if_pos e]⟩
  · simp only [if_neg e]
    exact ⟨g1, g2, fun i hi => by rw [h3 t i ht hi, if_neg e]; exact g3 i hi⟩
theorem x7_isSheet (x : Int32) (M : Mem) : fX7_isSheet x M = some (bI (pIn 4 x), M) := by
  unfold fX7_isSheet
  rw [show (3 : Int32) = nI 3 from rfl, x7_isWithin x M (by decide), bde, ck_bI]
theorem x8_isSheet (x : Int32) (M : Mem) : fX8_isSheet x M = some (bI (pIn 4 x), M) := by
  unfold fX8_isSheet
  rw [show (3 : Int32) = nI 3 from rfl, x8_within x M (by decide), bde, ck_bI]
theorem x5_renew29 {b : Nat} : ∀ (n k : Nat) (M : Mem), k ≤ 40 → 40 - k < n → ∃ M1, fX5_renew_L29 b n (nI k) M = some ((), M1) ∧ (∀ q, q ≠ b + 1 → M1 q = M q) ∧ (∀ i, k ≤ i → i < 40 → M1 (b + 1) i = 0) ∧ (∀ i, i < k → M1 (b + 1) i = M (b + 1) i) := by
  intro n
  induction n with
  | zero => intro k M _ h2; omega
  | succ n ih =>
    intro k M hk hn
    rw [fX5_renew_L29]
    by_cases e : 40 ≤ k
    · exact ⟨M, by rw [if_pos (by rw [ge40 (by omega)]; exact e)], fun _ _ => rfl, fun i h1 h2 => by omega, fun _ _ => rfl⟩
    · obtain ⟨M1, e1, s1, z1, y1⟩ := ih (k + 1) (wr M (b + 1) k 0) (by omega) (by omega)
      refine ⟨M1, ?_, fun q hq => by rw [s1 q hq, wr_n _ _ _ _ hq], fun i h1 h2 => ?_, fun i hi => ?_⟩
      · rw [if_neg (by rw [ge40 (by omega)]; exact e), ck_in (by omega) (by decide), ix_nI (by omega), wme, bve, ad1, e1]
      · by_cases w : k + 1 ≤ i
        · exact z1 i w h2
        · rw [y1 i (by omega), wr_app, if_pos rfl, if_pos (by omega)]
      · rw [y1 i (by omega), wr_app, if_pos rfl, if_neg (by omega)]
theorem x8_sheet86 {s : Nat} (hs : s < 4) : ∀ (n k : Nat) (M : Mem), k ≤ 40 → 40 - k < n → ∃ M1, fX8_sheet_L86 n (nI s) (nI k) M = some (M 70 s, M1) ∧ (∀ q, q ≠ 71 → M1 q = M q) ∧ (∀ i, M1 71 i = if 40 * s + k ≤ i ∧ i < 40 * s + 40 then 0 else M 71 i) := by
  intro n
  induction n with
  | zero => intro k M _ h2; omega
  | succ n ih =>
    intro k M hk hn
    rw [fX8_sheet_L86]
    by_cases e : 40 ≤ k
    · exact ⟨M, by rw [if_pos (by rw [ge40 (by omega)]; exact e), ck_in (by omega) (by decide), ix_nI (by omega)], fun _ _ => rfl, fun i => by rw [if_neg (by omega)]⟩
    · obtain ⟨M1, e1, s1, z1⟩ := ih (k + 1) (wr M 71 (40 * s + k) 0) (by omega) (by omega)
      refine ⟨M1, ?_, fun q hq => by rw [s1 q hq, wr_n _ _ _ _ hq], fun i => ?_⟩
      · rw [if_neg (by rw [ge40 (by omega)]; exact e), mu40, nI_add, ck_in (by omega) (by decide), ix_nI (by omega), wme, bve, ad1, e1, wr_n _ _ _ _ (by omega)]
      · rw [z1 i, wr_app, if_pos rfl]
        by_cases w : i = 40 * s + k
        · rw [if_neg (by omega), if_pos w, if_pos (by omega)]
        · by_cases v : 40 * s + (k + 1) ≤ i ∧ i < 40 * s + 40
          · rw [if_pos v, if_pos (by omega)]
          · rw [if_neg v, if_neg w, if_neg (by omega)]
theorem x7_mkSheet {M : Mem} {S : Sta} (h : AC M S) {s b l : Nat} (hs : s < 4) (hb : b = 0 ∨ b = 8 ∨ b = 16 ∨ b = 32) (hl : l ≤ 40) : ∃ M1, fX7_sheet_L35 (nI s) (nI b) (nI l) M = some (nI (if b = 0 then 0 else l), M1) ∧ AC M1 (setS S s b (if b = 0 then 0 else l) (fun _ => 0)) ∧ ∀ k, 57 ≤ k → M1 k = M k := by
  obtain ⟨M1, e1, s1, z1, _⟩ := x5_renew29 (b := 48 + 2 * s) fu 0 (wr (wr M (48 + 2 * s) 1 (nI b)) (48 + 2 * s) 2 (nI (if b = 0 then 0 else l))) (by omega) (by show _ < 2000; omega)
  have g1 : M1 (48 + 2 * s) 1 = nI b := by rw [s1 _ (by omega), wr_app, if_pos rfl, if_neg (by omega), wr_app, if_pos rfl, if_pos rfl]
  have g2 : M1 (48 + 2 * s) 2 = nI (if b = 0 then 0 else l) := by rw [s1 _ (by omega), wr_app, if_pos rfl, if_pos rfl]
  refine ⟨M1, ?_, h.set hs (fun k k1 k2 => by rw [s1 k k2, wr_n _ _ _ _ k1, wr_n _ _ _ _ k1]) g1 g2 (fun i hi => z1 i (Nat.zero_le _) hi), fun k hk => by rw [s1 k (by omega), wr_n _ _ _ _ (by omega), wr_n _ _ _ _ (by omega)]⟩
  have hr : fX5_renew (48 + 2 * s) (nI b) (nI l) M = some ((), M1) := by
    unfold fX5_renew fX5_renew_L24
    rw [wme, wme, wme, show (40 : Int32) = nI 40 from rfl, imin_nI (by omega) (by omega), Nat.min_eq_left hl, nI_0', imax_nI (by omega) (by omega), Nat.max_eq_right (Nat.zero_le _)]
    by_cases e : b = 0
    · rw [if_pos e] at e1; rw [if_pos (by rw [e])]; exact e1
    · rw [if_neg e] at e1; rw [if_neg (by rw [lit_eq (by omega) (by omega)]; exact e)]; exact e1
  unfold fX7_sheet_L35
  rw [nI_0', if_pos (by rw [lit_le (by omega) (by omega)]; omega), show (40 : Int32) = nI 40 from rfl, if_pos (by rw [lit_le (by omega) (by omega)]; exact hl), ck_in (by omega) (by decide), ix_nI (by omega), hr, bde, ck_in (by omega) (by decide), g2]
theorem x8_mkSheet {M : Mem} {S : Sta} (h : AR M S) {s b l : Nat} (hs : s < 4) (hb : b = 0 ∨ b = 8 ∨ b = 16 ∨ b = 32) (hl : l ≤ 40) : ∃ M1, fX8_sheet_L36 (nI s) (nI b) (nI l) M = some (nI (if b = 0 then 0 else l), M1) ∧ AR M1 (setS S s b (if b = 0 then 0 else l) (fun _ => 0)) ∧ ∀ k, k < 57 → M1 k = M k := by
  obtain ⟨M1, e1, s1, z1⟩ := x8_sheet86 hs fu 0 (wr (wr M 69 s (nI b)) 70 s (nI (if b = 0 then 0 else l))) (by omega) (by show _ < 2000; omega)
  refine ⟨M1, ?_, h.set hs (fun k k1 k2 k3 k4 => by rw [s1 k k3, wr_n _ _ _ _ k2, wr_n _ _ _ _ k1]) (fun t ht => ?_) (fun t ht => ?_) (fun t i ht hi => ?_), fun k hk => by rw [s1 k (by omega), wr_n _ _ _ _ (by omega), wr_n _ _ _ _ (by omega)]⟩
  · have e2 : ∀ w : Nat, fX8_sheet_L82 (nI s) (nI w) (nI s) (wr M 69 s (nI b)) = fX8_sheet_L86 fu (nI s) (nI 0) (wr (wr M 69 s (nI b)) 70 s (nI w)) := by
      intro w
      unfold fX8_sheet_L82
      rw [ck_in hs (by decide), ix_nI (by omega), wme]
      rfl
    have e0 : fX8_sheet_L82 (nI s) 0 (nI s) (wr M 69 s (nI b)) = fX8_sheet_L86 fu (nI s) (nI 0) (wr (wr M 69 s (nI b)) 70 s (nI 0)) := e2 0
    unfold fX8_sheet_L36
    rw [if_pos (by rw [nI_0', lit_le (by omega) (by omega)]; omega), if_pos (by rw [le40 (by omega)]; exact hl), ck_in hs (by decide), ix_nI (by omega), wme, e2, e0]
    have e3 : (wr (wr M 69 s (nI b)) 70 s (nI (if b = 0 then 0 else l))) 70 s = nI (if b = 0 then 0 else l) := by rw [wr_app, if_pos rfl, if_pos rfl]
    rw [e3] at e1
    by_cases e : b = 0
    · rw [if_pos e] at e1 ⊢; rw [if_pos (by rw [e]; rfl)]; exact e1
    · rw [if_neg e] at e1 ⊢; rw [if_neg (by rw [nI_0', lit_eq (by omega) (by omega)]; exact e)]; exact e1
  · rw [s1 _ (by omega), wr_n _ _ _ _ (by omega), wr_app, if_pos rfl]
  · rw [s1 _ (by omega), wr_app, if_pos rfl, wr_n _ _ _ _ (by omega)]
  · rw [z1, wr_n _ _ _ _ (by omega), wr_n _ _ _ _ (by omega)]
    by_cases e : t = s
    · rw [if_pos (by omega), if_pos e]
    · rw [if_neg (by omega), if_neg e]
theorem tw_sheet {S : Sta} (hW : WFS S) (x y z : Int32) : Two (fX7_sheet x y z) (fX8_sheet x y z) S := by
  have bad : (∀ M, AC M S → fX7_sheet x y z M = fX7_sheet_L29 M) → (∀ M, AR M S → fX8_sheet x y z M = fX8_sheet_L29 M) → Two (fX7_sheet x y z) (fX8_sheet x y z) S := fun a b =>
    two_fd hW (i := 0) (by decide) (fun M h => by rw [a M h]; exact fd7 0 M) (fun M h => by rw [b M h]; exact fd8 0 M)
  cases hp : pIn 4 x
  · refine bad (fun M h => ?_) (fun M h => ?_)
    · unfold fX7_sheet; rw [x7_isSheet, hp, bde, ifF]
    · unfold fX8_sheet; rw [x8_isSheet, hp, bde, ifF]
  obtain ⟨s, hs, rfl⟩ := pIn_ex hp (by decide)
  by_cases hy : y = 0 ∨ y = 8 ∨ y = 16 ∨ y = 32
  · obtain ⟨b, hb, rfl⟩ : ∃ b : Nat, (b = 0 ∨ b = 8 ∨ b = 16 ∨ b = 32) ∧ y = nI b := by
      rcases hy with e | e | e | e
      · exact ⟨0, by omega, e⟩
      · exact ⟨8, by omega, e⟩
      · exact ⟨16, by omega, e⟩
      · exact ⟨32, by omega, e⟩
    have g7 : ∀ M, fX7_sheet (nI s) (nI b) z M = fX7_sheet_L35 (nI s) (nI b) z M := by
      intro M
      unfold fX7_sheet
      rw [x7_isSheet, hp, bde, ifT]
      rcases hb with rfl | rfl | rfl | rfl <;> rfl
    have g8 : ∀ M, fX8_sheet (nI s) (nI b) z M = fX8_sheet_L36 (nI s) (nI b) z M := by
      intro M
      unfold fX8_sheet
      rw [x8_isSheet, hp, bde, ifT]
      rcases hb with rfl | rfl | rfl | rfl <;> rfl
    by_cases z0 : 0 ≤ z
    · by_cases z1 : z ≤ 40
      · have hz : pIn 41 z = true := by
          rw [Int32.le_iff_toInt_le] at z0 z1
          exact decide_eq_true ⟨z0, by have : z.toInt ≤ 40 := z1; omega⟩
        obtain ⟨l, hl, rfl⟩ := pIn_ex hz (by decide)
        refine ⟨nI (if b = 0 then 0 else l), setS S s b (if b = 0 then 0 else l) (fun _ => 0), fun M h => ?_, fun M h => ?_, wfs_set hW hb (by split <;> omega)⟩
        · rw [g7]; exact x7_mkSheet h hs hb (by omega)
        · rw [g8]; exact x8_mkSheet h hs hb (by omega)
      · refine bad (fun M h => ?_) (fun M h => ?_)
        · rw [g7]; unfold fX7_sheet_L35; rw [if_pos z0, if_neg z1]; rfl
        · rw [g8]; unfold fX8_sheet_L36; rw [if_pos z0, if_neg z1]; rfl
    · refine two_fd hW (i := 6) (by decide) (fun M h => ?_) (fun M h => ?_)
      · rw [g7]; unfold fX7_sheet_L35; rw [if_neg z0]; exact fd7 6 M
      · rw [g8]; unfold fX8_sheet_L36; rw [if_neg z0]; exact fd8 6 M
  · have h0 : ¬ y = 0 := fun e => hy (Or.inl e)
    have h8 : ¬ y = 8 := fun e => hy (Or.inr (Or.inl e))
    have h16 : ¬ y = 16 := fun e => hy (Or.inr (Or.inr (Or.inl e)))
    have h32 : ¬ y = 32 := fun e => hy (Or.inr (Or.inr (Or.inr e)))
    refine bad (fun M h => ?_) (fun M h => ?_)
    · unfold fX7_sheet; rw [x7_isSheet, hp, bde, ifT, if_neg h0, if_neg h8, if_neg h16, if_neg h32]
    · unfold fX8_sheet; rw [x8_isSheet, hp, bde, ifT, if_neg h0, if_neg h8, if_neg h16, if_neg h32]

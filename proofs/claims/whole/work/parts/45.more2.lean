/-! status, count, feed -/
def smI (f : Nat → Int32) : Nat → Int32
  | 0 => 0
  | n + 1 => smI f n + f n
theorem smI_fn (S : Sta) : smI (tFn S) 7 = fnS S := by
  show 0 + tFn S 0 + tFn S 1 + tFn S 2 + tFn S 3 + tFn S 4 + tFn S 5 + tFn S 6 = tFn S 0 + tFn S 1 + tFn S 2 + tFn S 3 + tFn S 4 + tFn S 5 + tFn S 6
  rw [Int32.zero_add]
theorem x7_sum10 {M : Mem} {S : Sta} (h : AC M S) : ∀ (n k : Nat), k ≤ 7 → 7 - k < n → fX7_sum_L10 56 n (smI (tFn S) k) 7 (nI k) M = some (smI (tFn S) 7, M) := by
  intro n
  induction n with
  | zero => intro k _ h2; omega
  | succ n ih =>
    intro k hk hn
    rw [fX7_sum_L10]
    by_cases e : 7 ≤ k
    · have : k = 7 := by omega
      rw [this, if_pos (by decide)]
    · rw [if_neg (by rw [show (7 : Int32) = nI 7 from rfl, lit_le (by omega) (by omega)]; exact e), ck_in (by omega) (by decide), ix_nI (by omega), bve, bve, bve, h.2.2.2.2.2.2 k (by omega), ad1]
      exact ih (k + 1) (by omega) (by omega)
theorem x8_withinM (x : Int32) (M : Mem) : fX8_within x (-1) 6 M = some (bI (decide (x = -1) || pIn 7 x), M) := by
  unfold fX8_within
  have e0 : (x < -1) ↔ x.toInt < -1 := Int32.lt_iff_toInt_lt
  have e1 : ((6 : Int32) < x) ↔ (6 : Int) < x.toInt := Int32.lt_iff_toInt_lt
  have e2 : (x = -1) ↔ x.toInt = -1 := by
    constructor
    · intro e; rw [e]; rfl
    · intro e; exact Int32.toInt_inj.mp (e.trans rfl)
  unfold pIn
  by_cases a : x.toInt < -1
  · rw [if_pos (e0.mpr a), ck_b0, decide_eq_false (fun q => by have := e2.mp q; omega), decide_eq_false (by omega)]; rfl
  · rw [if_neg (fun h => a (e0.mp h))]
    by_cases c : (6 : Int) < x.toInt
    · rw [if_pos (e1.mpr c), ck_b0, decide_eq_false (fun q => by have := e2.mp q; omega), decide_eq_false (by omega)]; rfl
    · rw [if_neg (fun h => c (e1.mp h)), ck_b1]
      by_cases d : x = -1
      · rw [decide_eq_true d]; rfl
      · rw [decide_eq_false d, decide_eq_true (by have : x.toInt ≠ -1 := fun q => d (e2.mpr q); omega)]; rfl
theorem tw_status {S : Sta} (hW : WFS S) (x : Int32) : Two (fX7_status x) (fX8_status x) S := by
  by_cases e : x = -1
  · subst e
    refine ⟨fnS S, S, fun M h => ⟨M, ?_, h, fun _ _ => rfl⟩, fun M h => ⟨M, ?_, h, fun _ _ => rfl⟩, hW⟩
    · have q := x7_sum10 h fu 0 (by omega) (by show _ < 2000; omega)
      rw [smI_fn] at q
      have q2 : fX7_sum 56 M = some (fnS S, M) := q
      unfold fX7_status
      rw [if_pos rfl, q2, bde]
    · unfold fX8_status
      rw [x8_withinM, bde, show (decide ((-1 : Int32) = -1) || pIn 7 (-1)) = true from rfl, ifT, show (-1 : Int32) + 1 = nI 0 from rfl, ck_in (by decide) (by decide), ix_nI (by decide), h.2.2.2.2.2.2.2]
  · cases hp : pIn 7 x
    · refine two_fd hW (i := 0) (by decide) (fun M h => ?_) (fun M h => ?_)
      · unfold fX7_status
        rw [if_neg e, w7_7, hp, bde, ifF]
        exact fd7 0 M
      · unfold fX8_status
        rw [x8_withinM, hp, decide_eq_false e, bde, show (false || false) = false from rfl, ifF]
        exact fd8 0 M
    · obtain ⟨i, hi, rfl⟩ := pIn_ex hp (by decide)
      refine ⟨tFn S i, S, fun M h => ⟨M, ?_, h, fun _ _ => rfl⟩, fun M h => ⟨M, ?_, h, fun _ _ => rfl⟩, hW⟩
      · unfold fX7_status
        rw [if_neg e, w7_7, hp, bde, ifT, ck_in hi (by decide), ix_nI (by omega), h.2.2.2.2.2.2 i hi]
      · unfold fX8_status
        rw [x8_withinM, hp, bde, Bool.or_true, ifT, ad1, ck_in (by omega) (by decide), ix_nI (by omega), h.2.2.2.2.2.2.1 i hi]
def mtd (L : Lan) : Nat := cnN (fun p => decide (gMt L p ≠ 0)) (gN L)
def hld (L : Lan) : Nat := cnN (fun q => decide (gSp L q ≠ 0)) 10
theorem cn_s (f : Nat → Bool) (k : Nat) : nI (cnN f k) + bI (f k) = nI (cnN f (k + 1)) := by
  show _ = nI (cnN f k + if f k = true then 1 else 0)
  cases f k
  · show _ + 0 = nI (cnN f k + 0)
    rw [Int32.add_zero, Nat.add_zero]
  · exact nI_add _ 1
theorem x1_mated {M : Mem} {b : Nat} {L : Lan} (hC : CLn M b L) (hW : WF L) : ∀ (n k : Nat), k ≤ gN L → gN L - k < n → fX1_countMated_L4 b n (nI (cnN (fun p => decide (gMt L p ≠ 0)) k)) (nI k) M = some (nI (mtd L), M) := by
  have h6 : M b 6 = nI (gN L) := hC.2.2.2.2.2.2.1
  have hn8 := hW.1
  intro n
  induction n with
  | zero => intro k _ h2; omega
  | succ n ih =>
    intro k hk hn
    rw [fX1_countMated_L4, h6]
    by_cases e : gN L ≤ k
    · have : k = gN L := by omega
      rw [if_pos (by rw [lit_le (by omega) (by omega)]; exact e), this]; rfl
    · have hm := (hW.2.2.2.2.1 k (by omega)).1
      rw [if_neg (by rw [lit_le (by omega) (by omega)]; exact e), ck_in (by omega) (by decide), ix_nI (by omega), hC.2.2.2.2.1 k (by omega)]
      have q := cn_s (fun p => decide (gMt L p ≠ 0)) k
      have ihk := ih (k + 1) (by omega) (by omega)
      rw [← q] at ihk
      unfold fX1_countMated_L28
      by_cases z : gMt L k = 0
      · have z2 : decide (gMt L k ≠ 0) = false := by simp [z]
        rw [z2] at ihk
        rw [if_pos (by rw [mI_m1 (by omega)]; exact z), bve, bve, ad1]
        exact ihk
      · have z2 : decide (gMt L k ≠ 0) = true := by simp [z]
        rw [z2, show bI true = 1 from rfl, ad1] at ihk
        rw [if_neg (by rw [mI_m1 (by omega)]; exact z), bve, bve, ad1, ad1]
        exact ihk
theorem x8_mated {M : Mem} {L : Lan} (hC : RLn M 58 L) (hW : WF L) : ∀ (n k : Nat), k ≤ gN L → gN L - k < n → fX8_count_L64 n (nI (cnN (fun p => decide (gMt L p ≠ 0)) k)) (nI k) M = some (nI (mtd L), M) := by
  have h6 : M 58 4 = nI (gN L) := hC.2.2.2.2.2.2.1
  have hn8 := hW.1
  intro n
  induction n with
  | zero => intro k _ h2; omega
  | succ n ih =>
    intro k hk hn
    rw [fX8_count_L64, ckl_4_56, ixl_4, h6]
    by_cases e : gN L ≤ k
    · have : k = gN L := by omega
      rw [if_pos (by rw [lit_le (by omega) (by omega)]; exact e), this]; rfl
    · have hm := (hW.2.2.2.2.1 k (by omega)).1
      rw [if_neg (by rw [lit_le (by omega) (by omega)]; exact e), x8_Mt hC (by omega), bde]
      have q := cn_s (fun p => decide (gMt L p ≠ 0)) k
      have ihk := ih (k + 1) (by omega) (by omega)
      rw [← q] at ihk
      unfold fX8_count_L89
      by_cases z : gMt L k = 0
      · have z2 : decide (gMt L k ≠ 0) = false := by simp [z]
        rw [z2] at ihk
        rw [if_neg (by rw [mI_ge0 (by omega)]; exact fun w => w z), bve, bve, ad1]
        exact ihk
      · have z2 : decide (gMt L k ≠ 0) = true := by simp [z]
        rw [z2, show bI true = 1 from rfl, ad1] at ihk
        rw [if_pos (by rw [mI_ge0 (by omega)]; exact z), bve, bve, ad1, ad1]
        exact ihk
theorem x1_held {M : Mem} {b : Nat} {L : Lan} (hC : CLn M b L) (hW : WF L) : ∀ (n k : Nat), k ≤ 10 → 10 - k < n → fX1_countHeld_L13 b n (nI (cnN (fun p => decide (gSp L p ≠ 0)) k)) 10 (nI k) M = some (nI (hld L), M) := by
  have hn8 := hW.1
  intro n
  induction n with
  | zero => intro k _ h2; omega
  | succ n ih =>
    intro k hk hn
    rw [fX1_countHeld_L13]
    by_cases e : 10 ≤ k
    · have : k = 10 := by omega
      rw [if_pos (by rw [ge10 (by omega)]; exact e), this]; rfl
    · have hm := hW.2.2.2.2.2 k (by omega)
      rw [if_neg (by rw [ge10 (by omega)]; exact e), ck_in (by omega) (by decide), ix_nI (by omega), hC.2.2.2.2.2.1 k (by omega), bve]
      have q := cn_s (fun p => decide (gSp L p ≠ 0)) k
      have ihk := ih (k + 1) (by omega) (by omega)
      rw [← q] at ihk
      unfold fX1_countHeld_L37
      by_cases z : gSp L k = 0
      · have z2 : decide (gSp L k ≠ 0) = false := by simp [z]
        rw [z2] at ihk
        rw [if_pos (by rw [mI_m1 (by omega)]; exact z), bve, bve, ad1]
        exact ihk
      · have z2 : decide (gSp L k ≠ 0) = true := by simp [z]
        rw [z2, show bI true = 1 from rfl, ad1] at ihk
        rw [if_neg (by rw [mI_m1 (by omega)]; exact z), bve, bve, ad1, ad1]
        exact ihk
theorem x8_held {M : Mem} {L : Lan} (hC : RLn M 58 L) (hW : WF L) : ∀ (n k : Nat), k ≤ 10 → 10 - k < n → fX8_count_L149 n (nI (cnN (fun p => decide (gSp L p ≠ 0)) k)) (nI k) M = some (nI (hld L), M) := by
  have hn8 := hW.1
  intro n
  induction n with
  | zero => intro k _ h2; omega
  | succ n ih =>
    intro k hk hn
    rw [fX8_count_L149]
    by_cases e : 10 ≤ k
    · have : k = 10 := by omega
      rw [if_pos (by rw [ge10 (by omega)]; exact e), this]; rfl
    · have hm := hW.2.2.2.2.2 k (by omega)
      rw [if_neg (by rw [ge10 (by omega)]; exact e), show (6 : Int32) + nI k = nI (6 + k) from nI_add 6 k, ck_in (by omega) (by decide), ix_nI (by omega), hC.2.2.2.2.2.1 k (by omega)]
      have q := cn_s (fun p => decide (gSp L p ≠ 0)) k
      have ihk := ih (k + 1) (by omega) (by omega)
      rw [← q] at ihk
      unfold fX8_count_L173
      by_cases z : gSp L k = 0
      · have z2 : decide (gSp L k ≠ 0) = false := by simp [z]
        rw [z2] at ihk
        rw [if_neg (by rw [mI_ge0 (by omega)]; exact fun w => w z), bve, bve, ad1]
        exact ihk
      · have z2 : decide (gSp L k ≠ 0) = true := by simp [z]
        rw [z2, show bI true = 1 from rfl, ad1] at ihk
        rw [if_pos (by rw [mI_ge0 (by omega)]; exact z), bve, bve, ad1, ad1]
        exact ihk
theorem x1_suns {M : Mem} {b : Nat} {L : Lan} (hC : CLn M b L) (hW : WF L) : ∀ (n k : Nat), k ≤ gN L → gN L - k < n → fX1_sunOfAll_L4 b n (nI (smN (gSu L) k)) (nI k) M = some (nI (smN (gSu L) (gN L)), M) := by
  have h6 : M b 6 = nI (gN L) := hC.2.2.2.2.2.2.1
  have hn8 := hW.1
  intro n
  induction n with
  | zero => intro k _ h2; omega
  | succ n ih =>
    intro k hk hn
    rw [fX1_sunOfAll_L4, h6]
    by_cases e : gN L ≤ k
    · have : k = gN L := by omega
      rw [if_pos (by rw [lit_le (by omega) (by omega)]; exact e), this]
    · rw [if_neg (by rw [lit_le (by omega) (by omega)]; exact e), ck_in (by omega) (by decide), ix_nI (by omega), hC.2.1 k (by omega), bve, bve, nI_add, ad1]
      exact ih (k + 1) (by omega) (by omega)
theorem x8_suns {M : Mem} {L : Lan} (hC : RLn M 58 L) (hW : WF L) : ∀ (n k : Nat), k ≤ gN L → gN L - k < n → fX8_count_L108 n (nI (smN (gSu L) k)) (nI k) M = some (nI (smN (gSu L) (gN L)), M) := by
  have h6 : M 58 4 = nI (gN L) := hC.2.2.2.2.2.2.1
  have hn8 := hW.1
  intro n
  induction n with
  | zero => intro k _ h2; omega
  | succ n ih =>
    intro k hk hn
    rw [fX8_count_L108, ckl_4_56, ixl_4, h6]
    by_cases e : gN L ≤ k
    · have : k = gN L := by omega
      rw [if_pos (by rw [lit_le (by omega) (by omega)]; exact e), this]
    · rw [if_neg (by rw [lit_le (by omega) (by omega)]; exact e), x8_Su hC (by omega), bde, bve, bve, nI_add, ad1]
      exact ih (k + 1) (by omega) (by omega)
theorem tw_count {S : Sta} (hW : WFS S) (x : Int32) : Two (fX7_count x) (fX8_count x) S := by
  have hn := hW.1.1
  have q0 : ∀ r : Int32, (∀ M, AC M S → fX7_count x M = some (r, M)) → (∀ M, AR M S → fX8_count x M = some (r, M)) → Two (fX7_count x) (fX8_count x) S := fun r a b => two_q0 hW r a b
  cases hq : pIn 8 x
  · have n0 : ¬ x = 0 := pf_no hq (c := 0) (by decide) (by decide)
    have n1 : ¬ x = 1 := pf_no hq (c := 1) (by decide) (by decide)
    have n2 : ¬ x = 2 := pf_no hq (c := 2) (by decide) (by decide)
    have n3 : ¬ x = 3 := pf_no hq (c := 3) (by decide) (by decide)
    have n4 : ¬ x = 4 := pf_no hq (c := 4) (by decide) (by decide)
    have n5 : ¬ x = 5 := pf_no hq (c := 5) (by decide) (by decide)
    have n6 : ¬ x = 6 := pf_no hq (c := 6) (by decide) (by decide)
    have n7 : ¬ x = 7 := pf_no hq (c := 7) (by decide) (by decide)
    refine two_fd hW (i := 0) (by decide) (fun M h => ?_) (fun M h => ?_)
    · unfold fX7_count
      rw [if_neg n0, if_neg n1, if_neg n2, if_neg n3, if_neg n4, if_neg n5, if_neg n6, if_neg n7]
      exact fd7 0 M
    · unfold fX8_count
      rw [if_neg n0, if_neg n1, if_neg n2, if_neg n3, if_neg n4, if_neg n5, if_neg n6, if_neg n7]
      exact fd8 0 M
  · obtain ⟨w, hw, rfl⟩ := pIn_ex hq (by decide)
    rcases (show w = 0 ∨ w = 1 ∨ w = 2 ∨ w = 3 ∨ w = 4 ∨ w = 5 ∨ w = 6 ∨ w = 7 by omega) with rfl | rfl | rfl | rfl | rfl | rfl | rfl | rfl
    · refine q0 (nI (gH (tLa S))) (fun M h => ?_) (fun M h => ?_)
      · rw [← show M 1 8 = nI (gH (tLa S)) from h.1.2.2.2.2.2.2.2.2.1]; rfl
      · rw [← show M 58 0 = nI (gH (tLa S)) from h.1.2.2.2.2.2.2.2.2.1]
        unfold fX8_count; rw [if_pos (by decide), ckl_0_56, ixl_0]
    · refine q0 (nI (gN (tLa S))) (fun M h => ?_) (fun M h => ?_)
      · rw [← show M 1 6 = nI (gN (tLa S)) from h.1.2.2.2.2.2.2.1]; rfl
      · rw [← show M 58 4 = nI (gN (tLa S)) from h.1.2.2.2.2.2.2.1]
        unfold fX8_count; rw [if_neg (by decide), if_pos (by decide), ckl_4_56, ixl_4]
    · refine q0 (nI (mtd (tLa S))) (fun M h => ?_) (fun M h => ?_)
      · have e : fX1_countMated 1 M = some (nI (mtd (tLa S)), M) := x1_mated h.1 hW.1 fu 0 (by omega) (by show _ < 2000; omega)
        unfold fX7_count; rw [if_neg (by decide), if_neg (by decide), if_pos (by decide), e, bde]
      · have e : fX8_count_L64 fu 0 0 M = some (nI (mtd (tLa S)), M) := x8_mated h.1 hW.1 fu 0 (by omega) (by show _ < 2000; omega)
        unfold fX8_count; rw [if_neg (by decide), if_neg (by decide), if_pos (by decide), e]
    · refine q0 (gMe (tLa S)) (fun M h => ?_) (fun M h => ?_)
      · rw [← show M 1 9 = gMe (tLa S) from h.1.2.2.2.2.2.2.2.2.2.1]; rfl
      · rw [← show M 58 1 = gMe (tLa S) from h.1.2.2.2.2.2.2.2.2.2.1]
        unfold fX8_count; rw [if_neg (by decide), if_neg (by decide), if_neg (by decide), if_pos (by decide), ckl_1_56, ixl_1]
    · refine q0 (nI (smN (gSu (tLa S)) (gN (tLa S)))) (fun M h => ?_) (fun M h => ?_)
      · have e : fX1_sunOfAll 1 M = some (nI (smN (gSu (tLa S)) (gN (tLa S))), M) := x1_suns h.1 hW.1 fu 0 (by omega) (by show _ < 2000; omega)
        unfold fX7_count; rw [if_neg (by decide), if_neg (by decide), if_neg (by decide), if_neg (by decide), if_pos (by decide), e, bde]
      · have e : fX8_count_L108 fu 0 0 M = some (nI (smN (gSu (tLa S)) (gN (tLa S))), M) := x8_suns h.1 hW.1 fu 0 (by omega) (by show _ < 2000; omega)
        unfold fX8_count; rw [if_neg (by decide), if_neg (by decide), if_neg (by decide), if_neg (by decide), if_pos (by decide), e]
    · refine q0 (nI (tTl S)) (fun M h => ?_) (fun M h => ?_)
      · rw [← h.2.2.2.2.1]; rfl
      · rw [← h.2.2.2.2.1]; rfl
    · refine q0 (gDr (tLa S)) (fun M h => ?_) (fun M h => ?_)
      · rw [← show M 1 11 = gDr (tLa S) from h.1.2.2.2.2.2.2.2.2.2.2.2]; rfl
      · rw [← show M 58 5 = gDr (tLa S) from h.1.2.2.2.2.2.2.2.2.2.2.2]
        unfold fX8_count; rw [if_neg (by decide), if_neg (by decide), if_neg (by decide), if_neg (by decide), if_neg (by decide), if_neg (by decide), if_pos (by decide), ckl_5_56, ixl_5]
    · refine q0 (nI (hld (tLa S))) (fun M h => ?_) (fun M h => ?_)
      · have e : fX1_countHeld 1 M = some (nI (hld (tLa S)), M) := x1_held h.1 hW.1 fu 0 (by omega) (by show _ < 2000; omega)
        unfold fX7_count; rw [if_neg (by decide), if_neg (by decide), if_neg (by decide), if_neg (by decide), if_neg (by decide), if_neg (by decide), if_neg (by decide), if_pos (by decide), e, bde]
      · have e : fX8_count_L149 fu 0 0 M = some (nI (hld (tLa S)), M) := x8_held h.1 hW.1 fu 0 (by omega) (by show _ < 2000; omega)
        unfold fX8_count; rw [if_neg (by decide), if_neg (by decide), if_neg (by decide), if_neg (by decide), if_neg (by decide), if_neg (by decide), if_neg (by decide), if_pos (by decide), e]

/-! copy -/
def runP (n : Nat) (a c : Int32) : Prop := 0 ≤ a.toInt ∧ 0 ≤ c.toInt ∧ a.toInt + c.toInt ≤ (n : Int)
theorem run_ex {n : Nat} {a c : Int32} (h : runP n a c) (hn : n < 2 ^ 20) : ∃ i k : Nat, i + k ≤ n ∧ a = nI i ∧ c = nI k := by
  obtain ⟨h1, h2, h3⟩ := h
  obtain ⟨i, hi, rfl⟩ := nI_of (x := a) (by rw [i0]; omega)
  obtain ⟨k, hk, rfl⟩ := nI_of (x := c) (by rw [i0]; omega)
  rw [nI_toInt hi, nI_toInt hk] at h3
  exact ⟨i, k, by omega, rfl, rfl⟩
theorem run_0 {n : Nat} {a c : Int32} (h : a < 0 ∨ c < 0) : ¬ runP n a c := by
  rintro ⟨h1, h2, _⟩
  rw [i0, i0] at h
  omega
theorem run_nI {n i k : Nat} (hi : i < 2 ^ 31) (hk : k < 2 ^ 31) : runP n (nI i) (nI k) ↔ i + k ≤ n := by
  unfold runP
  rw [nI_toInt hi, nI_toInt hk]
  omega
theorem x5_hasRun {M : Mem} {b n : Nat} (h2 : M b 2 = nI n) (hn : n ≤ 40) (a c : Int32) : (runP n a c → fX5_hasRun b a c M = some (1, M)) ∧ (¬ runP n a c → fX5_hasRun b a c M = some (0, M)) := by
  unfold fX5_hasRun
  by_cases ha : a < 0
  · rw [if_pos ha, ck_b0]; exact ⟨fun q => absurd q (run_0 (Or.inl ha)), fun _ => rfl⟩
  by_cases hc : c < 0
  · rw [if_neg ha, if_pos hc, ck_b0]; exact ⟨fun q => absurd q (run_0 (Or.inr hc)), fun _ => rfl⟩
  rw [if_neg ha, if_neg hc, h2]
  obtain ⟨i, hi, rfl⟩ := nI_of ha
  obtain ⟨k, hk, rfl⟩ := nI_of hc
  rw [run_nI hi hk]
  by_cases e : n < k
  · rw [if_pos (by rw [lit_lt (by omega) hk]; exact e), ck_b0]; exact ⟨fun q => by omega, fun _ => rfl⟩
  · have es : nI n - nI k = nI (n - k) := pk_sub (by omega)
    rw [if_neg (by rw [lit_lt (by omega) hk]; exact e), es]
    by_cases w : n - k < i
    · rw [if_pos (by rw [lit_lt (by omega) hi]; exact w), ck_b0]; exact ⟨fun q => by omega, fun _ => rfl⟩
    · rw [if_neg (by rw [lit_lt (by omega) hi]; exact w), ck_b1]; exact ⟨fun _ => rfl, fun q => by omega⟩
theorem lg_run {n i k : Nat} (hi : i < 2 ^ 31) (hk : k < 2 ^ 31) (hn : n < 2 ^ 31) : lg_cmp ((nI i).toInt64 + (nI k).toInt64) (nI n).toInt64 = if n < i + k then 1 else if i + k = n then 0 else -1 := by
  have e1 : ((nI i).toInt64 + (nI k).toInt64).toInt = (i : Int) + k := by
    rw [Int64.toInt_add, Int32.toInt_toInt64, Int32.toInt_toInt64, nI_toInt hi, nI_toInt hk]
    apply Int.bmod_eq_of_le <;> omega
  have e2 : ((nI n).toInt64).toInt = (n : Int) := by rw [Int32.toInt_toInt64, nI_toInt hn]
  unfold lg_cmp
  simp only [gt_iff_lt, Int64.lt_iff_toInt_lt, ← Int64.toInt_inj, e1, e2]
  by_cases a : n < i + k
  · rw [if_pos a, if_pos (by omega)]
  · rw [if_neg a, if_neg (by omega)]
    by_cases b : i + k = n
    · rw [if_pos b, if_pos (by omega)]
    · rw [if_neg b, if_neg (by omega)]
def cpS (f g : Nat → Int32) (i j k : Nat) : Nat → Int32 := fun q => if j ≤ q ∧ q < j + k then f (i + (q - j)) else g q
theorem x8_cp165 {t j k : Nat} (ht : t < 4) (hk : j + k ≤ 40) : ∀ (n q : Nat) (M : Mem), q ≤ k → k - q < n → ∃ M1, fX8_copy_L165 n (nI t) (nI j) (nI k) (nI q) M = some (nI k, M1) ∧ (∀ r, r ≠ 71 → M1 r = M r) ∧ (∀ r, M1 71 r = if 40 * t + j + q ≤ r ∧ r < 40 * t + j + k then M 72 (r - (40 * t + j)) else M 71 r) := by
  intro n
  induction n with
  | zero => intro q M _ h2; omega
  | succ n ih =>
    intro q M hq hn
    rw [fX8_copy_L165]
    by_cases e : k ≤ q
    · exact ⟨M, by rw [if_pos (by rw [lit_le (by omega) (by omega)]; exact e)], fun _ _ => rfl, fun r => by rw [if_neg (by omega)]⟩
    · obtain ⟨M1, e1, s1, z1⟩ := ih (q + 1) (wr M 71 (40 * t + j + q) (M 72 q)) (by omega) (by omega)
      refine ⟨M1, ?_, fun r hr => by rw [s1 r hr, wr_n _ _ _ _ hr], fun r => ?_⟩
      · rw [if_neg (by rw [lit_le (by omega) (by omega)]; exact e), ck_in (by omega) (by decide), mu40, nI_add, nI_add, ck_in (by omega) (by decide), ix_nI (by omega), ix_nI (by omega), wme, bve, ad1, e1]
      · rw [z1 r, wr_n M 71 _ _ (show (72 : Nat) ≠ 71 by omega), wr_app, if_pos rfl]
        by_cases w : r = 40 * t + j + q
        · rw [if_neg (by omega), if_pos w, if_pos (by omega), show r - (40 * t + j) = q by omega]
        · by_cases v : 40 * t + j + (q + 1) ≤ r ∧ r < 40 * t + j + k
          · rw [if_pos v, if_pos (by omega)]
          · rw [if_neg v, if_neg w, if_neg (by omega)]
theorem x8_cp128 {s i t j k : Nat} (hs : s < 4) (hi : i + k ≤ 40) : ∀ (n q : Nat) (M : Mem), q ≤ k → k - q < n → ∃ M1, fX8_copy_L128 n (nI s) (nI i) (nI t) (nI j) (nI k) (nI q) M = fX8_copy_L165 fu (nI t) (nI j) (nI k) 0 M1 ∧ (∀ r, r ≠ 72 → M1 r = M r) ∧ (∀ r, q ≤ r → r < k → M1 72 r = M 71 (40 * s + i + r)) ∧ (∀ r, r < q → M1 72 r = M 72 r) := by
  intro n
  induction n with
  | zero => intro q M _ h2; omega
  | succ n ih =>
    intro q M hq hn
    rw [fX8_copy_L128]
    by_cases e : k ≤ q
    · exact ⟨M, by rw [if_pos (by rw [lit_le (by omega) (by omega)]; exact e)], fun _ _ => rfl, fun r h1 h2 => by omega, fun _ _ => rfl⟩
    · obtain ⟨M1, e1, s1, z1, y1⟩ := ih (q + 1) (wr M 72 q (M 71 (40 * s + i + q))) (by omega) (by omega)
      refine ⟨M1, ?_, fun r hr => by rw [s1 r hr, wr_n _ _ _ _ hr], fun r h1 h2 => ?_, fun r hr => ?_⟩
      · rw [if_neg (by rw [lit_le (by omega) (by omega)]; exact e), mu40, nI_add, nI_add, ck_in (by omega) (by decide), ck_in (by omega) (by decide), ix_nI (by omega), ix_nI (by omega), wme, bve, ad1, e1]
      · by_cases w : q + 1 ≤ r
        · rw [z1 r w h2, wr_n _ _ _ _ (by omega)]
        · rw [y1 r (by omega), wr_app, if_pos rfl, if_pos (by omega), show r = q by omega]
      · rw [y1 r (by omega), wr_app, if_pos rfl, if_neg (by omega)]
theorem tw_copy {S : Sta} (hW : WFS S) (x a y b c : Int32) : Two (fX7_copy x a y b c) (fX8_copy x a y b c) S := by
  have bad : (∀ M, AC M S → fX7_copy x a y b c M = fX7_copy_L14 M) → (∀ M, AR M S → fX8_copy x a y b c M = fX8_copy_L14 M) → Two (fX7_copy x a y b c) (fX8_copy x a y b c) S := fun p q =>
    two_fd hW (i := 0) (by decide) (fun M h => by rw [p M h]; exact fd7 0 M) (fun M h => by rw [q M h]; exact fd8 0 M)
  cases hp : pIn 4 x
  · refine bad (fun M h => ?_) (fun M h => ?_)
    · unfold fX7_copy; rw [x7_isSheet, hp, bde, ifF]
    · unfold fX8_copy; rw [x8_isSheet, hp, bde, ifF]
  cases hq : pIn 4 y
  · refine bad (fun M h => ?_) (fun M h => ?_)
    · unfold fX7_copy; rw [x7_isSheet, hp, bde, ifT, x7_isSheet, hq, bde, ifF]
    · unfold fX8_copy; rw [x8_isSheet, hp, bde, ifT, x8_isSheet, hq, bde, ifF]
  obtain ⟨s, hs, rfl⟩ := pIn_ex hp (by decide)
  obtain ⟨t, ht, rfl⟩ := pIn_ex hq (by decide)
  have his : ix (nI s) = s := ix_nI (by omega)
  have hit : ix (nI t) = t := ix_nI (by omega)
  obtain ⟨hbs, hls⟩ := hW.2.2.2.2 s hs
  obtain ⟨hbt, hlt⟩ := hW.2.2.2.2 t ht
  have n0 : ∀ {z : Nat}, z ≤ 32 → (nI z = 0) = (z = 0) := fun hz => by rw [nI_0', lit_eq (by omega) (by decide)]
  by_cases es : tSb S s = 0
  · refine two_fd hW (i := 5) (by decide) (fun M h => ?_) (fun M h => ?_)
    · unfold fX7_copy; rw [x7_isSheet, hp, bde, ifT, x7_isSheet, hq, bde, ifT, ck_in hs (by decide), his, x5_missing h hW hs, bde, decide_eq_true es, ifT]; exact fd7 5 M
    · unfold fX8_copy; rw [x8_isSheet, hp, bde, ifT, x8_isSheet, hq, bde, ifT, ck_in hs (by decide), his, (h.2.2.2.2.2.1 s hs).1, if_pos (by rw [es]; rfl)]; exact fd8 5 M
  have ns : ¬ nI (tSb S s) = 0 := by rw [n0 (by omega)]; exact es
  by_cases et : tSb S t = 0
  · refine two_fd hW (i := 5) (by decide) (fun M h => ?_) (fun M h => ?_)
    · unfold fX7_copy; rw [x7_isSheet, hp, bde, ifT, x7_isSheet, hq, bde, ifT, ck_in hs (by decide), his, x5_missing h hW hs, bde, decide_eq_false es, ifF, ck_in ht (by decide), hit, x5_missing h hW ht, bde, decide_eq_true et, ifT]; exact fd7 5 M
    · unfold fX8_copy; rw [x8_isSheet, hp, bde, ifT, x8_isSheet, hq, bde, ifT, ck_in hs (by decide), his, (h.2.2.2.2.2.1 s hs).1, if_neg ns, ck_in ht (by decide), hit, (h.2.2.2.2.2.1 t ht).1, if_pos (by rw [et]; rfl)]; exact fd8 5 M
  have nt : ¬ nI (tSb S t) = 0 := by rw [n0 (by omega)]; exact et
  have g7 : ∀ M, AC M S → fX7_copy (nI s) a (nI t) b c M = (if nI (tSb S s) = nI (tSb S t) then (ck (inb (nI s) 4) (bd (fX5_hasRun (48 + 2 * s) a c M) fun r10 M9 => (if r10 = 0 then (fX7_copy_L108 M9) else (ck (inb (nI t) 4) (bd (fX5_hasRun (48 + 2 * t) b c M9) fun r12 M11 => (if r12 = 0 then (fX7_copy_L108 M11) else (ck (inb (nI s) 4) (ck (inb (nI t) 4) (ck (cpb a b c 40 40) (wm (wrow M11 ((48 + 2 * t) + 1) (va_cpy (M11 ((48 + 2 * s) + 1)) (M11 ((48 + 2 * t) + 1)) (ix a) (ix b) (ix c))) fun M13 => (some (c, M13)))))))))))) else (bd (fX7_found 2 M) fun r15 M14 => (some (r15, M14)))) := by
    intro M h
    unfold fX7_copy
    rw [x7_isSheet, hp, bde, ifT, x7_isSheet, hq, bde, ifT, ck_in hs (by decide), his, x5_missing h hW hs, bde, decide_eq_false es, ifF, ck_in ht (by decide), hit, x5_missing h hW ht, bde, decide_eq_false et, ifF, ck_in hs (by decide), ck_in ht (by decide), (h.2.2.2.2.2.1 s hs).1, (h.2.2.2.2.2.1 t ht).1]
  have g8 : ∀ M, AR M S → fX8_copy (nI s) a (nI t) b c M = (if nI (tSb S s) = nI (tSb S t) then (if a < 0 then (fX8_copy_L118 M) else (if b < 0 then (fX8_copy_L118 M) else (if c < 0 then (fX8_copy_L118 M) else (if 0 < (lg_cmp ((a.toInt64) + (c.toInt64)) ((nI (tSl S s)).toInt64)) then (fX8_copy_L118 M) else (if (lg_cmp ((b.toInt64) + (c.toInt64)) ((nI (tSl S t)).toInt64)) ≤ 0 then (fX8_copy_L128 fu (nI s) a (nI t) b c 0 M) else (fX8_copy_L118 M)))))) else (bd (fX8_finding (-1000003) M) fun r6 M5 => (some (r6, M5)))) := by
    intro M h
    unfold fX8_copy
    rw [x8_isSheet, hp, bde, ifT, x8_isSheet, hq, bde, ifT, ck_in hs (by decide), his, (h.2.2.2.2.2.1 s hs).1, if_neg ns, ck_in ht (by decide), hit, (h.2.2.2.2.2.1 t ht).1, if_neg nt, ck_in hs (by decide), ck_in ht (by decide), ck_in hs (by decide), ck_in ht (by decide), (h.2.2.2.2.2.1 s hs).2.1, (h.2.2.2.2.2.1 t ht).2.1]
  by_cases eb : nI (tSb S s) = nI (tSb S t)
  · have bad2 : (¬ runP (tSl S s) a c ∨ ¬ runP (tSl S t) b c) → Two (fX7_copy (nI s) a (nI t) b c) (fX8_copy (nI s) a (nI t) b c) S := by
      intro hb
      refine two_fd hW (i := 0) (by decide) (fun M h => ?_) (fun M h => ?_)
      · have q1 := x5_hasRun (h.2.2.2.2.2.1 s hs).2.1 hls a c
        have q2 := x5_hasRun (h.2.2.2.2.2.1 t ht).2.1 hlt b c
        rw [g7 M h, if_pos eb, ck_in hs (by decide)]
        by_cases w : runP (tSl S s) a c
        · rw [q1.1 w, bde, if_neg (by decide), ck_in ht (by decide), q2.2 (by rcases hb with z | z; exact absurd w z; exact z), bde, if_pos rfl]; exact fd7 0 M
        · rw [q1.2 w, bde, if_pos rfl]; exact fd7 0 M
      · have l118 : fX8_copy_L118 M = fX8_finding (low 0) M := fd8 0 M
        rw [g8 M h, if_pos eb]
        by_cases ha : a < 0
        · rw [if_pos ha]; exact l118
        by_cases hb' : b < 0
        · rw [if_neg ha, if_pos hb']; exact l118
        by_cases hc : c < 0
        · rw [if_neg ha, if_neg hb', if_pos hc]; exact l118
        rw [if_neg ha, if_neg hb', if_neg hc]
        obtain ⟨i, hi, rfl⟩ := nI_of ha
        obtain ⟨j, hj, rfl⟩ := nI_of hb'
        obtain ⟨k, hk, rfl⟩ := nI_of hc
        rw [run_nI hi hk, run_nI hj hk] at hb
        rw [lg_run hi hk (by omega), lg_run hj hk (by omega)]
        by_cases w : tSl S s < i + k
        · rw [if_pos w, if_pos (by decide)]; exact l118
        · have u : tSl S t < j + k := by omega
          have v : ¬ (0 : Int32) < (if tSl S s < i + k then 1 else if i + k = tSl S s then 0 else -1) := by
            rw [if_neg w]; split <;> decide
          rw [if_neg v, if_pos u, if_neg (by decide)]; exact l118
    by_cases r1 : runP (tSl S s) a c
    · by_cases r2 : runP (tSl S t) b c
      · obtain ⟨i, k, hik, rfl, rfl⟩ := run_ex r1 (by omega)
        obtain ⟨j, k2, hjk, rfl, hk2⟩ := run_ex r2 (by omega)
        have hkk : k = k2 := nI_inj (by omega) (by omega) hk2
        subst hkk
        refine ⟨nI k, setS S t (tSb S t) (tSl S t) (cpS (tSn S s) (tSn S t) i j k), fun M h => ?_, fun M h => ?_, wfs_set hW hbt hlt⟩
        · have q1 := x5_hasRun (h.2.2.2.2.2.1 s hs).2.1 hls (nI i) (nI k)
          have q2 := x5_hasRun (h.2.2.2.2.2.1 t ht).2.1 hlt (nI j) (nI k)
          obtain ⟨a1, a2, a3⟩ := h.2.2.2.2.2.1 s hs
          obtain ⟨b1, b2, b3⟩ := h.2.2.2.2.2.1 t ht
          have hcp : cpb (nI i) (nI j) (nI k) 40 40 = true := by
            unfold cpb
            rw [ix_nI (by omega), ix_nI (by omega), ix_nI (by omega)]
            exact decide_eq_true ⟨nI_pos (by omega), nI_pos (by omega), nI_pos (by omega), by omega, by omega⟩
          refine ⟨wrow M (48 + 2 * t + 1) (va_cpy (M (48 + 2 * s + 1)) (M (48 + 2 * t + 1)) i j k), ?_, h.set ht (fun z z1 z2 => by funext w; rw [wrow_app, if_neg z2]) (by rw [wrow_app, if_neg (by omega)]; exact b1) (by rw [wrow_app, if_neg (by omega)]; exact b2) (fun q hq => ?_), fun z hz => by funext w; rw [wrow_app, if_neg (by omega)]⟩
          · rw [g7 M h, if_pos eb, ck_in hs (by decide), q1.1 r1, bde, if_neg (by decide), ck_in ht (by decide), q2.1 r2, bde, if_neg (by decide), ck_in hs (by decide), ck_in ht (by decide), ck_t hcp, wme, ix_nI (by omega), ix_nI (by omega), ix_nI (by omega)]
          · rw [wrow_app, if_pos rfl]
            unfold va_cpy cpS
            by_cases w : j ≤ q ∧ q < j + k
            · rw [if_pos w, if_pos w, a3 _ (by omega)]
            · rw [if_neg w, if_neg w, b3 q hq]
        · obtain ⟨a1, a2, a3⟩ := h.2.2.2.2.2.1 s hs
          obtain ⟨b1, b2, b3⟩ := h.2.2.2.2.2.1 t ht
          obtain ⟨M1, e1, s1, z1, _⟩ := x8_cp128 (s := s) (i := i) (t := t) (j := j) (k := k) hs (by omega) fu 0 M (by omega) (by show _ < 2000; omega)
          obtain ⟨M2, e2, s2, z2⟩ := x8_cp165 (t := t) (j := j) (k := k) ht (by omega) fu 0 M1 (by omega) (by show _ < 2000; omega)
          have keep : ∀ z, z ≠ 71 → z ≠ 72 → M2 z = M z := fun z h1 h2 => by rw [s2 z h1, s1 z h2]
          refine ⟨M2, ?_, h.set ht (fun z y1 y2 y3 y4 => keep z y3 y4) (fun u hu => ?_) (fun u hu => ?_) (fun u q hu hq => ?_), fun z hz => keep z (by omega) (by omega)⟩
          · have v1 : ¬ (0 : Int32) < (if tSl S s < i + k then 1 else if i + k = tSl S s then 0 else -1) := by
              rw [if_neg (by omega)]; split <;> decide
            have v2 : (if tSl S t < j + k then (1 : Int32) else if j + k = tSl S t then 0 else -1) ≤ 0 := by
              rw [if_neg (by omega)]; split <;> decide
            rw [g8 M h, if_pos eb, if_neg (nI_pos (by omega)), if_neg (nI_pos (by omega)), if_neg (nI_pos (by omega)), lg_run (by omega) (by omega) (by omega), lg_run (by omega) (by omega) (by omega), if_neg v1, if_pos v2]
            exact e1.trans e2
          · rw [keep 69 (by omega) (by omega)]
            by_cases w : u = t
            · rw [if_pos w, w, b1]
            · rw [if_neg w]
          · rw [keep 70 (by omega) (by omega)]
            by_cases w : u = t
            · rw [if_pos w, w, b2]
            · rw [if_neg w]
          · rw [z2, s1 71 (by omega)]
            unfold cpS
            by_cases w : u = t
            · rw [if_pos w, w]
              by_cases v : j ≤ q ∧ q < j + k
              · rw [if_pos (by omega), if_pos v, z1 _ (by omega) (by omega), show 40 * t + q - (40 * t + j) = q - j by omega, Nat.add_assoc]
                exact a3 _ (by omega)
              · rw [if_neg (by omega), if_neg v]; exact b3 q hq
            · rw [if_neg w, if_neg (by omega)]
      · exact bad2 (Or.inr r2)
    · exact bad2 (Or.inl r1)
  · refine two_fd hW (i := 2) (by decide) (fun M h => ?_) (fun M h => ?_)
    · rw [g7 M h, if_neg eb]; exact fd7 2 M
    · rw [g8 M h, if_neg eb]; exact fd8 2 M

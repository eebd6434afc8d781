/-! load, judge -/
/-- load: from k on, at most f steps, to the first that isn't a sun's value -/
def ldN (v : Nat → Int32) (N : Nat) : Nat → Nat → Nat
  | 0, k => k
  | f + 1, k => if N ≤ k then k else if pIn 100 (v k) = true then ldN v N f (k + 1) else k
def suV (v : Nat → Int32) (k : Nat) : Nat := (v k).toInt.toNat
def ldL (v : Nat → Int32) (N : Nat) : Nat → Nat → Lan → Lan
  | 0, _, L => L
  | f + 1, k, L => if N ≤ k then L else if pIn 100 (v k) = true then ldL v N f (k + 1) (sSu L (uf (gSu L) k (suV v k))) else L
theorem suV_e {v : Nat → Int32} {k : Nat} (h : pIn 100 (v k) = true) : v k = nI (suV v k) ∧ suV v k ≤ 99 := by
  obtain ⟨m, hm, e⟩ := pIn_ex h (by decide)
  have : suV v k = m := by unfold suV; rw [e, nI_toInt (by omega)]; omega
  rw [this]
  exact ⟨e, by omega⟩
theorem wf_ld {v : Nat → Int32} {N : Nat} : ∀ (f k : Nat) (L : Lan), WF L → WF (ldL v N f k L) := by
  intro f
  induction f with
  | zero => intro k L h; exact h
  | succ f ih =>
    intro k L h
    show WF (if N ≤ k then L else if pIn 100 (v k) = true then ldL v N f (k + 1) (sSu L (uf (gSu L) k (suV v k))) else L)
    split
    · exact h
    · split
      · next hp => exact ih _ _ (wf_su h (suV_e hp).2)
      · exact h
theorem x7_w99 (x : Int32) (M : Mem) : fX7_isWithin x 99 M = some (bI (pIn 100 x), M) := x7_isWithin (k := 99) x M (by decide)
theorem x8_w99 (x : Int32) (M : Mem) : fX8_within x 0 99 M = some (bI (pIn 100 x), M) := x8_within (k := 99) x M (by decide)
theorem x7_load40 {s N : Nat} {v : Nat → Int32} (hs : s < 4) (hN : N ≤ 8) : ∀ (f n k : Nat) (L : Lan) (M : Mem), k ≤ N → N ≤ k + f → f < n → CLn M 1 L → (∀ i, i < 40 → M (48 + 2 * s + 1) i = v i) → ∃ M1, fX7_load_L40 n (nI s) (nI N) (nI k) M = some (nI (ldN v N f k), M1) ∧ CLn M1 1 (ldL v N f k L) ∧ Sm 1 M M1 := by
  intro f
  induction f with
  | zero =>
    intro n k L M hk hf hn hC hv
    obtain ⟨n, rfl⟩ : ∃ z, n = z + 1 := ⟨n - 1, by omega⟩
    have : k = N := by omega
    exact ⟨M, by rw [fX7_load_L40, if_pos (by rw [lit_le (by omega) (by omega)]; omega), this]; rfl, hC, Sm.rf⟩
  | succ f ih =>
    intro n k L M hk hf hn hC hv
    obtain ⟨n, rfl⟩ : ∃ z, n = z + 1 := ⟨n - 1, by omega⟩
    rw [fX7_load_L40]
    show ∃ M1, _ = some (nI (if N ≤ k then k else if pIn 100 (v k) = true then ldN v N f (k + 1) else k), M1) ∧ CLn M1 1 (if N ≤ k then L else if pIn 100 (v k) = true then ldL v N f (k + 1) (sSu L (uf (gSu L) k (suV v k))) else L) ∧ _
    by_cases e : N ≤ k
    · have : k = N := by omega
      refine ⟨M, ?_, by rw [if_pos e]; exact hC, Sm.rf⟩
      rw [if_pos (by rw [lit_le (by omega) (by omega)]; exact e), if_pos e, this]
    · have hix : ix (nI s) = s := ix_nI (by omega)
      simp only [if_neg e]
      rw [if_neg (by rw [lit_le (by omega) (by omega)]; exact e), ck_in hs (by decide), ck_in (by omega) (by decide), hix, ix_nI (by omega), hv k (by omega), x7_w99, bde]
      cases hp : pIn 100 (v k)
      · exact ⟨M, by rw [ifF, if_neg (by decide)], by rw [if_neg (by decide)]; exact hC, Sm.rf⟩
      · obtain ⟨e1, e2⟩ := suV_e hp
        have c2 := cl_Su hC (i := k) (suV v k)
        obtain ⟨M1, f1, c1, s1⟩ := ih n (k + 1) _ (wr M 3 k (nI (suV v k))) (by omega) (by omega) (by omega) c2 (fun i hi => by rw [wr_n _ _ _ _ (by omega)]; exact hv i hi)
        refine ⟨M1, ?_, by rw [if_pos rfl]; exact c1, (Sm.wr (by omega) (by omega)).tr s1⟩
        rw [ifT, ck_in hs (by decide), ck_in (by omega) (by decide), ck_in (by omega) (by decide), hv k (by omega), wme, bve, ad1, e1, f1, if_pos rfl]
theorem x8_load32 {s l P : Nat} {v : Nat → Int32} (hs : s < 4) (hl : l ≤ 40) (hP : P ≤ 8) : ∀ (f n k : Nat) (L : Lan) (M : Mem), k ≤ min l P → min l P ≤ k + f → f < n → RLn M 58 L → WF L → gN L = P → M 70 s = nI l → (∀ i, i < 40 → M 71 (40 * s + i) = v i) → ∃ M1, fX8_load_L32 n (nI s) (nI k) M = some (nI (ldN v (min l P) f k), M1) ∧ RLn M1 58 (ldL v (min l P) f k L) ∧ Sr M M1 := by
  have stop : ∀ (n k : Nat) (L : Lan) (M : Mem), min l P ≤ k → k < 40 ∨ l ≤ k → k < 100 → RLn M 58 L → WF L → gN L = P → M 70 s = nI l → fX8_load_L32 (n + 1) (nI s) (nI k) M = some (nI k, M) := by
    intro n k L M hk h40 h100 hC hW hg h70
    rw [fX8_load_L32, ck_in hs (by decide), ix_nI (by omega), h70]
    by_cases e : l ≤ k
    · rw [if_pos (by rw [lit_le (by omega) (by omega)]; exact e)]
    · rw [if_neg (by rw [lit_le (by omega) (by omega)]; exact e), x8_isPerson hC hW, pIn_nI (by omega), decide_eq_false (by omega), bde, ifF]
  intro f
  induction f with
  | zero =>
    intro n k L M hk hf hn hC hW hg h70 hv
    obtain ⟨n, rfl⟩ : ∃ z, n = z + 1 := ⟨n - 1, by omega⟩
    exact ⟨M, stop n k L M (by omega) (by omega) (by omega) hC hW hg h70, hC, Sr.rf⟩
  | succ f ih =>
    intro n k L M hk hf hn hC hW hg h70 hv
    obtain ⟨n, rfl⟩ : ∃ z, n = z + 1 := ⟨n - 1, by omega⟩
    show ∃ M1, _ = some (nI (if min l P ≤ k then k else if pIn 100 (v k) = true then ldN v (min l P) f (k + 1) else k), M1) ∧ RLn M1 58 (if min l P ≤ k then L else if pIn 100 (v k) = true then ldL v (min l P) f (k + 1) (sSu L (uf (gSu L) k (suV v k))) else L) ∧ _
    by_cases e : min l P ≤ k
    · refine ⟨M, ?_, by rw [if_pos e]; exact hC, Sr.rf⟩
      rw [if_pos e]; exact stop n k L M e (by omega) (by omega) hC hW hg h70
    · simp only [if_neg e]
      rw [fX8_load_L32, ck_in hs (by decide), ix_nI (by omega), h70, if_neg (by rw [lit_le (by omega) (by omega)]; omega), x8_isPerson hC hW, pIn_t (by omega) (by omega), bde, ifT, mu40, nI_add, ck_in (by omega) (by decide), ix_nI (by omega), hv k (by omega), x8_w99, bde]
      cases hp : pIn 100 (v k)
      · exact ⟨M, by rw [ifF, if_neg (by decide)], by rw [if_neg (by decide)]; exact hC, Sr.rf⟩
      · obtain ⟨e1, e2⟩ := suV_e hp
        have c2 := rl_Su hC (i := k) (by omega) (suV v k)
        obtain ⟨M1, f1, c1, s1⟩ := ih n (k + 1) _ (wr M 58 (16 + 5 * k + 1) (nI (suV v k))) (by omega) (by omega) (by omega) c2 (wf_su hW e2) hg (by rw [wr_n _ _ _ _ (by omega)]; exact h70) (fun i hi => by rw [wr_n _ _ _ _ (by omega)]; exact hv i hi)
        refine ⟨M1, ?_, by rw [if_pos rfl]; exact c1, Sr.wr.tr s1⟩
        rw [ifT, x8_at1, bde, ck_in (by omega) (by decide), ck_in (by omega) (by decide), ix_nI (by omega), hv k (by omega), wme, bve, ad1, e1, f1, if_pos rfl]
theorem tw_load {S : Sta} (hW : WFS S) (x : Int32) : Two (fX7_load x) (fX8_load x) S := by
  have hn := hW.1.1
  cases hp : pIn 4 x
  · refine two_fd hW (i := 0) (by decide) (fun M h => ?_) (fun M h => ?_)
    · unfold fX7_load; rw [x7_lackOf h hW, hp, if_pos rfl, bde, if_neg (by decide)]; exact fd7 0 M
    · unfold fX8_load; rw [x8_isSheet, hp, bde, ifF]; exact fd8 0 M
  obtain ⟨s, hs, rfl⟩ := pIn_ex hp (by decide)
  have hix : ix (nI s) = s := ix_nI (by omega)
  obtain ⟨hb, hl⟩ := hW.2.2.2.2 s hs
  by_cases e : tSb S s = 0
  · refine two_fd hW (i := 5) (by decide) (fun M h => ?_) (fun M h => ?_)
    · unfold fX7_load; rw [x7_lackOf h hW, hp, if_neg (by decide), hix, if_pos e, bde, if_neg (by decide)]; exact fd7 5 M
    · unfold fX8_load; rw [x8_isSheet, hp, bde, ifT, ck_in hs (by decide), hix, (h.2.2.2.2.2.1 s hs).1, if_pos (by rw [e]; rfl)]; exact fd8 5 M
  have e0 : ¬ nI (tSb S s) = 0 := by rw [nI_0', lit_eq (by omega) (by decide)]; exact e
  refine two_L hW (nI (ldN (tSn S s) (min (tSl S s) (gN (tLa S))) 8 0)) (ldL (tSn S s) (min (tSl S s) (gN (tLa S))) 8 0 (tLa S)) (wf_ld 8 0 _ hW.1) (fun M h => ?_) (fun M h => ?_)
  · obtain ⟨g1, g2, g3⟩ := h.2.2.2.2.2.1 s hs
    have g6 : M 1 6 = nI (gN (tLa S)) := h.1.2.2.2.2.2.2.1
    obtain ⟨M1, e1, c1, s1⟩ := x7_load40 (N := min (tSl S s) (gN (tLa S))) hs (by omega) 8 fu 0 (tLa S) M (by omega) (by omega) (by show _ < 2000; omega) h.1 g3
    refine ⟨M1, ?_, c1, s1⟩
    unfold fX7_load
    rw [x7_lackOf h hW, hp, if_neg (by decide), hix, if_neg e, bde, if_pos rfl, ck_in hs (by decide), g2, g6, imin_nI (by omega) (by omega), bve]
    exact e1
  · obtain ⟨g1, g2, g3⟩ := h.2.2.2.2.2.1 s hs
    obtain ⟨M1, e1, c1, s1⟩ := x8_load32 (l := tSl S s) (P := gN (tLa S)) hs (by omega) (by omega) 8 fu 0 (tLa S) M (by omega) (by omega) (by show _ < 2000; omega) h.1 hW.1 rfl g2 g3
    refine ⟨M1, ?_, c1, s1⟩
    unfold fX8_load
    rw [x8_isSheet, hp, bde, ifT, ck_in hs (by decide), hix, g1, if_neg e0]
    exact e1

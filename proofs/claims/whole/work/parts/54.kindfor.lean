/-! kindFor, cloud -/
def kdL (L : Lan) (p v : Nat) : Lan := sKd L (uf (gKd L) p v)
theorem kd_kd (L : Lan) (p u v : Nat) : sKd (kdL L p u) (uf (gKd (kdL L p u)) p v) = kdL L p v := by
  show sKd L (uf (uf (gKd L) p u) p v) = _
  rw [uf_uf]; rfl
theorem kd_id (L : Lan) (p : Nat) : kdL L p (gKd L p) = L := by unfold kdL; rw [uf_id]; rfl
def kfN (L : Lan) (p : Nat) : Nat → Nat → Nat → Nat → Nat
  | 0, _, b, _ => b
  | f + 1, k, b, m => if metR (kdL L p k) p + 1 ≤ m then kfN L p f (k + 1) b m else kfN L p f (k + 1) k (metR (kdL L p k) p + 1)
theorem mI_leI {a m : Nat} (ha : a < 2 ^ 30) (hm : m < 2 ^ 30) : (nI a ≤ mI m) = (a + 1 ≤ m) := by
  apply propext
  rw [Int32.le_iff_toInt_le, mI_toInt hm, nI_toInt (by omega)]
  omega
theorem x7_kind24 {S : Sta} (hW : WFS S) {p : Nat} (hp : p < gN (tLa S)) : ∀ (f n k b m : Nat) (M : Mem), k + f = 7 → f < n → m ≤ 17 → AC M S → ∃ M1, fX7_kindFor_L24 n (nI p) (nI b) (mI m) (nI k) M = some (nI (kfN (tLa S) p f k b m), M1) ∧ FC M M1 := by
  have hn := hW.1.1
  intro f
  induction f with
  | zero =>
    intro n k b m M hk hn2 hm h
    obtain ⟨n, rfl⟩ : ∃ z, n = z + 1 := ⟨n - 1, by omega⟩
    have : k = 7 := by omega
    subst this
    exact ⟨M, by rw [fX7_kindFor_L24, if_pos (by decide)]; rfl, FC.rf⟩
  | succ f ih =>
    intro n k b m M hk hn2 hm h
    obtain ⟨n, rfl⟩ : ∃ z, n = z + 1 := ⟨n - 1, by omega⟩
    obtain ⟨M1, e1, c1, p1, p2, s1⟩ := x4_begin h.1 hW.1 (by decide)
    have c2 : CLn (wr M1 17 p (nI k)) 16 (kdL (tLa S) p k) := cl_Kd c1 k
    have w2 : WF (kdL (tLa S) p k) := wf_kd hW.1 (by omega)
    obtain ⟨M3, e3, r3, s3⟩ := x4_run c2 w2 (by rw [wr_n _ _ _ _ (by omega)]; exact p1) (by rw [wr_n _ _ _ _ (by omega)]; exact p2)
    have e4 := x4_metOf r3 w2 (p := p) hp
    have hs : SmR M M3 := (s1.tr (SmR.wr (by omega) (by omega))).tr s3
    have hc := metR_le (kdL (tLa S) p k) p
    have g7 : ¬ (7 : Int32) ≤ nI k := by rw [show (7 : Int32) = nI 7 from rfl, lit_le (by omega) (by omega)]; omega
    have hL : ∀ (kk : Int32 → Int32 → Int32 → Int32 → Mem → Option (Int32 × Mem)) (y2 y3 : Int32), fX7_kindFor_L87 kk (nI p) y2 y3 (nI k) M3 = kk (nI p) y2 y3 (nI (k + 1)) M3 := by
      intro kk y2 y3; unfold fX7_kindFor_L87; rw [bve, ad1]
    show ∃ M1, _ = some (nI (if metR (kdL (tLa S) p k) p + 1 ≤ m then kfN (tLa S) p f (k + 1) b m else kfN (tLa S) p f (k + 1) k (metR (kdL (tLa S) p k) p + 1)), M1) ∧ _
    by_cases c : metR (kdL (tLa S) p k) p + 1 ≤ m
    · obtain ⟨M4, e5, f5⟩ := ih n (k + 1) b m M3 (by omega) (by omega) hm (h.fc (FC.ofR hs))
      refine ⟨M4, ?_, (FC.ofR hs).tr f5⟩
      rw [fX7_kindFor_L24, if_neg g7, e1, bde, ck_in (by omega) (by decide), ix_nI (by omega), wme, e3, bde, e4, bde, if_pos (by rw [mI_leI (by omega) (by omega)]; exact c), hL, e5, if_pos c]
    · obtain ⟨M4, e5, f5⟩ := ih n (k + 1) k (metR (kdL (tLa S) p k) p + 1) M3 (by omega) (by omega) (by omega) (h.fc (FC.ofR hs))
      refine ⟨M4, ?_, (FC.ofR hs).tr f5⟩
      rw [fX7_kindFor_L24, if_neg g7, e1, bde, ck_in (by omega) (by decide), ix_nI (by omega), wme, e3, bde, e4, bde, if_neg (by rw [mI_leI (by omega) (by omega)]; exact c), e4, bde, hL, nI_mI (metR (kdL (tLa S) p k) p), e5, if_neg c]
theorem x8_kind30 {L : Lan} (hW : WF L) {p : Nat} (hp : p < gN L) : ∀ (f n k u b m : Nat) (y : Int32) (M : Mem), k + f = 7 → f < n → u ≤ 6 → m ≤ 17 → ((k = 0 ∧ m = 0) ∨ y = nI b) → RLn M 58 (kdL L p u) → ∃ M1, fX8_kindFor_L30 n (nI p) (nI (gKd L p)) y (mI m) (nI k) M = some (nI (kfN L p f k b m), M1) ∧ RLn M1 58 L ∧ FR M M1 := by
  have hn := hW.1
  intro f
  induction f with
  | zero =>
    intro n k u b m y M hk hn2 hu hm hy hC
    obtain ⟨n, rfl⟩ : ∃ z, n = z + 1 := ⟨n - 1, by omega⟩
    have e7 : k = 7 := by omega
    subst e7
    have hy2 : y = nI b := by rcases hy with q | q; omega; exact q
    have c := rl_Kd hC (i := p) (by omega) (gKd L p)
    rw [kd_kd, kd_id] at c
    refine ⟨_, ?_, c, FR.of Sr.wr⟩
    rw [fX8_kindFor_L30, if_pos (by decide), x8_at0, bde, ck_in (by omega) (by decide), ix_nI (by omega), wme, hy2]
    rfl
  | succ f ih =>
    intro n k u b m y M hk hn2 hu hm hy hC
    obtain ⟨n, rfl⟩ : ∃ z, n = z + 1 := ⟨n - 1, by omega⟩
    have c2 := rl_Kd hC (i := p) (by omega) k
    rw [kd_kd] at c2
    have w2 : WF (kdL L p k) := wf_kd hW (by omega)
    obtain ⟨M3, e3, c3, _, _, a3, _, f3⟩ := x8_findRest c2 w2 (p := p) hp
    have f2 : FR M M3 := (FR.of Sr.wr).tr f3
    have hc := metR_le (kdL L p k) p
    have g6 : ¬ (6 : Int32) < nI k := by rw [show (6 : Int32) = nI 6 from rfl, lit_lt (by omega) (by omega)]; omega
    have hL : ∀ (kk : Int32 → Int32 → Int32 → Int32 → Int32 → Mem → Option (Int32 × Mem)) (w : Int32), fX8_kindFor_L69 kk (nI p) (nI (gKd L p)) (mI m) (nI k) w M3 = kk (nI p) (nI (gKd L p)) w (if metR (kdL L p k) p + 1 ≤ m then mI m else nI (metR (kdL L p k) p)) (nI (k + 1)) M3 := by
      intro kk w
      have hm1 : imax (mI m) (nI (metR (kdL L p k) p)) = if metR (kdL L p k) p + 1 ≤ m then mI m else nI (metR (kdL L p k) p) := by
        unfold imax
        by_cases c : metR (kdL L p k) p + 1 ≤ m
        · rw [if_pos c]
          by_cases d : mI m < nI (metR (kdL L p k) p)
          · rw [Int32.lt_iff_toInt_lt, mI_toInt (by omega), nI_toInt (by omega)] at d
            omega
          · rw [if_neg d]
        · rw [if_neg c, if_pos (by rw [Int32.lt_iff_toInt_lt, mI_toInt (by omega), nI_toInt (by omega)]; omega)]
      unfold fX8_kindFor_L69; rw [a3, hm1, bve, bve, ad1]
    show ∃ M1, _ = some (nI (if metR (kdL L p k) p + 1 ≤ m then kfN L p f (k + 1) b m else kfN L p f (k + 1) k (metR (kdL L p k) p + 1)), M1) ∧ _
    by_cases c : metR (kdL L p k) p + 1 ≤ m
    · have hy2 : y = nI b := by rcases hy with q | q; omega; exact q
      obtain ⟨M4, e5, c5, f5⟩ := ih n (k + 1) k b m y M3 (by omega) (by omega) (by omega) hm (Or.inr hy2) c3
      refine ⟨M4, ?_, c5, f2.tr f5⟩
      rw [fX8_kindFor_L30, if_neg g6, x8_at0, bde, ck_in (by omega) (by decide), ix_nI (by omega), wme, e3, bde, a3, if_pos (by rw [mI_leI (by omega) (by omega)]; exact c), hL, if_pos c, e5, if_pos c]
    · obtain ⟨M4, e5, c5, f5⟩ := ih n (k + 1) k k (metR (kdL L p k) p + 1) (nI k) M3 (by omega) (by omega) (by omega) (by omega) (Or.inr rfl) c3
      refine ⟨M4, ?_, c5, f2.tr f5⟩
      rw [fX8_kindFor_L30, if_neg g6, x8_at0, bde, ck_in (by omega) (by decide), ix_nI (by omega), wme, e3, bde, a3, if_neg (by rw [mI_leI (by omega) (by omega)]; exact c), hL, if_neg c, nI_mI (metR (kdL L p k) p), e5, if_neg c]
theorem tw_kindFor {S : Sta} (hW : WFS S) (x : Int32) : Two (fX7_kindFor x) (fX8_kindFor x) S := by
  have hn := hW.1.1
  cases hp : pIn (gN (tLa S)) x
  · refine two_fd hW (i := 0) (by decide) (fun M h => ?_) (fun M h => ?_)
    · unfold fX7_kindFor; rw [x1_isPerson h.1 hW.1, hp, bde, ifF]; exact fd7 0 M
    · unfold fX8_kindFor; rw [x8_isPerson h.1 hW.1, hp, bde, ifF]; exact fd8 0 M
  obtain ⟨p, hpn, rfl⟩ := pIn_ex hp (by omega)
  have hg := (hW.1.2.2.2.1 p (by omega)).1
  refine two_q hW (nI (kfN (tLa S) p 7 0 0 0)) (fun M h => ?_) (fun M h => ?_)
  · obtain ⟨M1, e1, f1⟩ := x7_kind24 hW hpn 7 fu 0 0 0 M (by omega) (by show _ < 2000; omega) (by omega) h
    refine ⟨M1, ?_, f1⟩
    unfold fX7_kindFor
    rw [x1_isPerson h.1 hW.1, hp, bde, ifT]
    exact e1
  · have hC : RLn M 58 (kdL (tLa S) p (gKd (tLa S) p)) := by rw [kd_id]; exact h.1
    obtain ⟨M1, e1, c1, f1⟩ := x8_kind30 hW.1 hpn 7 fu 0 (gKd (tLa S) p) 0 0 (-1) M (by omega) (by show _ < 2000; omega) hg (by omega) (Or.inl ⟨rfl, rfl⟩) hC
    refine ⟨M1, ?_, c1, f1⟩
    unfold fX8_kindFor
    rw [x8_isPerson h.1 hW.1, hp, bde, ifT, x8_Kd h.1 (by omega), bde]
    exact e1
def liL (L : Lan) (v : Nat) : Lan := sL L v
def tot (L : Lan) : Nat := smN (metR L) (gN L)
theorem tot_le {L : Lan} (hW : WF L) : tot L ≤ 128 := by
  have h1 := smN_le (f := metR L) (c := 16) (fun k => metR_le L k) (gN L)
  have := hW.1
  unfold tot
  omega
def clN (L : Lan) : Nat → Nat → Nat → Nat → Nat
  | 0, _, b, _ => b
  | f + 1, h, b, m => if tot (liL L (gL L ^^^ 2 ^ h)) ≤ m then clN L f (h + 1) b m else clN L f (h + 1) (h + 1) (tot (liL L (gL L ^^^ 2 ^ h)))
theorem xr_lt {a h : Nat} (ha : a < 65536) (hh : h < 16) : a ^^^ 2 ^ h < 65536 := by
  have h2 : 2 ^ h < 2 ^ 16 := Nat.pow_lt_pow_right (by decide) hh
  exact Nat.xor_lt_two_pow (n := 16) ha h2
theorem x7_cloud23 {S : Sta} (hW : WFS S) : ∀ (f n h b m : Nat) (M : Mem), h + f = 16 → f < n → m ≤ 128 → b ≤ 16 → AC M S → ∃ M1, fX7_cloud_L23 n (nI m) (mI b) (nI h) M = some (mI (clN (tLa S) f h b m), M1) ∧ FC M M1 := by
  have hn := hW.1.1
  have hl := hW.1.2.2.1
  intro f
  induction f with
  | zero =>
    intro n h b m M hk hn2 hm hb hA
    obtain ⟨n, rfl⟩ : ∃ z, n = z + 1 := ⟨n - 1, by omega⟩
    exact ⟨M, by rw [fX7_cloud_L23, if_pos (by rw [ge16 (by omega)]; omega)]; rfl, FC.rf⟩
  | succ f ih =>
    intro n h b m M hk hn2 hm hb hA
    obtain ⟨n, rfl⟩ : ∃ z, n = z + 1 := ⟨n - 1, by omega⟩
    obtain ⟨M1, e1, c1, p1, p2, s1⟩ := x4_begin hA.1 hW.1 (by decide)
    have h7 : M1 16 7 = nI (gL (tLa S)) := c1.2.2.2.2.2.2.2.1
    have hx : M1 16 7 ^^^ shl 1 (nI h) = nI (gL (tLa S) ^^^ 2 ^ h) := by rw [h7, shl_1 (by omega), nI_xor]
    have c2 : CLn (wr M1 16 7 (nI (gL (tLa S) ^^^ 2 ^ h))) 16 (liL (tLa S) (gL (tLa S) ^^^ 2 ^ h)) := cl_L c1 _
    have w2 : WF (liL (tLa S) (gL (tLa S) ^^^ 2 ^ h)) := wf_l hW.1 (xr_lt hl (by omega))
    have q1 : wr M1 16 7 (nI (gL (tLa S) ^^^ 2 ^ h)) 15 2 = nI (gH (tLa S)) := by rw [wr_n _ _ _ _ (by omega)]; exact p1
    have q2 : wr M1 16 7 (nI (gL (tLa S) ^^^ 2 ^ h)) 15 3 = nI (rstN (tLa S)) := by rw [wr_n _ _ _ _ (by omega)]; exact p2
    obtain ⟨M3, e3, r3, s3⟩ := x4_run c2 w2 q1 q2
    have e4 : fX4_metOfAll M3 = some (nI (tot (liL (tLa S) (gL (tLa S) ^^^ 2 ^ h))), M3) := x4_metOfAll r3 w2
    have hs : SmR M M3 := (s1.tr (SmR.wr (by omega) (by omega))).tr s3
    have ht := tot_le w2
    have g16 : ¬ (16 : Int32) ≤ nI h := by rw [ge16 (by omega)]; omega
    have hL : ∀ (kk : Int32 → Int32 → Int32 → Mem → Option (Int32 × Mem)) (y1 y2 : Int32), fX7_cloud_L86 kk y1 y2 (nI h) M3 = kk y1 y2 (nI (h + 1)) M3 := by
      intro kk y1 y2; unfold fX7_cloud_L86; rw [bve, ad1]
    show ∃ M1, _ = some (mI (if tot (liL (tLa S) (gL (tLa S) ^^^ 2 ^ h)) ≤ m then clN (tLa S) f (h + 1) b m else clN (tLa S) f (h + 1) (h + 1) (tot (liL (tLa S) (gL (tLa S) ^^^ 2 ^ h)))), M1) ∧ _
    by_cases c : tot (liL (tLa S) (gL (tLa S) ^^^ 2 ^ h)) ≤ m
    · obtain ⟨M4, e5, f5⟩ := ih n (h + 1) b m M3 (by omega) (by omega) hm hb (hA.fc (FC.ofR hs))
      refine ⟨M4, ?_, (FC.ofR hs).tr f5⟩
      rw [fX7_cloud_L23, if_neg g16, e1, bde, hx, wme, e3, bde, e4, bde, if_pos (by rw [lit_le (by omega) (by omega)]; exact c), hL, e5, if_pos c]
    · obtain ⟨M4, e5, f5⟩ := ih n (h + 1) (h + 1) (tot (liL (tLa S) (gL (tLa S) ^^^ 2 ^ h))) M3 (by omega) (by omega) (by omega) (by omega) (hA.fc (FC.ofR hs))
      rw [mI_s] at e5
      refine ⟨M4, ?_, (FC.ofR hs).tr f5⟩
      rw [fX7_cloud_L23, if_neg g16, e1, bde, hx, wme, e3, bde, e4, bde, if_neg (by rw [lit_le (by omega) (by omega)]; exact c), e4, bde, hL, e5, if_neg c]
theorem li_li (L : Lan) (u v : Nat) : sL (liL L u) v = liL L v := rfl
theorem li_id (L : Lan) : liL L (gL L) = L := rfl
theorem x8_cloud17 {L : Lan} (hW : WF L) : ∀ (f n h u b m : Nat) (M : Mem), h + f = 16 → f < n → u < 65536 → m ≤ 128 → b ≤ 16 → RLn M 58 (liL L u) → ∃ M1, fX8_cloud_L17 n (nI (gL L)) (mI b) (nI m) (nI h) M = some (mI (clN L f h b m), M1) ∧ RLn M1 58 L ∧ FR M M1 := by
  have hn := hW.1
  have hl := hW.2.2.1
  intro f
  induction f with
  | zero =>
    intro n h u b m M hk hn2 hu hm hb hC
    obtain ⟨n, rfl⟩ : ∃ z, n = z + 1 := ⟨n - 1, by omega⟩
    have c := rl_L hC (gL L)
    rw [li_li, li_id] at c
    refine ⟨_, ?_, c, FR.of Sr.wr⟩
    rw [fX8_cloud_L17, if_pos (by rw [ge16 (by omega)]; omega), ckl_3_56, wme, ixl_3]
    rfl
  | succ f ih =>
    intro n h u b m M hk hn2 hu hm hb hC
    obtain ⟨n, rfl⟩ : ∃ z, n = z + 1 := ⟨n - 1, by omega⟩
    have hx : nI (gL L) ^^^ shl 1 (nI h) = nI (gL L ^^^ 2 ^ h) := by rw [shl_1 (by omega), nI_xor]
    have c2 := rl_L hC (gL L ^^^ 2 ^ h)
    rw [li_li] at c2
    have w2 : WF (liL L (gL L ^^^ 2 ^ h)) := wf_l hW (xr_lt hl (by omega))
    obtain ⟨M3, e3, c3, f3⟩ := x8_metByAll c2 w2
    have e4 : fX8_metByAll (wr M 58 3 (nI (gL L ^^^ 2 ^ h))) = some (nI (tot (liL L (gL L ^^^ 2 ^ h))), M3) := e3
    have f2 : FR M M3 := (FR.of Sr.wr).tr f3
    have ht := tot_le w2
    have g16 : ¬ (16 : Int32) ≤ nI h := by rw [ge16 (by omega)]; omega
    have hL : ∀ (kk : Int32 → Int32 → Int32 → Int32 → Mem → Option (Int32 × Mem)) (w : Int32), fX8_cloud_L54 kk (nI (gL L)) (nI m) (nI h) (nI (tot (liL L (gL L ^^^ 2 ^ h)))) w M3 = kk (nI (gL L)) w (nI (max m (tot (liL L (gL L ^^^ 2 ^ h))))) (nI (h + 1)) M3 := by
      intro kk w
      unfold fX8_cloud_L54
      rw [imax_nI (by omega) (by omega), bve, bve, ad1]
    show ∃ M1, _ = some (mI (if tot (liL L (gL L ^^^ 2 ^ h)) ≤ m then clN L f (h + 1) b m else clN L f (h + 1) (h + 1) (tot (liL L (gL L ^^^ 2 ^ h)))), M1) ∧ _
    by_cases c : tot (liL L (gL L ^^^ 2 ^ h)) ≤ m
    · obtain ⟨M4, e5, c5, f5⟩ := ih n (h + 1) (gL L ^^^ 2 ^ h) b m M3 (by omega) (by omega) (xr_lt hl (by omega)) hm hb c3
      refine ⟨M4, ?_, c5, f2.tr f5⟩
      rw [fX8_cloud_L17, if_neg g16, ckl_3_56, wme, ixl_3, hx, e4, bde, if_pos (by rw [lit_le (by omega) (by omega)]; exact c), hL, Nat.max_eq_left c, e5, if_pos c]
    · obtain ⟨M4, e5, c5, f5⟩ := ih n (h + 1) (gL L ^^^ 2 ^ h) (h + 1) (tot (liL L (gL L ^^^ 2 ^ h))) M3 (by omega) (by omega) (xr_lt hl (by omega)) (by omega) (by omega) c3
      rw [mI_s] at e5
      refine ⟨M4, ?_, c5, f2.tr f5⟩
      rw [fX8_cloud_L17, if_neg g16, ckl_3_56, wme, ixl_3, hx, e4, bde, if_neg (by rw [lit_le (by omega) (by omega)]; exact c), hL, Nat.max_eq_right (by omega), e5, if_neg c]
theorem tw_cloud {S : Sta} (hW : WFS S) : Two fX7_cloud fX8_cloud S := by
  have ht := tot_le hW.1
  refine two_q hW (mI (clN (tLa S) 16 0 0 (tot (tLa S)))) (fun M h => ?_) (fun M h => ?_)
  · obtain ⟨M1, e1, r1, s1⟩ := x4_see h.1 hW.1 (by decide)
    have e2 : fX4_metOfAll M1 = some (nI (tot (tLa S)), M1) := x4_metOfAll r1 hW.1
    obtain ⟨M2, e3, f3⟩ := x7_cloud23 hW 16 fu 0 0 (tot (tLa S)) M1 (by omega) (by show _ < 2000; omega) ht (by omega) (h.fc (FC.ofR s1))
    refine ⟨M2, ?_, (FC.ofR s1).tr f3⟩
    unfold fX7_cloud
    rw [e1, bde, e2, bde]
    exact e3
  · have h3 : M 58 3 = nI (gL (tLa S)) := h.1.2.2.2.2.2.2.2.1
    obtain ⟨M1, e1, c1, f1⟩ := x8_metByAll h.1 hW.1
    have e2 : fX8_metByAll M = some (nI (tot (tLa S)), M1) := e1
    obtain ⟨M2, e3, c3, f3⟩ := x8_cloud17 hW.1 16 fu 0 (gL (tLa S)) 0 (tot (tLa S)) M1 (by omega) (by show _ < 2000; omega) hW.1.2.2.1 ht (by omega) (by rw [li_id]; exact c1)
    refine ⟨M2, ?_, c3, f1.tr f3⟩
    unfold fX8_cloud
    rw [ckl_3_56, ixl_3, h3, bve, e2, bde]
    exact e3

/-! days, hold, as -/
def lo16 (x : Int32) : Nat := x.toBitVec.toNat % 65536
theorem lo16_lt (x : Int32) : lo16 x < 65536 := Nat.mod_lt _ (by decide)
theorem lo16_e (x : Int32) : x &&& 65535 = nI (lo16 x) := by
  apply b_ext
  intro i hi
  rw [b_and, b_nI _ hi, show (65535 : Int32) = nI (2 ^ 16 - 1) from rfl, b_nI _ hi, Nat.testBit_two_pow_sub_one]
  unfold lo16
  rw [show (65536 : Nat) = 2 ^ 16 from rfl, Nat.testBit_mod_two_pow, Bool.and_comm]
  rfl
def drw (x : Int32) : Int32 := x * 1103515245 + 12345
def dayL (L : Lan) : Lan := hrsN 16 (sH (sL (sDr L (drw (gDr L))) (lo16 (ush (drw (gDr L)) 8))) 0)
def dyN : Nat → Lan → Lan
  | 0, L => L
  | k + 1, L => dyN k (dayL L)
theorem wf_dr {L : Lan} (hW : WF L) (v : Int32) : WF (sDr L v) := hW
theorem wf_day0 {L : Lan} (hW : WF L) : WF (sH (sL (sDr L (drw (gDr L))) (lo16 (ush (drw (gDr L)) 8))) 0) := wf_H (wf_l (wf_dr hW _) (lo16_lt _)) (by decide)
theorem wf_day {L : Lan} (hW : WF L) : WF (dayL L) := wf_hrs 16 _ (wf_day0 hW) (Nat.le_refl _)
theorem wf_dy (k : Nat) : ∀ L : Lan, WF L → WF (dyN k L) := by
  induction k with
  | zero => intro L h; exact h
  | succ k ih => intro L h; exact ih _ (wf_day h)
theorem x1_draw {M : Mem} {L : Lan} (hC : CLn M 1 L) : ∃ M1, fX1_draw 1 M = some (ush (drw (gDr L)) 8, M1) ∧ CLn M1 1 (sDr L (drw (gDr L))) ∧ Sm 1 M M1 := by
  have h8 : M 1 11 = gDr L := hC.2.2.2.2.2.2.2.2.2.2.2
  refine ⟨wr M 1 11 (drw (gDr L)), ?_, cl_Dr hC _, Sm.wr (by omega) (by omega)⟩
  unfold fX1_draw
  rw [wme, h8]
  show some (ush (wr M 1 11 (drw (gDr L)) 1 11) 8, _) = _
  rw [wr_app, if_pos rfl, if_pos rfl]
  rfl
theorem x8_drawn {M : Mem} {L : Lan} (hC : RLn M 58 L) : ∃ M1, fX8_drawn M = some (ush (drw (gDr L)) 8, M1) ∧ RLn M1 58 (sDr L (drw (gDr L))) ∧ Sr M M1 := by
  have h8 : M 58 5 = gDr L := hC.2.2.2.2.2.2.2.2.2.2.2
  refine ⟨wr M 58 5 (drw (gDr L)), ?_, rl_Dr hC _, Sr.wr⟩
  unfold fX8_drawn
  rw [ckl_5_56, ckl_5_56, wme, ckl_5_56, ixl_5, h8]
  show some (ush (wr M 58 5 (drw (gDr L)) 58 5) 8, _) = _
  rw [wr_app, if_pos rfl, if_pos rfl]
  rfl
theorem x7_days49 {m : Nat} (hm : m < 2 ^ 30) : ∀ (n k : Nat) (L : Lan) (M : Mem), CLn M 1 L → WF L → k ≤ m → m - k < n → ∃ M1, fX7_days_L49 n (nI m) (nI k) M = some (gMe (dyN (m - k) L), M1) ∧ CLn M1 1 (dyN (m - k) L) ∧ Sm 1 M M1 := by
  intro n
  induction n with
  | zero => intro k L M _ _ _ h2; omega
  | succ n ih =>
    intro k L M hC hW hk hn
    rw [fX7_days_L49]
    by_cases e : m ≤ k
    · have : m - k = 0 := by omega
      rw [this]
      refine ⟨M, ?_, hC, Sm.rf⟩
      have h9 : M 1 9 = gMe L := hC.2.2.2.2.2.2.2.2.2.1
      rw [if_pos (by rw [lit_le (by omega) (by omega)]; exact e), h9]
      rfl
    · obtain ⟨M1, e1, c1, s1⟩ := x1_draw hC
      have c2 := cl_L c1 (lo16 (ush (drw (gDr L)) 8))
      have c3 := cl_H c2 0
      obtain ⟨M4, e4, c4, s4⟩ := x1_passHours (m := 16) c3 (wf_day0 hW) (Nat.le_refl _)
      obtain ⟨M5, e5, c5, s5⟩ := ih (k + 1) (dayL L) M4 c4 (wf_day hW) (by omega) (by omega)
      have ek : m - k = (m - (k + 1)) + 1 := by omega
      refine ⟨M5, ?_, by rw [ek]; exact c5, (((s1.tr (Sm.wr (by omega) (by omega))).tr (Sm.wr (by omega) (by omega))).tr s4).tr s5⟩
      rw [if_neg (by rw [lit_le (by omega) (by omega)]; exact e), e1, bde, wme, wme, lo16_e]
      have e4' : fX1_passHours 1 16 (wr (wr M1 1 7 (nI (lo16 (ush (drw (gDr L)) 8)))) 1 8 0) = some ((), M4) := e4
      rw [e4', bde, bve, ad1, e5, ek]
      rfl
theorem x8_days50 {m : Nat} (hm : m < 2 ^ 30) : ∀ (n k : Nat) (y : Int32) (L : Lan) (M : Mem), RLn M 58 L → WF L → k ≤ m → (k = m → y = gMe L) → m - k < n → ∃ M1, fX8_days_L50 n (nI m) y (nI k) M = some (gMe (dyN (m - k) L), M1) ∧ RLn M1 58 (dyN (m - k) L) ∧ Sr M M1 := by
  intro n
  induction n with
  | zero => intro k y L M _ _ _ _ h2; omega
  | succ n ih =>
    intro k y L M hC hW hk hy hn
    rw [fX8_days_L50]
    by_cases e : m ≤ k
    · have : m - k = 0 := by omega
      rw [this]
      refine ⟨M, ?_, hC, Sr.rf⟩
      rw [if_pos (by rw [lit_le (by omega) (by omega)]; exact e), hy (by omega)]
      rfl
    · obtain ⟨M1, e1, c1, s1⟩ := x8_drawn hC
      have c2 := rl_L c1 (lo16 (ush (drw (gDr L)) 8))
      have c3 := rl_H c2 0
      obtain ⟨M4, e4, c4, s4⟩ := x8_hoursGo (m := 16) c3 (wf_day0 hW) (Nat.le_refl _)
      obtain ⟨M5, e5, c5, s5⟩ := ih (k + 1) _ (dayL L) M4 c4 (wf_day hW) (by omega) (fun _ => rfl) (by omega)
      have ek : m - k = (m - (k + 1)) + 1 := by omega
      refine ⟨M5, ?_, by rw [ek]; exact c5, (((s1.tr Sr.wr).tr Sr.wr).tr s4).tr s5⟩
      rw [if_neg (by rw [lit_le (by omega) (by omega)]; exact e), e1, bde, ckl_3_56, wme, ckl_0_56, wme, lo16_e, ixl_3, ixl_0]
      have e4' : fX8_hoursGo 16 (wr (wr M1 58 3 (nI (lo16 (ush (drw (gDr L)) 8)))) 58 0 0) = some (gMe (dayL L), M4) := e4
      rw [e4', bde, bve, ad1, e5, ek]
      rfl
theorem tw_days {S : Sta} (hW : WFS S) (x : Int32) : Two (fX7_days x) (fX8_days x) S := by
  have e7 : ∀ M, fX7_days x M = if 1 ≤ x.toInt ∧ x.toInt ≤ ((20 : Nat) : Int) then (if 90000 < (M 1 9) then (fX7_days_L41 M) else (if (M 1 10) ≤ 90000 then (fX7_days_L49 fu x 0 M) else (fX7_days_L41 M))) else (fX7_days_L11 M) := by
    intro M
    unfold fX7_days
    rw [← x7_1k x (k := 20) (by decide)]
    rfl
  by_cases hx : 1 ≤ x.toInt ∧ x.toInt ≤ ((20 : Nat) : Int)
  · obtain ⟨m, h1, h2, rfl⟩ := of_1k hx
    have g8 : ∀ M, fX8_days (nI m) M = (if 90000 < (M 58 1) then (fX8_days_L39 M) else (if (M 58 2) ≤ 90000 then (fX8_days_L50 fu (nI m) 0 0 M) else (fX8_days_L39 M))) := by
      intro M
      unfold fX8_days
      rw [show (20 : Int32) = nI 20 from rfl, x8_within1 _ M (by decide), decide_eq_true hx, bde, ifT, ckl_1_56, ckl_2_56, ixl_1, ixl_2]
    have m9 : ∀ M, AC M S → M 1 9 = gMe (tLa S) := fun M h => h.1.2.2.2.2.2.2.2.2.2.1
    have m10 : ∀ M, AC M S → M 1 10 = gMs (tLa S) := fun M h => h.1.2.2.2.2.2.2.2.2.2.2.1
    have r1 : ∀ M, AR M S → M 58 1 = gMe (tLa S) := fun M h => h.1.2.2.2.2.2.2.2.2.2.1
    have r2 : ∀ M, AR M S → M 58 2 = gMs (tLa S) := fun M h => h.1.2.2.2.2.2.2.2.2.2.2.1
    by_cases hb : 90000 < gMe (tLa S) ∨ ¬ gMs (tLa S) ≤ 90000
    · refine two_fd hW (i := 4) (by decide) (fun M h => ?_) (fun M h => ?_)
      · rw [e7, if_pos hx, m9 M h, m10 M h]
        by_cases a : 90000 < gMe (tLa S)
        · rw [if_pos a]; exact fd7 4 M
        · rw [if_neg a, if_neg (by rcases hb with q | q; exact absurd q a; exact q)]; exact fd7 4 M
      · rw [g8, r1 M h, r2 M h]
        by_cases a : 90000 < gMe (tLa S)
        · rw [if_pos a]; exact fd8 4 M
        · rw [if_neg a, if_neg (by rcases hb with q | q; exact absurd q a; exact q)]; exact fd8 4 M
    · have a : ¬ 90000 < gMe (tLa S) := fun q => hb (Or.inl q)
      have b : gMs (tLa S) ≤ 90000 := Classical.byContradiction fun q => hb (Or.inr q)
      refine two_L hW (gMe (dyN m (tLa S))) (dyN m (tLa S)) (wf_dy m _ hW.1) (fun M h => ?_) (fun M h => ?_)
      · obtain ⟨M1, e1, c1, s1⟩ := x7_days49 (m := m) (by omega) fu 0 (tLa S) M h.1 hW.1 (by omega) (by show _ < 2000; omega)
        rw [Nat.sub_zero] at e1 c1
        refine ⟨M1, ?_, c1, s1⟩
        rw [e7, if_pos hx, m9 M h, m10 M h, if_neg a, if_pos b, ← e1]
        rfl
      · obtain ⟨M1, e1, c1, s1⟩ := x8_days50 (m := m) (by omega) fu 0 0 (tLa S) M h.1 hW.1 (by omega) (fun q => by omega) (by show _ < 2000; omega)
        rw [Nat.sub_zero] at e1 c1
        refine ⟨M1, ?_, c1, s1⟩
        rw [g8, r1 M h, r2 M h, if_neg a, if_pos b, ← e1]
        rfl
  · refine two_fd hW (i := 0) (by decide) (fun M h => ?_) (fun M h => ?_)
    · rw [e7, if_neg hx]
      exact fd7 0 M
    · unfold fX8_days
      rw [show (20 : Int32) = nI 20 from rfl, x8_within1 _ M (by decide), decide_eq_false hx, bde, ifF]
      exact fd8 0 M
theorem wf_sp {L : Lan} (hW : WF L) {i v : Nat} (hv : v ≤ gN L) : WF (sSp L (uf (gSp L) i v)) := by
  obtain ⟨a1, a2, a3, a4, a5, a6⟩ := hW
  refine ⟨a1, a2, a3, a4, a5, fun j hj => ?_⟩
  show uf (gSp L) i v j ≤ gN L
  have := a6 j hj
  unfold uf
  split <;> omega
theorem w8_10 (x : Int32) (M : Mem) : fX7_isWithin x 9 M = some (bI (pIn 10 x), M) := x7_isWithin (k := 9) x M (by decide)
theorem w7_7 (x : Int32) (M : Mem) : fX7_isWithin x 6 M = some (bI (pIn 7 x), M) := x7_isWithin (k := 6) x M (by decide)
theorem hold_7 {S : Sta} {M : Mem} (h : AC M S) {i v : Nat} {x : Int32} (hi : i < 10) (hx : x = mI v) : ∃ M1, fX7_hold_L31 (nI i) x M = some (1, M1) ∧ CLn M1 1 (sSp (tLa S) (uf (gSp (tLa S)) i v)) ∧ Sm 1 M M1 := by
  subst hx
  refine ⟨wr M 7 i (mI v), ?_, cl_Sp h.1 v, Sm.wr (by omega) (by omega)⟩
  unfold fX7_hold_L31
  rw [ck_in hi (by decide), wme, ix_nI (by omega)]
theorem hold_8 {S : Sta} {M : Mem} (h : AR M S) {i v : Nat} {x : Int32} (hi : i < 10) (hx : x = mI v) : ∃ M1, fX8_hold_L27 (nI i) x M = some (1, M1) ∧ RLn M1 58 (sSp (tLa S) (uf (gSp (tLa S)) i v)) ∧ Sr M M1 := by
  subst hx
  refine ⟨wr M 58 (6 + i) (mI v), ?_, rl_Sp h.1 hi v, Sr.wr⟩
  unfold fX8_hold_L27
  rw [show (6 : Int32) + nI i = nI (6 + i) from nI_add 6 i, ck_in (by omega) (by decide), wme, ix_nI (by omega)]
theorem tw_hold {S : Sta} (hW : WFS S) (x y : Int32) : Two (fX7_hold x y) (fX8_hold x y) S := by
  have hn := hW.1.1
  have bad : (∀ M, AC M S → fX7_hold x y M = fX7_hold_L25 M) → (∀ M, AR M S → fX8_hold x y M = fX8_hold_L20 M) → Two (fX7_hold x y) (fX8_hold x y) S := fun a b =>
    two_fd hW (i := 0) (by decide) (fun M h => by rw [a M h]; exact fd7 0 M) (fun M h => by rw [b M h]; exact fd8 0 M)
  cases hp : pIn 10 x
  · refine bad (fun M h => ?_) (fun M h => ?_)
    · unfold fX7_hold
      rw [w8_10, hp, bde, ifF]
    · unfold fX8_hold
      rw [x8_isSpot, hp, bde, ifF]
  · obtain ⟨i, hi, rfl⟩ := pIn_ex hp (by decide)
    have r7 : ∀ M, fX7_hold (nI i) y M = (if y = (-1) then (fX7_hold_L31 (nI i) y M) else (bd (fX1_isPerson 1 y M) fun r4 M3 => (if r4 = 0 then (fX7_hold_L25 M3) else (fX7_hold_L31 (nI i) y M3)))) := by
      intro M
      unfold fX7_hold
      rw [w8_10, hp, bde, ifT]
    have r8 : ∀ M, fX8_hold (nI i) y M = (if y = (-1) then (fX8_hold_L27 (nI i) y M) else (bd (fX8_isPerson y M) fun r4 M3 => (if r4 = 0 then (fX8_hold_L20 M3) else (fX8_hold_L27 (nI i) y M3)))) := by
      intro M
      unfold fX8_hold
      rw [x8_isSpot, hp, bde, ifT]
    by_cases e : y = -1
    · refine two_L hW 1 (sSp (tLa S) (uf (gSp (tLa S)) i 0)) (wf_sp hW.1 (Nat.zero_le _)) (fun M h => ?_) (fun M h => ?_)
      · rw [r7, if_pos e]; exact hold_7 h hi e
      · rw [r8, if_pos e]; exact hold_8 h hi e
    · cases hq : pIn (gN (tLa S)) y
      · refine bad (fun M h => ?_) (fun M h => ?_)
        · rw [r7, if_neg e, x1_isPerson h.1 hW.1, hq, bde, ifF]
        · rw [r8, if_neg e, x8_isPerson h.1 hW.1, hq, bde, ifF]
      · obtain ⟨p, hpn, rfl⟩ := pIn_ex hq (by omega)
        refine two_L hW 1 (sSp (tLa S) (uf (gSp (tLa S)) i (p + 1))) (wf_sp hW.1 (by omega)) (fun M h => ?_) (fun M h => ?_)
        · rw [r7, if_neg e, x1_isPerson h.1 hW.1, hq, bde, ifT]; exact hold_7 h hi (nI_mI p)
        · rw [r8, if_neg e, x8_isPerson h.1 hW.1, hq, bde, ifT]; exact hold_8 h hi (nI_mI p)

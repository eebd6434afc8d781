/-! strong, kindFor, cloud -/
theorem cold_le (L : Lan) (p : Nat) : ∀ n h : Nat, cold L p n h ≤ h + n := by
  intro n
  induction n with
  | zero => intro h; exact Nat.le_refl _
  | succ n ih =>
    intro h
    show (if gH L ≤ h ∧ svB L p h = false then h else cold L p n (h + 1)) ≤ _
    split
    · omega
    · have := ih (h + 1); omega
theorem cold_16 {L : Lan} (hW : WF L) (p : Nat) : (srvN L p = rstN L) ↔ cold L p 16 0 = 16 := by
  constructor
  · intro e
    have h : ∀ k, 0 ≤ k → k < 0 + 16 → clB L p k = false := by
      intro k _ hk
      have t := congrArg (fun z => Nat.testBit z k) e
      simp only [srvN, stN_tb, rstN_tb hW] at t
      unfold clB
      have hk' : k < 16 := by omega
      simp only [hk', decide_true, Bool.true_and, Bool.and_true] at t
      rw [t]
      cases decide (gH L ≤ k) <;> rfl
    rw [cold_none 16 0 h]
  · intro e
    have h : ∀ k, k < 16 → clB L p k = false := by
      intro k hk
      cases hc : clB L p k
      · rfl
      · have := cold_lt (L := L) (p := p) 16 0 ⟨k, by omega, by omega, hc⟩
        omega
    have hr : rstN L < 65536 := rstN_lt L
    rw [← st_of hr]
    unfold srvN
    apply stN_congr
    intro k hk
    have hk2 := h k hk
    rw [rstN_tb hW]
    unfold clB at hk2
    have hs : svB L p k = (decide (gH L ≤ k) && svB L p k) := by unfold svB; cases decide (gH L ≤ k) <;> rfl
    rw [hs, decide_eq_true hk, Bool.and_true]
    cases hg : decide (gH L ≤ k)
    · rfl
    · rw [hg] at hk2
      simp only [Bool.true_and, Bool.not_eq_false'] at hk2
      rw [hk2]; rfl
theorem uf_uf (f : Nat → Nat) (p u v : Nat) : uf (uf f p u) p v = uf f p v := by
  funext j
  unfold uf
  by_cases e : j = p
  · rw [if_pos e, if_pos e]
  · rw [if_neg e, if_neg e, if_neg e]
theorem uf_id (f : Nat → Nat) (p : Nat) : uf f p (f p) = f := by
  funext j
  unfold uf
  by_cases e : j = p
  · rw [if_pos e, e]
  · rw [if_neg e]
def sgL (L : Lan) (p v : Nat) : Lan := sSg L (uf (gSg L) p v)
theorem sg_sg (L : Lan) (p u v : Nat) : sSg (sgL L p u) (uf (gSg (sgL L p u)) p v) = sgL L p v := by
  show sSg L (uf (uf (gSg L) p u) p v) = _
  rw [uf_uf]; rfl
theorem sg_id (L : Lan) (p : Nat) : sgL L p (gSg L p) = L := by unfold sgL; rw [uf_id]; rfl
def stF (L : Lan) (p : Nat) : Nat → Nat → Nat
  | 0, _ => 10
  | f + 1, v => if cold (sgL L p v) p 16 0 = 16 then v else stF L p f (v + 1)
theorem x7_strong19 {S : Sta} (hW : WFS S) {p : Nat} (hp : p < gN (tLa S)) : ∀ (f n v : Nat) (M : Mem), v + f = 10 → f < n → AC M S → ∃ M1, fX7_strong_L19 n (nI p) (nI v) M = (if stF (tLa S) p f v < 10 then some (nI (stF (tLa S) p f v), M1) else fX7_found (nI 3) M1) ∧ FC M M1 := by
  have hn := hW.1.1
  intro f
  induction f with
  | zero =>
    intro n v M hv hn2 h
    obtain ⟨n, rfl⟩ : ∃ z, n = z + 1 := ⟨n - 1, by omega⟩
    have : v = 10 := by omega
    subst this
    refine ⟨M, ?_, FC.rf⟩
    rw [fX7_strong_L19, if_pos (by decide), if_neg (by show ¬ 10 < 10; omega)]
    exact fd7 3 M
  | succ f ih =>
    intro n v M hv hn2 h
    obtain ⟨n, rfl⟩ : ∃ z, n = z + 1 := ⟨n - 1, by omega⟩
    obtain ⟨M1, e1, c1, p1, p2, s1⟩ := x4_begin h.1 hW.1 (by decide)
    have c2 : CLn (wr M1 19 p (nI v)) 16 (sgL (tLa S) p v) := cl_Sg c1 v
    have w2 : WF (sgL (tLa S) p v) := wf_sg hW.1 (by omega)
    obtain ⟨M3, e3, r3, s3⟩ := x4_run c2 w2 (by rw [wr_n _ _ _ _ (by omega)]; exact p1) (by rw [wr_n _ _ _ _ (by omega)]; exact p2)
    have e4 := x4_firstCold r3 w2 (p := p) hp
    have hs : SmR M M3 := (s1.tr (SmR.wr (by omega) (by omega))).tr s3
    have hc := cold_le (sgL (tLa S) p v) p 16 0
    have g9 : ¬ (9 : Int32) < nI v := by rw [show (9 : Int32) = nI 9 from rfl, lit_lt (by omega) (by omega)]; omega
    show ∃ M1, _ = (if (if cold (sgL (tLa S) p v) p 16 0 = 16 then v else stF (tLa S) p f (v + 1)) < 10 then some (nI (if cold (sgL (tLa S) p v) p 16 0 = 16 then v else stF (tLa S) p f (v + 1)), M1) else _) ∧ _
    by_cases c : cold (sgL (tLa S) p v) p 16 0 = 16
    · refine ⟨M3, ?_, FC.ofR hs⟩
      rw [fX7_strong_L19, if_neg g9, e1, bde, ck_in (by omega) (by decide), ix_nI (by omega), wme, e3, bde, e4, bde, if_pos (by rw [q16 (by omega)]; exact c), if_pos c, if_pos (by omega)]
    · obtain ⟨M4, e5, f5⟩ := ih n (v + 1) M3 (by omega) (by omega) (h.fc (FC.ofR hs))
      refine ⟨M4, ?_, (FC.ofR hs).tr f5⟩
      rw [fX7_strong_L19, if_neg g9, e1, bde, ck_in (by omega) (by decide), ix_nI (by omega), wme, e3, bde, e4, bde, if_neg (by rw [q16 (by omega)]; exact c), if_neg c, bve, ad1, e5]
theorem x8_strong79 {L : Lan} {p u : Nat} (hp : p < 8) {M : Mem} (hC : RLn M 58 (sgL L p u)) (y : Int32) : ∃ M1, fX8_strong_L79 (nI p) (nI (gSg L p)) y M = (if 0 ≤ y then some (y, M1) else fX8_finding (low 3) M1) ∧ RLn M1 58 L ∧ Sr M M1 := by
  have c := rl_Sg hC hp (gSg L p)
  rw [sg_sg, sg_id] at c
  refine ⟨_, ?_, c, Sr.wr⟩
  unfold fX8_strong_L79
  rw [x8_at2, bde, ck_in (by omega) (by decide), ix_nI (by omega), wme]
  split
  · rfl
  · exact fd8 3 _
theorem x8_strong27 {L : Lan} (hW : WF L) {p : Nat} (hp : p < gN L) : ∀ (f n v u : Nat) (M : Mem), v + f = 10 → f + 1 < n → u ≤ 9 → RLn M 58 (sgL L p u) → ∃ M1, fX8_strong_L27 n (nI p) (nI (gSg L p)) (-1) (nI v) M = (if stF L p f v < 10 then some (nI (stF L p f v), M1) else fX8_finding (low 3) M1) ∧ RLn M1 58 L ∧ FR M M1 := by
  have hn := hW.1
  intro f
  induction f with
  | zero =>
    intro n v u M hv hn2 hu hC
    obtain ⟨n, rfl⟩ : ∃ z, n = z + 1 := ⟨n - 1, by omega⟩
    have : v = 10 := by omega
    subst this
    obtain ⟨M1, e1, c1, s1⟩ := x8_strong79 (by omega) hC (-1)
    refine ⟨M1, ?_, c1, FR.of s1⟩
    rw [fX8_strong_L27, if_pos (by decide), e1, if_neg (by decide), if_neg (by show ¬ 10 < 10; omega)]
  | succ f ih =>
    intro n v u M hv hn2 hu hC
    obtain ⟨n, rfl⟩ : ∃ z, n = z + 2 := ⟨n - 2, by omega⟩
    have c2 := rl_Sg hC (i := p) (by omega) v
    rw [sg_sg] at c2
    have w2 : WF (sgL L p v) := wf_sg hW (by omega)
    obtain ⟨M3, e3, c3, a3, _, _, _, f3⟩ := x8_findRest c2 w2 (p := p) hp
    have e4 := x8_restHours c3 w2
    have g9 : ¬ (9 : Int32) < nI v := by rw [show (9 : Int32) = nI 9 from rfl, lit_lt (by omega) (by omega)]; omega
    have hlt : srvN (sgL L p v) p < 65536 := stN_lt _ 16
    have hr := rstN_lt (sgL L p v)
    have f2 : FR M M3 := (FR.of Sr.wr).tr f3
    show ∃ M1, _ = (if (if cold (sgL L p v) p 16 0 = 16 then v else stF L p f (v + 1)) < 10 then some (nI (if cold (sgL L p v) p 16 0 = 16 then v else stF L p f (v + 1)), M1) else _) ∧ _
    by_cases c : cold (sgL L p v) p 16 0 = 16
    · obtain ⟨M4, e5, c5, s5⟩ := x8_strong79 (u := v) (by omega) c3 (nI v)
      refine ⟨M4, ?_, c5, f2.tr (FR.of s5)⟩
      rw [fX8_strong_L27, if_neg g9, if_neg (by decide), x8_at2, bde, ck_in (by omega) (by decide), ix_nI (by omega), wme, e3, bde, e4, bde, a3, if_pos (by rw [(cold_16 w2 p).mpr c])]
      have hL : ∀ k, fX8_strong_L72 k (nI p) (nI (gSg L p)) (nI v) (nI v) M3 = k (nI p) (nI (gSg L p)) (nI v) (nI (v + 1)) M3 := by
        intro k; unfold fX8_strong_L72; rw [bve, ad1]
      rw [hL, fX8_strong_L27]
      have h0 : (0 : Int32) ≤ nI v := by rw [nI_0', lit_le (by omega) (by omega)]; omega
      have hL2 : ∀ Y, (if (9 : Int32) < nI (v + 1) then fX8_strong_L79 (nI p) (nI (gSg L p)) (nI v) M3 else (if (0 : Int32) ≤ nI v then fX8_strong_L79 (nI p) (nI (gSg L p)) (nI v) M3 else Y)) = fX8_strong_L79 (nI p) (nI (gSg L p)) (nI v) M3 := by
        intro Y; rw [if_pos h0]; split <;> rfl
      rw [hL2, e5, if_pos h0, if_pos c, if_pos (by omega)]
    · have hne : ¬ nI (srvN (sgL L p v) p) = nI (rstN (sgL L p v)) := by
        rw [lit_eq (by omega) (by omega)]
        exact fun q => c ((cold_16 w2 p).mp q)
      obtain ⟨M4, e5, c5, f5⟩ := ih (n + 1) (v + 1) v M3 (by omega) (by omega) (by omega) c3
      refine ⟨M4, ?_, c5, f2.tr f5⟩
      rw [fX8_strong_L27, if_neg g9, if_neg (by decide), x8_at2, bde, ck_in (by omega) (by decide), ix_nI (by omega), wme, e3, bde, e4, bde, a3, if_neg hne]
      unfold fX8_strong_L72
      rw [bve, ad1, e5, if_neg c]
theorem tw_strong {S : Sta} (hW : WFS S) (x : Int32) : Two (fX7_strong x) (fX8_strong x) S := by
  have hn := hW.1.1
  cases hp : pIn (gN (tLa S)) x
  · refine two_fd hW (i := 0) (by decide) (fun M h => ?_) (fun M h => ?_)
    · unfold fX7_strong; rw [x1_isPerson h.1 hW.1, hp, bde, ifF]; exact fd7 0 M
    · unfold fX8_strong; rw [x8_isPerson h.1 hW.1, hp, bde, ifF]; exact fd8 0 M
  obtain ⟨p, hpn, rfl⟩ := pIn_ex hp (by omega)
  have hg := (hW.1.2.2.2.1 p (by omega)).2.2.1
  have k7 : ∀ M, AC M S → ∃ M1, fX7_strong (nI p) M = (if stF (tLa S) p 10 0 < 10 then some (nI (stF (tLa S) p 10 0), M1) else fX7_found (nI 3) M1) ∧ FC M M1 := by
    intro M h
    obtain ⟨M1, e1, f1⟩ := x7_strong19 hW hpn 10 fu 0 M (by omega) (by show _ < 2000; omega) h
    refine ⟨M1, ?_, f1⟩
    unfold fX7_strong
    rw [x1_isPerson h.1 hW.1, hp, bde, ifT]
    exact e1
  have k8 : ∀ M, AR M S → ∃ M1, fX8_strong (nI p) M = (if stF (tLa S) p 10 0 < 10 then some (nI (stF (tLa S) p 10 0), M1) else fX8_finding (low 3) M1) ∧ RLn M1 58 (tLa S) ∧ FR M M1 := by
    intro M h
    have hC : RLn M 58 (sgL (tLa S) p (gSg (tLa S) p)) := by rw [sg_id]; exact h.1
    obtain ⟨M1, e1, c1, f1⟩ := x8_strong27 hW.1 hpn 10 fu 0 (gSg (tLa S) p) M (by omega) (by show _ < 2000; omega) hg hC
    refine ⟨M1, ?_, c1, f1⟩
    unfold fX8_strong
    rw [x8_isPerson h.1 hW.1, hp, bde, ifT, x8_Sg h.1 (by omega), bde]
    exact e1
  by_cases z : stF (tLa S) p 10 0 < 10
  · refine two_q hW (nI (stF (tLa S) p 10 0)) (fun M h => ?_) (fun M h => ?_)
    · obtain ⟨M1, e1, f1⟩ := k7 M h
      exact ⟨M1, by rw [e1, if_pos z], f1⟩
    · obtain ⟨M1, e1, c1, f1⟩ := k8 M h
      exact ⟨M1, by rw [e1, if_pos z], c1, f1⟩
  · refine ⟨low 3, fdS S 3, fun M h => ?_, fun M h => ?_, hW⟩
    · obtain ⟨M1, e1, f1⟩ := k7 M h
      obtain ⟨M2, e2, c2, s2⟩ := x7_found (h.fc f1) (i := 3) (by decide)
      exact ⟨M2, by rw [e1, if_neg z, e2], c2, fun k hk => (s2 k hk).trans (f1 k (by omega))⟩
    · obtain ⟨M1, e1, c1, f1⟩ := k8 M h
      obtain ⟨M2, e2, c2, s2⟩ := x8_finding (h.fr f1 c1) (i := 3) (by decide)
      exact ⟨M2, by rw [e1, if_neg z, e2], c2, fun k hk => (s2 k hk).trans (f1.1 k (by omega))⟩

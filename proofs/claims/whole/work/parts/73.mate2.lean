/-! mate, told -/
theorem ne_m2 (k : Nat) (h : k < 100) : ¬ nI k = (-2 : Int32) := fun q => by
  have := congrArg Int32.toInt q
  rw [nI_toInt (by omega)] at this
  have h2 : (-2 : Int32).toInt = -2 := rfl
  rw [h2] at this
  omega
theorem x8_ma40 {M : Mem} {L : Lan} {x : Nat} (hC : RLn M 58 L) (hW : WF L) (hx : x < gN L) (hT : RTB M (bcP (vAg L)) (2 ^ gN L)) : ∀ (f m s : Nat), s < 2 ^ gN L → s.testBit x = true → 8 ≤ lsN s + f → f + 1 < m → fX8_mate_L40 m (nI x) (nI s) (-2) M = some (mI (maF (vAg L) x f s), M) := by
  have hn := hW.1
  have hv := vb_ag L
  intro f
  induction f with
  | zero =>
    intro m s hs hb h8 hm
    have h0 : s ≠ 0 := fun e => by rw [e, Nat.zero_testBit] at hb; cases hb
    have := (ls_ok s (p256 hs hn) h0).2.1
    omega
  | succ f ih =>
    intro m s hs hb h8 hm
    obtain ⟨m, rfl⟩ : ∃ z, m = z + 2 := ⟨m - 2, by omega⟩
    have h256 := p256 hs hn
    have h0 : s ≠ 0 := fun e => by rw [e, Nat.zero_testBit] at hb; cases hb
    obtain ⟨l1, l2, l3⟩ := ls_ok s h256 h0
    have hbn := bc_ne (vag_ne L) (s + 1) s (by omega) h256
    have hf8 : fbN (vAg L) s < 8 := fbF_lt (vAg L) l2 _ _ (by omega)
    have hq : ∃ q, lsN s ≤ q ∧ q < 8 ∧ wrtN (vAg L) (bcP (vAg L)) s (lsN s) q = (bcP (vAg L) s).1 := by
      have := stp_att (v := vAg L) (f := bcP (vAg L)) (s := s) 8
      rw [← bc_s (vAg L) h256 h0] at this
      rcases this with z | ⟨q, q1, q2⟩
      · exact absurd z hbn
      · refine ⟨q, ?_, q1, q2⟩
        rcases Nat.lt_or_ge q (lsN s) with w | w
        · exfalso
          have hz : wrtN (vAg L) (bcP (vAg L)) s (lsN s) q = 0 := by
            unfold wrtN
            rw [l3 q (by omega) w, Bool.false_and, if_neg (by decide)]
          rw [hz] at q2
          exact hbn q2.symm
        · exact w
    have hm56 := x8_ma56 (k40 := fX8_mate_L40 (m + 1)) (x := x) hC hW hs h0 hT (8 - lsN s) fu (lsN s) (by omega) (by show _ < 2000; omega) hq
    have hfb : fbF (vAg L) s (8 - lsN s) (lsN s) = fbN (vAg L) s := rfl
    rw [hfb] at hm56
    have l123 : ∀ w, fX8_mate_L123 (fX8_mate_L40 (m + 1)) (nI x) (nI s) (nI (lsN s)) (nI (fbN (vAg L) s)) w M = fX8_mate_L40 (m + 1) (nI x) (nI (wo s (lsN s) (fbN (vAg L) s))) w M := by
      intro w
      unfold fX8_mate_L123
      rw [bve, ← Int32.and_assoc, wo_e h256 l2 hf8]
    have done : ∀ (z : Nat) (w : Int32), ¬ w = -2 → fX8_mate_L40 (m + 1) (nI x) (nI z) w M = some (w, M) := by
      intro z w hw
      rw [fX8_mate_L40, if_neg hw]
    rw [fX8_mate_L40, if_pos rfl, x8_lowest M h256 h0, bde, hm56, l123, l123, l123, l123]
    show _ = some (mI (if s = 0 then 0 else if lsN s = x then (if fbN (vAg L) s = lsN s then 0 else fbN (vAg L) s + 1) else if fbN (vAg L) s = x then lsN s + 1 else maF (vAg L) x f (wo s (lsN s) (fbN (vAg L) s))), M)
    rw [if_neg h0]
    by_cases c : lsN s = x
    · rw [if_pos (by rw [c]), if_pos c]
      by_cases d : fbN (vAg L) s = lsN s
      · rw [if_pos (by rw [d]), if_pos d, done _ _ (by decide)]; rfl
      · rw [if_neg (by rw [lit_eq (by omega) (by omega)]; exact d), if_neg d, done _ _ (ne_m2 _ (by omega)), mI_s]
    · rw [if_neg (by rw [lit_eq (by omega) (by omega)]; exact c), if_neg c]
      by_cases d : fbN (vAg L) s = x
      · rw [if_pos (by rw [d]), if_pos d, done _ _ (ne_m2 _ (by omega)), mI_s]
      · rw [if_neg (by rw [lit_eq (by omega) (by omega)]; exact d), if_neg d]
        have hxw : (wo s (lsN s) (fbN (vAg L) s)).testBit x = true := by
          rw [wo_tb, hb, decide_eq_true (show x < 8 by omega), decide_eq_false (fun q => c q.symm), decide_eq_false (fun q => d q.symm)]; rfl
        have hw0 : wo s (lsN s) (fbN (vAg L) s) ≠ 0 := fun e => by rw [e, Nat.zero_testBit] at hxw; cases hxw
        obtain ⟨k1, k2, k3⟩ := ls_ok _ (wo_lt s (lsN s) (fbN (vAg L) s)) hw0
        have hgt : lsN s < lsN (wo s (lsN s) (fbN (vAg L) s)) := by
          rw [wo_tb] at k1
          simp only [Bool.and_eq_true, Bool.not_eq_true', decide_eq_false_iff_not] at k1
          rcases Nat.lt_trichotomy (lsN (wo s (lsN s) (fbN (vAg L) s))) (lsN s) with w | w | w
          · have := l3 _ (by omega) w
            rw [k1.2.1] at this
            cases this
          · exact absurd w k1.2.2.1
          · exact w
        exact ih (m + 1) _ (wo_pow hs hn) hxw (by omega) (by omega)
theorem tw_mate {S : Sta} (hW : WFS S) (x : Int32) : Two (fX7_mate x) (fX8_mate x) S := by
  have hn := hW.1.1
  have h2 : 2 ^ gN (tLa S) ≤ 256 := by have := Nat.pow_le_pow_right (n := 2) (by decide) hn; simpa using this
  have hpp : 0 < 2 ^ gN (tLa S) := Nat.two_pow_pos _
  cases hp : pIn (gN (tLa S)) x
  · refine two_fd hW (i := 0) (by decide) (fun M h => ?_) (fun M h => ?_)
    · unfold fX7_mate; rw [x1_isPerson h.1 hW.1, hp, bde, ifF]; exact fd7 0 M
    · unfold fX8_mate; rw [x8_isPerson h.1 hW.1, hp, bde, ifF]; exact fd8 0 M
  obtain ⟨p, hpn, rfl⟩ := pIn_ex hp (by omega)
  refine two_q hW (mI (maF (vAg (tLa S)) p 8 (2 ^ gN (tLa S) - 1))) (fun M h => ?_) (fun M h => ?_)
  · obtain ⟨M1, e1, f1, v1, t1⟩ := x7_weighA hW.1 h.1
    have c1 : CLn M1 1 (tLa S) := cl_same h.1 (fun k _ _ => f1 k (by omega))
    have hand : nI (2 ^ gN (tLa S) - 1) &&& (256 - 1) = nI (2 ^ gN (tLa S) - 1) := by
      rw [show (256 - 1 : Int32) = nI (2 ^ 8 - 1) from rfl, nI_and, Nat.and_two_pow_sub_one_eq_mod, Nat.mod_eq_of_lt (by omega)]
    refine ⟨M1, ?_, f1.fc⟩
    unfold fX7_mate fX2_firstMateOf
    rw [x1_isPerson h.1 hW.1, hp, bde, ifT, e1, bde, x1_everybody c1 hW.1, bde, hand, bve]
    have r := x2_fm13 (x := p) (vb_ag (tLa S)) v1 hn (by omega) t1 8 fu 0 (2 ^ gN (tLa S) - 1) (by omega) (by show _ < 2000; omega) (by omega)
    rw [nI_0', r, bde]
  · obtain ⟨M1, e1, s1, t1⟩ := x8_findPairs hW.1 h.1
    have c1 : RLn M1 58 (tLa S) := rl_same h.1 (s1 58 (by decide) (by decide))
    have h4 : M1 58 4 = nI (gN (tLa S)) := c1.2.2.2.2.2.2.1
    have hne := bc_ne (vag_ne (tLa S)) (2 ^ gN (tLa S)) (2 ^ gN (tLa S) - 1) (by omega) (by omega)
    have hle := bc_le (vb_ag (tLa S)) (2 ^ gN (tLa S)) (2 ^ gN (tLa S) - 1) (by omega) (by omega)
    refine ⟨M1, ?_, c1, FR.pr s1⟩
    unfold fX8_mate fX8_mate_L36
    rw [x8_isPerson h.1 hW.1, hp, bde, ifT, e1, bde, if_pos (by rw [mI_ge0 (by omega)]; exact hne), ckl_4_56, ixl_4, h4, nI_set hn]
    exact x8_ma40 c1 hW.1 hpn t1 8 fu (2 ^ gN (tLa S) - 1) (by omega) (by rw [Nat.testBit_two_pow_sub_one, decide_eq_true hpn]) (by omega) (by show _ < 2000; omega)

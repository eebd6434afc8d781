/-! fits, may -/
theorem smP_ge {v : Nat → Nat → Nat} {s o : Nat} (ho : prA v s (lsN s) o) : ∀ k, o < k → (bcP v (wo s (lsN s) o)).2 ≤ smP v s k := by
  intro k
  induction k with
  | zero => intro h; omega
  | succ k ih =>
    intro h
    show _ ≤ smP v s k + (if (s.testBit k && (!decide (lsN s = k) || decide (pcN s % 2 = 1))) = true then (if v (min (lsN s) k) (max (lsN s) k) ≠ 0 then (bcP v (wo s (lsN s) k)).2 else 0) else 0)
    by_cases e : o = k
    · subst e
      obtain ⟨a1, a2⟩ := prA_b.mp ho
      rw [if_pos a1, if_pos a2]
      omega
    · have := ih (by omega)
      omega
theorem bc_pos {v : Nat → Nat → Nat} (hv : ∀ p q, v p q ≤ 1) : ∀ (k s : Nat), s < k → s < 256 → prO v s → (bcP v s).2 ≠ 0 := by
  intro k
  induction k with
  | zero => intro s h; omega
  | succ k ih =>
    intro s hk hs ho
    by_cases h0 : s = 0
    · subst h0; rw [bc_0]; decide
    · obtain ⟨l1, -, -⟩ := ls_ok s hs h0
      obtain ⟨o, o1, o2⟩ := (ok_iff hs h0).mp ho
      have h1 := ih _ (by have := wo_less (b := o) hs l1; omega) (wo_lt _ _ _) o2
      have h2 := smP_ge o1 8 (tb_lt8 hs o1.1)
      rw [bc_sm hv hs h0]
      omega
theorem smP_le {v : Nat → Nat → Nat} {s B : Nat} (hB : ∀ o, s.testBit o = true → (bcP v (wo s (lsN s) o)).2 ≤ B) : ∀ k, smP v s k ≤ k * B := by
  intro k
  induction k with
  | zero => exact Nat.zero_le _
  | succ k ih =>
    show smP v s k + (if (s.testBit k && (!decide (lsN s = k) || decide (pcN s % 2 = 1))) = true then (if v (min (lsN s) k) (max (lsN s) k) ≠ 0 then (bcP v (wo s (lsN s) k)).2 else 0) else 0) ≤ (k + 1) * B
    rw [Nat.succ_mul]
    have : (if (s.testBit k && (!decide (lsN s = k) || decide (pcN s % 2 = 1))) = true then (if v (min (lsN s) k) (max (lsN s) k) ≠ 0 then (bcP v (wo s (lsN s) k)).2 else 0) else 0) ≤ B := by
      split
      · rename_i h
        rw [Bool.and_eq_true] at h
        split
        · exact hB k h.1
        · exact Nat.zero_le _
      · exact Nat.zero_le _
    omega
theorem bc_num {v : Nat → Nat → Nat} (hv : ∀ p q, v p q ≤ 1) : ∀ (k s : Nat), s < k → s < 256 → (bcP v s).2 ≤ 8 ^ pcN s := by
  intro k
  induction k with
  | zero => intro s h; omega
  | succ k ih =>
    intro s hk hs
    by_cases h0 : s = 0
    · subst h0; rw [bc_0]; exact Nat.pow_pos (by decide)
    · obtain ⟨l1, -, -⟩ := ls_ok s hs h0
      rw [bc_sm hv hs h0]
      have hp : 1 ≤ pcN s := by have := pc_wo hs l1 l1; rw [if_pos rfl] at this; omega
      have h1 := smP_le (v := v) (s := s) (B := 8 ^ (pcN s - 1)) (fun o ho => by
        have h2 := ih _ (by have := wo_less (b := o) hs l1; omega) (wo_lt s (lsN s) o)
        refine Nat.le_trans h2 (Nat.pow_le_pow_right (by decide) ?_)
        have := pc_wo hs l1 ho
        split at this <;> omega) 8
      refine Nat.le_trans h1 ?_
      obtain ⟨j, hj⟩ : ∃ j, pcN s = j + 1 := ⟨pcN s - 1, by omega⟩
      rw [hj, Nat.add_sub_cancel, Nat.pow_succ, Nat.mul_comm]
      exact Nat.le_refl _
theorem pc8 {s : Nat} (hs : s < 256) : pcN s ≤ 8 := by
  have e : ∀ d, cnN s.testBit (8 + d) = cnN s.testBit 8 := by
    intro d
    induction d with
    | zero => rfl
    | succ d ih =>
      show cnN s.testBit (8 + d) + (if s.testBit (8 + d) = true then 1 else 0) = _
      rw [ih, tb_8 hs (by omega)]
      rfl
  have h : pcN s = cnN s.testBit 8 := e 8
  rw [h]
  exact cnN_le _ _
theorem x8_fs55 {L : Lan} (hn : gN L ≤ 8) {y3 : Int32} {g : Nat → Nat} : ∀ (m k : Nat) (M : Mem), k ≤ gN L → gN L - k < m → RLn M 58 (sMt L (fun j => if j < k then gMt L j else g j)) → (∀ i, i < gN L → M 65 i = mI (gMt L i)) → ∃ M1, fX8_findSeen_L55 m y3 (nI k) M = some (y3, M1) ∧ RLn M1 58 (sMt L (fun j => if j < gN L then gMt L j else g j)) ∧ Sr M M1 := by
  intro m
  induction m with
  | zero => intro k M _ h; omega
  | succ m ih =>
    intro k M hk hm hC h65
    have h4 : M 58 4 = nI (gN L) := hC.2.2.2.2.2.2.1
    rw [fX8_findSeen_L55, ckl_4_56, ixl_4, h4]
    by_cases e : k = gN L
    · subst e
      exact ⟨M, by rw [if_pos (by rw [lit_le (by omega) (by omega)]; exact Nat.le_refl _)], hC, Sr.rf⟩
    · have c1 := rl_Mt hC (show k < 8 by omega) (gMt L k)
      have hf : uf (gMt (sMt L (fun j => if j < k then gMt L j else g j))) k (gMt L k) = (fun j => if j < k + 1 then gMt L j else g j) := by
        show uf (fun j => if j < k then gMt L j else g j) k (gMt L k) = _
        funext j
        unfold uf
        by_cases a : j = k
        · rw [if_pos a, if_pos (by omega), a]
        · rw [if_neg a]
          show (if j < k then gMt L j else g j) = _
          by_cases b : j < k
          · rw [if_pos b, if_pos (by omega)]
          · rw [if_neg b, if_neg (by omega)]
      rw [hf] at c1
      obtain ⟨M1, e1, d1, s1⟩ := ih (k + 1) (wr M 58 (16 + 5 * k + 4) (mI (gMt L k))) (by omega) (by omega) c1 (fun i hi => by rw [wr_n _ _ _ _ (by decide)]; exact h65 i hi)
      refine ⟨M1, ?_, d1, Sr.wr.tr s1⟩
      rw [if_neg (by rw [lit_le (by omega) (by omega)]; omega), x8_at4, bde, ck_in (by omega) (by decide), ck_in (by omega) (by decide), ix_nI (by omega), ix_nI (by omega), h65 k (by omega), wme, bve, ad1, e1]
theorem x8_fs7 {L : Lan} (hn : gN L ≤ 8) {y1 y2 : Int32} : ∀ (m k : Nat) (M : Mem), k ≤ gN L → gN L - k < m → RLn M 58 L → (∀ i, i < k → M 65 i = mI (gMt L i)) → ∃ M1, fX8_findSeen_L7 m y1 y2 (nI k) M = (bd (fX8_seenWays 9 y1 (nI (2 ^ gN L - 1)) y2 M1) fun r3 M2 => (fX8_findSeen_L55 fu r3 0 M2)) ∧ (∀ i, i < gN L → M1 65 i = mI (gMt L i)) ∧ (∀ q, q ≠ 65 → M1 q = M q) := by
  intro m
  induction m with
  | zero => intro k M _ h; omega
  | succ m ih =>
    intro k M hk hm hC h65
    have h4 : M 58 4 = nI (gN L) := hC.2.2.2.2.2.2.1
    rw [fX8_findSeen_L7, ckl_4_56, ixl_4, h4]
    by_cases e : k = gN L
    · subst e
      exact ⟨M, by rw [if_pos (by rw [lit_le (by omega) (by omega)]; exact Nat.le_refl _), nI_set hn, ckl_4_56], h65, fun _ _ => rfl⟩
    · obtain ⟨M1, e1, d1, s1⟩ := ih (k + 1) (wr M 65 k (mI (gMt L k))) (by omega) (by omega) (rl_same hC (wr_n _ _ _ _ (by decide))) (fun i hi => by
        rw [wr_app, if_pos rfl]
        by_cases a : i = k
        · rw [if_pos a, a]
        · rw [if_neg a]; exact h65 i (by omega))
      refine ⟨M1, ?_, d1, fun q hq => by rw [s1 q hq, wr_n _ _ _ _ hq]⟩
      rw [if_neg (by rw [lit_le (by omega) (by omega)]; omega), x8_Mt hC (by omega), bde, ck_in (by omega) (by decide), ix_nI (by omega), wme, bve, ad1, e1]
theorem sMt_id (L : Lan) : sMt L (gMt L) = L := rfl
theorem x8_findSeen {L : Lan} (hW : WF L) {ss l xx : Nat} {w : Nat → Int32} (hss : ss < 4) (hl : l ≤ 40) (hx : xx ≤ gN L) {M : Mem} (hC : RLn M 58 L) (h70 : M 70 ss = nI l) (hv : ∀ i, i < 40 → M 71 (40 * ss + i) = w i) : ∃ (M1 : Mem) (r1 : Nat), fX8_findSeen (nI ss) (mI xx) M = some (nI (if tkB L l w = true then (bcP (vSh L l w) (2 ^ gN L - 1)).2 else 0), M1) ∧ RLn M1 58 L ∧ FR M M1 ∧ M1 57 12 = nI r1 ∧ (∀ i, r1.testBit i = true ↔ (tkB L l w = true ∧ adP (vSh L l w) (2 ^ gN L - 1) (gMt L) xx i)) := by
  have hn := hW.1
  have hp : 0 < 2 ^ gN L := Nat.two_pow_pos _
  have h2 : 2 ^ gN L ≤ 256 := by have := Nat.pow_le_pow_right (n := 2) (by decide) hn; simpa using this
  have hfull : ∀ x, x < gN L → (2 ^ gN L - 1).testBit x = true := fun x h => by rw [Nat.testBit_two_pow_sub_one, decide_eq_true h]
  have f0 : FR M (wr M 57 12 0) := FR.f57 (by decide)
  obtain ⟨M2, e2, d2, s2⟩ := x8_fs7 hn (y1 := nI ss) (y2 := mI xx) fu 0 (wr M 57 12 0) (Nat.zero_le _) (by show _ < 2000; omega) (rl_same hC (wr_n _ _ _ _ (by decide))) (fun i h => by omega)
  have f2 : FR (wr M 57 12 0) M2 := FR.row (r := 65) (by decide) s2
  have c2 : RLn M2 58 (sMt L (gMt L)) := by rw [sMt_id, ]; exact rl_same hC (by rw [s2 58 (by decide), wr_n _ _ _ _ (by decide)])
  have hpc : pcN (2 ^ gN L - 1) < 9 := by have := pc8 (s := 2 ^ gN L - 1) (by omega); omega
  obtain ⟨M3, g3, r3, e3, c3, w3, o3, t3, b3, f3⟩ := x8_seenWays hW (w := w) hss hl hx 9 (2 ^ gN L - 1) (by omega) hpc M2 (gMt L) (tkB L l w) 0 c2 (by rw [sMt_id]; exact hW.r) (fun x h1 h2 => by rw [hfull x h1] at h2; cases h2) (by rw [s2 70 (by decide), wr_n _ _ _ _ (by decide)]; exact h70) (fun i hi => by rw [s2 71 (by decide), wr_n _ _ _ _ (by decide)]; exact hv i hi) ⟨fun h => ⟨h, fun x h1 h2 => by rw [hfull x h1] at h2; cases h2⟩, fun h => h.1⟩ (by rw [s2 57 (by decide), wr_app, if_pos rfl, if_pos rfl]; rfl)
  obtain ⟨M4, e4, c4, s4⟩ := x8_fs55 hn (y3 := nI (if tkB L l w = true then (bcP (vSh L l w) (2 ^ gN L - 1)).2 else 0)) (g := g3) fu 0 M3 (Nat.zero_le _) (by show _ < 2000; omega) (by
    have : (fun j => if j < 0 then gMt L j else g3 j) = g3 := by funext j; rw [if_neg (by omega)]
    rw [this]; exact c3) (fun i hi => by rw [f3.1 65 (by decide) (by decide) (by decide)]; exact d2 i hi)
  have hback : (fun j => if j < gN L then gMt L j else g3 j) = gMt L := by
    funext j
    by_cases a : j < gN L
    · rw [if_pos a]
    · rw [if_neg a, o3 j (by rw [Nat.testBit_two_pow_sub_one, decide_eq_false a])]
  rw [hback, sMt_id] at c4
  refine ⟨M4, r3, ?_, c4, ((f0.tr f2).tr f3.fr).tr (FR.of s4), by rw [s4 57 (by decide)]; exact t3, fun i => ?_⟩
  · unfold fX8_findSeen
    rw [wme]
    refine e2.trans ?_
    rw [e3, bde]
    exact e4
  · rw [b3 i, Nat.zero_testBit]
    simp
theorem myN_tb (v : Nat → Nat → Nat) (s x i : Nat) (hs : s < 256) : (myN v s x).testBit i = true ↔ prA v s x i ∧ prO v (wo s x i) := by
  unfold myN
  rw [stN_tb, Bool.and_eq_true, decide_eq_true_eq, decide_eq_true_eq, wrt_pos]
  exact ⟨fun h => h.2, fun h => ⟨tb_lt8 hs h.1.1, h⟩⟩
theorem tw_fits {S : Sta} (hW : WFS S) (x : Int32) : Two (fX7_fits x) (fX8_fits x) S := by
  have hn := hW.1.1
  cases hp : pIn 4 x
  · refine two_fd hW (i := 0) (by decide) (fun M h => ?_) (fun M h => ?_)
    · unfold fX7_fits; rw [x7_lackOf h hW, hp, if_pos rfl, bde, if_neg (by decide)]; exact fd7 0 M
    · unfold fX8_fits; rw [x8_isSheet, hp, bde, ifF]; exact fd8 0 M
  obtain ⟨s, hs, rfl⟩ := pIn_ex hp (by decide)
  have hix : ix (nI s) = s := ix_nI (by omega)
  obtain ⟨hb, hl⟩ := hW.2.2.2.2 s hs
  by_cases e : tSb S s = 0
  · refine two_fd hW (i := 5) (by decide) (fun M h => ?_) (fun M h => ?_)
    · unfold fX7_fits; rw [x7_lackOf h hW, hp, if_neg (by decide), hix, if_pos e, bde, if_neg (by decide)]; exact fd7 5 M
    · unfold fX8_fits; rw [x8_isSheet, hp, bde, ifT, ck_in hs (by decide), hix, (h.2.2.2.2.2.1 s hs).1, if_pos (by rw [e]; rfl)]; exact fd8 5 M
  have e0 : ¬ nI (tSb S s) = 0 := by rw [nI_0', lit_eq (by omega) (by decide)]; exact e
  refine two_q hW _ (fun M h => x7_fits hW h hs e) (fun M h => ?_)
  obtain ⟨g1, g2, g3⟩ := h.2.2.2.2.2.1 s hs
  obtain ⟨M1, r1, e1, c1, f1, -, -⟩ := x8_findSeen hW.1 (xx := 0) hs hl (Nat.zero_le _) h.1 g2 g3
  refine ⟨M1, ?_, c1, f1⟩
  unfold fX8_fits
  rw [x8_isSheet, hp, bde, ifT, ck_in hs (by decide), hix, g1, if_neg e0]
  exact (congrArg (fun z => bd z _) e1).trans (bde _ _)
theorem tw_may {S : Sta} (hW : WFS S) (x y : Int32) : Two (fX7_may x y) (fX8_may x y) S := by
  have hn := hW.1.1
  have h2 : 2 ^ gN (tLa S) ≤ 256 := by have := Nat.pow_le_pow_right (n := 2) (by decide) hn; simpa using this
  have hpp : 0 < 2 ^ gN (tLa S) := Nat.two_pow_pos _
  cases hp : pIn 4 x
  · refine two_fd hW (i := 0) (by decide) (fun M h => ?_) (fun M h => ?_)
    · unfold fX7_may; rw [x7_lackOf h hW, hp, if_pos rfl, bde, if_neg (by decide)]; exact fd7 0 M
    · unfold fX8_may; rw [x8_isSheet, hp, bde, ifF]; exact fd8 0 M
  obtain ⟨s, hs, rfl⟩ := pIn_ex hp (by decide)
  have hix : ix (nI s) = s := ix_nI (by omega)
  obtain ⟨hb, hl⟩ := hW.2.2.2.2 s hs
  by_cases e : tSb S s = 0
  · refine two_fd hW (i := 5) (by decide) (fun M h => ?_) (fun M h => ?_)
    · unfold fX7_may; rw [x7_lackOf h hW, hp, if_neg (by decide), hix, if_pos e, bde, if_neg (by decide)]; exact fd7 5 M
    · unfold fX8_may; rw [x8_isSheet, hp, bde, ifT, ck_in hs (by decide), hix, (h.2.2.2.2.2.1 s hs).1, if_pos (by rw [e]; rfl)]; exact fd8 5 M
  have e0 : ¬ nI (tSb S s) = 0 := by rw [nI_0', lit_eq (by omega) (by decide)]; exact e
  cases hq : pIn (gN (tLa S)) y
  · refine two_fd hW (i := 0) (by decide) (fun M h => ?_) (fun M h => ?_)
    · unfold fX7_may; rw [x7_lackOf h hW, hp, if_neg (by decide), hix, if_neg e, bde, if_pos rfl, x1_isPerson h.1 hW.1, hq, bde, ifF]; exact fd7 0 M
    · unfold fX8_may; rw [x8_isSheet, hp, bde, ifT, ck_in hs (by decide), hix, (h.2.2.2.2.2.1 s hs).1, if_neg e0, x8_isPerson h.1 hW.1, hq, bde, ifF]; exact fd8 0 M
  obtain ⟨p, hpn, rfl⟩ := pIn_ex hq (by omega)
  refine two_q hW _ (fun M h => x7_may hW h hs e hpn) (fun M h => ?_)
  obtain ⟨g1, g2, g3⟩ := h.2.2.2.2.2.1 s hs
  obtain ⟨M1, r1, e1, c1, f1, t1, b1⟩ := x8_findSeen hW.1 (xx := p + 1) hs hl (by omega) h.1 g2 g3
  rw [mI_s] at e1
  have hfull : (2 ^ gN (tLa S) - 1).testBit p = true := by rw [Nat.testBit_two_pow_sub_one, decide_eq_true hpn]
  have h256 : 2 ^ gN (tLa S) - 1 < 256 := by omega
  refine ⟨M1, ?_, c1, f1⟩
  have go : fX8_may (nI s) (nI p) M = (if nI (if tkB (tLa S) (tSl S s) (tSn S s) = true then (bcP (vSh (tLa S) (tSl S s) (tSn S s)) (2 ^ gN (tLa S) - 1)).2 else 0) = 0 then (some (0, M1)) else (some (M1 57 12, M1))) := by
    unfold fX8_may
    rw [x8_isSheet, hp, bde, ifT, ck_in hs (by decide), hix, g1, if_neg e0, x8_isPerson h.1 hW.1, hq, bde, ifT]
    exact (congrArg (fun z => bd z _) e1).trans (bde _ _)
  rw [go, t1]
  cases hk : tkB (tLa S) (tSl S s) (tSn S s)
  · rfl
  · rw [if_pos rfl, if_pos rfl]
    have hr : r1 = myN (vSh (tLa S) (tSl S s) (tSn S s)) (2 ^ gN (tLa S) - 1) p := by
      apply Nat.eq_of_testBit_eq
      intro i
      apply bl_eq
      rw [b1 i, myN_tb _ _ _ _ h256, hk]
      unfold adP
      rw [Nat.add_sub_cancel, if_pos hfull]
      exact ⟨fun h => h.2.2, fun h => ⟨rfl, by omega, h⟩⟩
    rw [hr]
    have hv := vsh_01 (tLa S) (tSl S s) (tSn S s)
    have hnum := bc_num hv 256 (2 ^ gN (tLa S) - 1) h256 h256
    have h8 : 8 ^ pcN (2 ^ gN (tLa S) - 1) ≤ 8 ^ 8 := Nat.pow_le_pow_right (by decide) (pc8 h256)
    by_cases z : (bcP (vSh (tLa S) (tSl S s) (tSn S s)) (2 ^ gN (tLa S) - 1)).2 = 0
    · rw [if_pos (by rw [z]; rfl)]
      have hm : myN (vSh (tLa S) (tSl S s) (tSn S s)) (2 ^ gN (tLa S) - 1) p = 0 := by
        apply Nat.eq_of_testBit_eq
        intro i
        rw [Nat.zero_testBit]
        cases hb : (myN (vSh (tLa S) (tSl S s) (tSn S s)) (2 ^ gN (tLa S) - 1) p).testBit i
        · rfl
        · have := (ok_any h256 hfull).mpr ⟨i, (myN_tb _ _ _ _ h256).mp hb⟩
          exact absurd z (bc_pos hv 256 _ h256 h256 this)
      rw [hm]; rfl
    · rw [if_neg (by rw [nI_0', lit_eq (by omega) (by decide)]; exact z)]

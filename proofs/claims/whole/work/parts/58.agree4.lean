/-! agreements: made, and what they meet -/
def drkA (L : Lan) : Nat := stN (fun i => decide (gH L ≤ i) && !(gL L).testBit i) 16
theorem shd_tb {L : Lan} (hW : WF L) (i : Nat) : (shdA L).testBit i = ((decide (gH L ≤ i) && decide (i < 16)) && (gL L).testBit i) := by
  unfold shdA
  rw [Nat.testBit_and, rstN_tb hW]
theorem shd_lt (L : Lan) : shdA L < 65536 := Nat.lt_of_le_of_lt Nat.and_le_left (rstN_lt L)
theorem drk_e {L : Lan} (hW : WF L) : nI (rstN L) &&& (nI (gL L) ^^^ (-1)) = nI (drkA L) := by
  apply b_st
  intro i hi
  rw [b_and, b_not _ hi, b_nI _ hi, b_nI _ hi, rstN_tb hW]
  cases decide (gH L ≤ i) <;> cases decide (i < 16) <;> cases (gL L).testBit i <;> rfl
def SmA (M M' : Mem) : Prop := ∀ k, (k < 24 ∨ 28 < k) → M' k = M k
theorem SmA.tr {M M1 M2 : Mem} (h1 : SmA M M1) (h2 : SmA M1 M2) : SmA M M2 := fun k hk => (h2 k hk).trans (h1 k hk)
theorem SmA.wr {c i : Nat} {M : Mem} {v : Int32} (h1 : 24 ≤ c) (h2 : c ≤ 28) : SmA M (wr M c i v) := fun k hk => wr_n M c i v (by omega)
theorem SmA.fc {M M1 : Mem} (h : SmA M M1) : FC M M1 := fun k hk => h k (by omega)
/-- the agreement of p and q stands -/
def AGR (M : Mem) (L : Lan) (p q : Nat) : Prop := M 25 0 = nI p ∧ M 25 1 = nI q ∧ AGn M (gNd L p) (gNd L q) (shdA L) ∧ M 24 5 = nI (drkA L) ∧ M 27 0 = nI (stN (h0N (gNd L p).testBit (gNd L q).testBit (shdA L).testBit) 16) ∧ M 27 1 = nI (stN (h1N (gNd L p).testBit (gNd L q).testBit (shdA L).testBit) 16)
theorem x0_make {M : Mem} {d p q : Nat} {x y : Int32} {L : Lan} (hC : CLn M d L) (hW : WF L) (hd : d + 6 < 24) (hp : p < gN L) (hq : q < gN L) (ht : (pIn (gN L) x && pIn (gN L) y && decide (x ≠ y)) = true) (hlo : imin x y = nI p) (hhi : imax x y = nI q) : ∃ M1, fX0_make d x y M = some ((), M1) ∧ AGR M1 L p q ∧ SmA M M1 := by
  have hn := hW.1
  have c1 : CLn (wr (wr M 25 0 (nI p)) 25 1 (nI q)) d L := cl_same hC (fun k _ _ => by rw [wr_n _ _ _ _ (by omega), wr_n _ _ _ _ (by omega)])
  have c2 : CLn (wr (wr (wr M 25 0 (nI p)) 25 1 (nI q)) 26 0 (nI (gNd L p))) d L := cl_same c1 (fun k _ _ => wr_n _ _ _ _ (by omega))
  have c3 : CLn (wr (wr (wr (wr M 25 0 (nI p)) 25 1 (nI q)) 26 0 (nI (gNd L p))) 26 1 (nI (gNd L q))) d L := cl_same c2 (fun k _ _ => wr_n _ _ _ _ (by omega))
  generalize hM3 : wr (wr (wr (wr M 25 0 (nI p)) 25 1 (nI q)) 26 0 (nI (gNd L p))) 26 1 (nI (gNd L q)) = M3 at c3
  have c4 : CLn (wr M3 24 4 (nI (shdA L))) d L := cl_same c3 (fun k _ _ => wr_n _ _ _ _ (by omega))
  have a25 : wr M 25 0 (nI p) 25 0 = nI p := by rw [wr_app, if_pos rfl, if_pos rfl]
  have b25 : wr (wr M 25 0 (nI p)) 25 1 (nI q) 25 0 = nI p := by rw [wr_app, if_pos rfl, if_neg (by omega), a25]
  have c25 : wr (wr (wr M 25 0 (nI p)) 25 1 (nI q)) 26 0 (nI (gNd L p)) 25 1 = nI q := by rw [wr_n _ _ _ _ (by omega), wr_app, if_pos rfl, if_pos rfl]
  have f25 : M3 25 0 = nI p := by rw [← hM3, wr_n _ _ _ _ (by omega), wr_n _ _ _ _ (by omega), b25]
  have g25 : M3 25 1 = nI q := by rw [← hM3, wr_n _ _ _ _ (by omega), c25]
  have f26 : M3 26 0 = nI (gNd L p) := by rw [← hM3, wr_app, if_pos rfl, if_neg (by omega), wr_app, if_pos rfl, if_pos rfl]
  have g26 : M3 26 1 = nI (gNd L q) := by rw [← hM3, wr_app, if_pos rfl, if_pos rfl]
  have s3 : SmA M M3 := by rw [← hM3]; exact (((SmA.wr (by omega) (by omega)).tr (SmA.wr (by omega) (by omega))).tr (SmA.wr (by omega) (by omega))).tr (SmA.wr (by omega) (by omega))
  have hl3 : M3 d 7 = nI (gL L) := c3.2.2.2.2.2.2.2.1
  have hl4 : wr M3 24 4 (nI (shdA L)) d 7 = nI (gL L) := c4.2.2.2.2.2.2.2.1
  have hsh : nI (rstN L) &&& nI (gL L) = nI (shdA L) := nI_and _ _
  have hA : AGn (wr (wr M3 24 4 (nI (shdA L))) 24 5 (nI (drkA L))) (gNd L p) (gNd L q) (shdA L) := by
    refine ⟨by rw [wr_n _ _ _ _ (by omega), wr_n _ _ _ _ (by omega)]; exact f26, by rw [wr_n _ _ _ _ (by omega), wr_n _ _ _ _ (by omega)]; exact g26, by rw [wr_app, if_pos rfl, if_neg (by omega), wr_app, if_pos rfl, if_pos rfl], (hW.2.2.2.1 p (by omega)).2.2.2, (hW.2.2.2.1 q (by omega)).2.2.2, shd_lt L⟩
  obtain ⟨M5, e5, s5, z5⟩ := x0_weigh hA
  have hA5 : AGn M5 (gNd L p) (gNd L q) (shdA L) := hA.fr (s5 26 (by decide)) (s5 24 (by decide))
  obtain ⟨M6, e6, s6, z60, z61⟩ := x0_choose hA5 z5
  refine ⟨M6, ?_, ⟨?_, ?_, hA5.fr (s6 26 (by decide)) (s6 24 (by decide)), ?_, z60, z61⟩, ?_⟩
  · unfold fX0_make
    rw [x1_areTwo hC hW, ht, bde, ifT, ckl_0_2, ixl_0, hlo, wme, ckl_1_2, ixl_1, hhi, wme, ckl_0_2, b25, ck_in (by omega) (by decide), ckl_0_2, ix_nI (by omega), c1.2.2.2.1 p (by omega), wme, ckl_1_2, c25, ck_in (by omega) (by decide), ckl_1_2, ix_nI (by omega), c2.2.2.2.1 q (by omega), wme, hM3, x1_hoursLeft c3 hW, bde, hl3, hsh, wme, x1_hoursLeft c4 hW, bde, hl4, drk_e hW, wme, e5, bde, e6, bde]
  · rw [s6 25 (by decide), s5 25 (by decide), wr_n _ _ _ _ (by omega), wr_n _ _ _ _ (by omega)]; exact f25
  · rw [s6 25 (by decide), s5 25 (by decide), wr_n _ _ _ _ (by omega), wr_n _ _ _ _ (by omega)]; exact g25
  · rw [s6 24 (by decide), s5 24 (by decide), wr_app, if_pos rfl, if_pos rfl]
  · intro k hk
    rw [s6 k (by omega), s5 k (by omega), wr_n _ _ _ _ (by omega), wr_n _ _ _ _ (by omega)]
    exact s3 k hk
/-- what one, resp. both, meet under the agreement -/
def ag0 (L : Lan) (p q : Nat) : Nat := pcN (gNd L p &&& (drkA L ||| stN (h0N (gNd L p).testBit (gNd L q).testBit (shdA L).testBit) 16))
def ag1 (L : Lan) (p q : Nat) : Nat := pcN (gNd L q &&& (drkA L ||| stN (h1N (gNd L p).testBit (gNd L q).testBit (shdA L).testBit) 16))
theorem x0_side0 {M : Mem} {L : Lan} {p q : Nat} (h : AGR M L p q) : fX0_metOfSide 0 M = some (nI (ag0 L p q), M) := by
  obtain ⟨h1, h2, ⟨a1, a2, a3, a4, a5, a6⟩, h4, h5, h6⟩ := h
  have w : fX7_isWithin 0 1 M = some (1, M) := x7_isWithin (k := 1) 0 M (by decide)
  unfold fX0_metOfSide
  rw [w, bde, if_neg (by decide), ckl_0_2, ckl_0_2, ixl_0, a1, h4, h5, nI_or, nI_and, bitCount M (and_lt a4), bde]
  rfl
theorem x0_side1 {M : Mem} {L : Lan} {p q : Nat} (h : AGR M L p q) : fX0_metOfSide 1 M = some (nI (ag1 L p q), M) := by
  obtain ⟨h1, h2, ⟨a1, a2, a3, a4, a5, a6⟩, h4, h5, h6⟩ := h
  have w : fX7_isWithin 1 1 M = some (1, M) := x7_isWithin (k := 1) 1 M (by decide)
  unfold fX0_metOfSide
  rw [w, bde, if_neg (by decide), ckl_1_2, ckl_1_2, ixl_1, a2, h4, h6, nI_or, nI_and, bitCount M (and_lt a5), bde]
  rfl
theorem x0_both {M : Mem} {L : Lan} {p q : Nat} (h : AGR M L p q) : fX0_metOfBoth M = some (nI (ag0 L p q + ag1 L p q), M) := by
  unfold fX0_metOfBoth
  rw [x0_side0 h, bde, x0_side1 h, bde, nI_add]
/-- the closed form -/
def mtsN (L : Lan) (p q : Nat) : Nat := pcN ((gNd L p ||| gNd L q) &&& shdA L) + pcN (gNd L p &&& drkA L) + pcN (gNd L q &&& drkA L)
theorem ag_mts {L : Lan} (hW : WF L) (p q : Nat) : ag0 L p q + ag1 L p q = mtsN L p q := by
  unfold ag0 ag1 mtsN pcN
  rw [cn_sm, cn_sm, cn_sm, cn_sm, cn_sm, ← sm_add, ← sm_add, ← sm_add]
  apply sm_congr
  intro h hh
  have k0 : h0N (gNd L p).testBit (gNd L q).testBit (shdA L).testBit h = ((shdA L).testBit h && !pickN (gNd L p).testBit (gNd L q).testBit (shdA L).testBit h (pthN (gNd L p).testBit (gNd L q).testBit (shdA L).testBit h)) := rfl
  have k1 : h1N (gNd L p).testBit (gNd L q).testBit (shdA L).testBit h = ((shdA L).testBit h && pickN (gNd L p).testBit (gNd L q).testBit (shdA L).testBit h (pthN (gNd L p).testBit (gNd L q).testBit (shdA L).testBit h)) := rfl
  have hd : (drkA L).testBit h = (decide (gH L ≤ h) && !(gL L).testBit h) := by
    unfold drkA
    rw [stN_tb, decide_eq_true hh, Bool.true_and]
  have hx : (shdA L).testBit h = (decide (gH L ≤ h) && (gL L).testBit h) := by
    rw [shd_tb hW, decide_eq_true hh, Bool.and_true]
  simp only [Nat.testBit_and, Nat.testBit_or, stN_tb, decide_eq_true hh, Bool.true_and, k0, k1, hd]
  have hneed := pick_need (gNd L p).testBit (gNd L q).testBit (shdA L).testBit (h := h) (p := pthN (gNd L p).testBit (gNd L q).testBit (shdA L).testBit h) hh
  generalize pickN (gNd L p).testBit (gNd L q).testBit (shdA L).testBit h (pthN (gNd L p).testBit (gNd L q).testBit (shdA L).testBit h) = P at hneed ⊢
  rw [hx] at hneed ⊢
  revert hneed
  cases decide (gH L ≤ h) <;> cases (gL L).testBit h <;> cases (gNd L p).testBit h <;> cases (gNd L q).testBit h <;> cases P <;> simp [one]

/-! texts: the reference reads an item -/
def KX (M M1 : Mem) : Prop := SmX M M1 ∧ M1 57 23 = M 57 23 ∧ M1 57 24 = M 57 24 ∧ M1 68 = M 68
theorem KX.rf {M : Mem} : KX M M := ⟨SmX.rf, rfl, rfl, rfl⟩
theorem KX.tr {M M1 M2 : Mem} (h1 : KX M M1) (h2 : KX M1 M2) : KX M M2 := ⟨h1.1.tr h2.1, h2.2.1.trans h1.2.1, h2.2.2.1.trans h1.2.2.1, h2.2.2.2.trans h1.2.2.2⟩
theorem KX.n {M M1 : Mem} (h : SmN M M1) : KX M M1 := ⟨h.x, h.2 23 (by omega), h.2 24 (by omega), h.1 68 (by decide)⟩
theorem KX.w {M : Mem} {j : Nat} {v : Int32} (h : 16 ≤ j ∧ j ≤ 22) : KX M (wr M 57 j v) := ⟨SmX.w7 (by omega), by rw [wr_app, if_pos rfl, if_neg (by omega)], by rw [wr_app, if_pos rfl, if_neg (by omega)], wr_n _ _ _ _ (by decide)⟩
/-- good so far -/
def GS (M : Mem) (t : Nat → Nat) (n p : Nat) : Prop := RPT M t n p ∧ M 57 20 = 0 ∧ TPR M t n
/-- a fault was found -/
def FLT (M : Mem) (q : Nat) : Prop := M 57 20 = 1 ∧ M 57 16 = nI q
theorem GS.ch {M M1 : Mem} {t : Nat → Nat} {n p : Nat} (h : GS M t n p) (f : SmX M M1) (g : ∀ j, 16 ≤ j → j ≤ 20 → M1 57 j = M 57 j) : GS M1 t n p := ⟨h.1.fr (fun j a b => g j a (by omega)), by rw [g 20 (by omega) (by omega)]; exact h.2.1, h.2.2.x f⟩
theorem x8_mustG {M : Mem} {t : Nat → Nat} {n p : Nat} (h : GS M t n p) : ∃ M1, fX8_must 1 M = some ((), M1) ∧ GS M1 t n (nx2 t n p) ∧ KX M M1 := by
  have k0 : KX M (wr M 57 20 0) := KX.w (by omega)
  obtain ⟨M1, e1, r1, s1⟩ := x8_nextT (M := wr M 57 20 0) (h.2.2.x k0.1) (h.1.fr (fun j a b => by rw [wr_app, if_pos rfl, if_neg (by omega)]))
  refine ⟨M1, ?_, ⟨r1, by rw [s1.2 20 (by omega), wr_app, if_pos rfl, if_pos rfl], (h.2.2.x k0.1).x s1.x⟩, k0.tr (KX.n s1)⟩
  unfold fX8_must fX8_must_L17
  rw [if_pos h.2.1, if_neg (by decide), ck_b0, wme, if_pos (by rw [wr_app, if_pos rfl, if_pos rfl]), e1, bde]
theorem x8_mustF {M : Mem} {x : Int32} (h : M 57 20 = 1 ∨ (M 57 20 = 0 ∧ x = 0)) : fX8_must x M = some ((), wr M 57 20 1) := by
  have l12 : fX8_must_L12 M = some ((), wr M 57 20 1) := by
    unfold fX8_must_L12 fX8_must_L17
    rw [ck_b1, wme, if_neg (by rw [wr_app, if_pos rfl, if_pos rfl]; decide)]
  unfold fX8_must
  rcases h with h | ⟨h1, h2⟩
  · rw [h, if_neg (by decide), l12]
  · rw [if_pos h1, if_pos h2, l12]
theorem flt_w {M : Mem} {q : Nat} (h : M 57 16 = nI q) : FLT (wr M 57 20 1) q := ⟨by rw [wr_app, if_pos rfl, if_pos rfl], by rw [wr_app, if_pos rfl, if_neg (by decide)]; exact h⟩
theorem so_2 (t : Nat → Nat) (n p : Nat) : (soN t n p = 2) ↔ tyN t n p = 2 := by unfold soN; split <;> omega
theorem so_lt (t : Nat → Nat) (n p : Nat) : soN t n p < 10 := by
  have := ty_le t n p
  unfold soN; split <;> omega
theorem nx2_b {t : Nat → Nat} {n p : Nat} (hb : bgB t n p = true) : nx2 t n p = nxN t n p := nx_e hb
theorem x8_numG {M : Mem} {t : Nat → Nat} {n p m : Nat} {hi : Int32} (h : GS M t n p) (hh : ∀ v : Int32, fX8_within v 0 hi M = some (bI (pIn m v), M)) (hn : nuB t n p m = true) : ∃ M1, fX8_number 0 hi M = some (nI (valN t n p), M1) ∧ GS M1 t n (nxN t n p) ∧ KX M M1 := by
  obtain ⟨n1, n2⟩ := nu_t.mp hn
  obtain ⟨M1, e1, g1, k1⟩ := x8_mustG h
  rw [nx2_b (nu_bg h.1.1 hn).2] at g1
  have hv := val_le t n p
  refine ⟨M1, ?_, g1, k1⟩
  unfold fX8_number fX8_number_L28
  rw [bve, h.1.2.2.2.1, if_pos (by rw [q2 (by have := so_lt t n p; omega)]; exact (so_2 t n p).mpr n1), hh, bde, h.1.2.2.2.2 n1, pIn_nI (by omega), decide_eq_true n2, ifT, e1, bde]
theorem x8_numB {M : Mem} {t : Nat → Nat} {n p m : Nat} {hi : Int32} (h : GS M t n p) (hh : ∀ v : Int32, fX8_within v 0 hi M = some (bI (pIn m v), M)) (hn : nuB t n p m = false) : ∃ v M1, fX8_number 0 hi M = some (v, M1) ∧ FLT M1 p ∧ KX M M1 := by
  have hv := val_le t n p
  have l27 : ∀ v, fX8_number_L27 v M = some (v, wr M 57 20 1) := by
    intro v
    unfold fX8_number_L27 fX8_number_L28
    rw [x8_mustF (Or.inr ⟨h.2.1, rfl⟩), bde]
  refine ⟨M 57 19, wr M 57 20 1, ?_, flt_w h.1.2.1, KX.w (by omega)⟩
  unfold fX8_number
  rw [bve, h.1.2.2.2.1]
  by_cases c : tyN t n p = 2
  · rw [if_pos (by rw [q2 (by have := so_lt t n p; omega)]; exact (so_2 t n p).mpr c), hh, bde]
    have hf : pIn m (M 57 19) = false := by
      rw [h.1.2.2.2.2 c, pIn_nI (by omega)]
      exact decide_eq_false (fun q => by rw [nu_t.mpr ⟨c, q⟩] at hn; cases hn)
    rw [hf, ifF, l27]
  · rw [if_neg (by rw [q2 (by have := so_lt t n p; omega)]; exact fun q => c ((so_2 t n p).mp q)), l27]
theorem x8_numF {M : Mem} {q m : Nat} {hi : Int32} (h : FLT M q) (hh : ∀ v : Int32, fX8_within v 0 hi M = some (bI (pIn m v), M)) : ∃ v M1, fX8_number 0 hi M = some (v, M1) ∧ FLT M1 q ∧ KX M M1 := by
  have l28 : ∀ v w, fX8_number_L28 v w M = some (v, wr M 57 20 1) := by
    intro v w
    unfold fX8_number_L28
    rw [x8_mustF (Or.inl h.1), bde]
  refine ⟨M 57 19, wr M 57 20 1, ?_, flt_w h.2, KX.w (by omega)⟩
  unfold fX8_number fX8_number_L27
  rw [bve]
  split
  · rw [hh, bde]
    split <;> exact l28 _ _
  · exact l28 _ _
theorem x8_isNextN {M : Mem} {t : Nat → Nat} {n p k : Nat} (h : GS M t n p) (hk : k < 13) (hw : wdB t n p k = false) : fX8_isNext k M = some (0, M) := by
  unfold fX8_isNext fX8_isNext_L19 fX8_isNext_L20
  rw [if_pos h.2.1, x8_isWord h.2.2 h.1 hk, hw, bde, ifF, if_pos rfl, ck_b0]
theorem x8_isNextY {M : Mem} {t : Nat → Nat} {n p k : Nat} (h : GS M t n p) (hk : k < 13) (hw : wdB t n p k = true) : ∃ M1, fX8_isNext k M = some (1, M1) ∧ GS M1 t n (nxN t n p) ∧ KX M M1 := by
  obtain ⟨M1, e1, g1, k1⟩ := x8_mustG h
  rw [nx2_b (wd_bg h.1.1 hw).2] at g1
  refine ⟨M1, ?_, g1, k1⟩
  unfold fX8_isNext fX8_isNext_L20
  rw [if_pos h.2.1, x8_isWord h.2.2 h.1 hk, hw, bde, ifT, if_neg (by decide), e1, bde, ck_b1]
theorem x8_isNextF {M : Mem} {q k : Nat} (h : FLT M q) : fX8_isNext k M = some (0, M) := by
  unfold fX8_isNext fX8_isNext_L19 fX8_isNext_L20
  rw [h.1, if_neg (by decide), if_pos rfl, ck_b0]
theorem x8_trait {M : Mem} {t : Nat → Nat} {n p k m d mm : Nat} {K : Int32 → Mem → Option (Unit × Mem)} (h : GS M t n p) (hk : k < 13) (hm : mm + 1 = m) (hm2 : mm < 2 ^ 31 - 1) : ∃ v M1, (bd (fX8_isNext k M) fun r M23 => (if r = 0 then K (nI d) M23 else (bd (fX8_number 0 (nI mm) M23) fun r26 M25 => K r26 M25))) = K v M1 ∧ KX M M1 ∧ ((trP t n k m d p).1 = true → v = nI (trP t n k m d p).2.2 ∧ GS M1 t n (trP t n k m d p).2.1) ∧ ((trP t n k m d p).1 = false → FLT M1 (trP t n k m d p).2.1) := by
  subst hm
  cases hb : wdB t n p k
  · refine ⟨nI d, M, by rw [x8_isNextN h hk hb, bde, if_pos rfl], KX.rf, fun _ => by rw [tr_no hb]; exact ⟨rfl, h⟩, fun q => by rw [tr_no hb] at q; cases q⟩
  · obtain ⟨M1, e1, g1, k1⟩ := x8_isNextY h hk hb
    have hh : ∀ v : Int32, fX8_within v 0 (nI mm) M1 = some (bI (pIn (mm + 1) v), M1) := fun v => x8_within v M1 hm2
    cases hn : nuB t n (nxN t n p) (mm + 1)
    · obtain ⟨v, M2, e2, f2, k2⟩ := x8_numB g1 hh hn
      exact ⟨v, M2, by rw [e1, bde, if_neg (by decide), e2, bde], k1.tr k2, fun q => (by rw [tr_ba hb hn] at q; cases q), fun _ => by rw [tr_ba hb hn]; exact f2⟩
    · obtain ⟨M2, e2, g2, k2⟩ := x8_numG g1 hh hn
      exact ⟨_, M2, by rw [e1, bde, if_neg (by decide), e2, bde], k1.tr k2, fun _ => by rw [tr_ok hb hn]; exact ⟨rfl, g2⟩, fun q => by rw [tr_ok hb hn] at q; cases q⟩
theorem x8_traitF {M : Mem} {q k : Nat} {d mm : Int32} {K : Int32 → Mem → Option (Unit × Mem)} (h : FLT M q) : (bd (fX8_isNext k M) fun r M23 => (if r = 0 then K d M23 else (bd (fX8_number 0 mm M23) fun r26 M25 => K r26 M25))) = K d M := by
  rw [x8_isNextF h, bde, if_pos rfl]
/-- the k-th item is told -/
def itmP (M : Mem) (k : Nat) (x : Itm) : Prop := M 68 (4 * k) = nI x.1 ∧ M 68 (4 * k + 1) = nI x.2.1 ∧ M 68 (4 * k + 2) = nI x.2.2.1 ∧ M 68 (4 * k + 3) = nI x.2.2.2
theorem x8_itemI {M : Mem} {k : Nat} {a b c d : Int32} (hk : M 57 23 = nI k) (hk2 : k < 120) : ∃ M1, fX8_item a b c d M = some ((), M1) ∧ SmX M M1 ∧ M1 57 23 = nI (k + 1) ∧ (∀ j, j ≠ 23 → M1 57 j = M 57 j) ∧ (M1 68 (4 * k) = a ∧ M1 68 (4 * k + 1) = b ∧ M1 68 (4 * k + 2) = c ∧ M1 68 (4 * k + 3) = d) ∧ (∀ j, j < 4 * k → M1 68 j = M 68 j) := by
  refine ⟨wr (wr (wr (wr (wr M 68 (4 * k) a) 68 (4 * k + 1) b) 68 (4 * k + 2) c) 68 (4 * k + 3) d) 57 23 (nI (k + 1)), ?_, ((((SmX.w68.tr SmX.w68).tr SmX.w68).tr SmX.w68).tr (SmX.w7 (by omega))), by rw [wr_app, if_pos rfl, if_pos rfl], fun j hj => ?_, ⟨?_, ?_, ?_, ?_⟩, fun j hj => ?_⟩
  · unfold fX8_item
    rw [hk, mu4, bve, ck_in (by omega) (by decide), ix_nI (by omega), wme, ad1, ck_in (by omega) (by decide), ix_nI (by omega), wme, ad2, ck_in (by omega) (by decide), ix_nI (by omega), wme, ad3, ck_in (by omega) (by decide), ix_nI (by omega), wme, wr_n _ _ _ _ (show (57 : Nat) ≠ 68 by decide), wr_n _ _ _ _ (show (57 : Nat) ≠ 68 by decide), wr_n _ _ _ _ (show (57 : Nat) ≠ 68 by decide), wr_n _ _ _ _ (show (57 : Nat) ≠ 68 by decide), hk, ad1, wme]
  · rw [wr_app, if_pos rfl, if_neg hj, wr_n _ _ _ _ (by decide), wr_n _ _ _ _ (by decide), wr_n _ _ _ _ (by decide), wr_n _ _ _ _ (by decide)]
  · rw [wr_n _ _ _ _ (by decide), wr_app, if_pos rfl, if_neg (by omega), wr_app, if_pos rfl, if_neg (by omega), wr_app, if_pos rfl, if_neg (by omega), wr_app, if_pos rfl, if_pos rfl]
  · rw [wr_n _ _ _ _ (by decide), wr_app, if_pos rfl, if_neg (by omega), wr_app, if_pos rfl, if_neg (by omega), wr_app, if_pos rfl, if_pos rfl]
  · rw [wr_n _ _ _ _ (by decide), wr_app, if_pos rfl, if_neg (by omega), wr_app, if_pos rfl, if_pos rfl]
  · rw [wr_n _ _ _ _ (by decide), wr_app, if_pos rfl, if_pos rfl]
  · rw [wr_n _ _ _ _ (by decide), wr_app, if_pos rfl, if_neg (by omega), wr_app, if_pos rfl, if_neg (by omega), wr_app, if_pos rfl, if_neg (by omega), wr_app, if_pos rfl, if_neg (by omega)]
/-- what an item leaves, r: what was read -/
def ITR (M M1 : Mem) (t : Nat → Nat) (n k pn : Nat) (r : Bool × Nat × Itm) : Prop := SmX M M1 ∧ (r.1 = true → GS M1 t n r.2.1 ∧ M1 57 24 = nI (if r.2.2.1 ≤ 6 then pn + 1 else pn) ∧ M1 57 23 = nI (k + 1) ∧ itmP M1 k r.2.2 ∧ ∀ j, j < 4 * k → M1 68 j = M 68 j) ∧ (r.1 = false → FLT M1 r.2.1)
theorem x8_itemF {M : Mem} {k q : Nat} {a b c d : Int32} (hk : M 57 23 = nI k) (hk2 : k < 120) (h : FLT M q) : ∃ M1, (bd (fX8_item a b c d M) fun _ M35 => some ((), M35)) = some ((), M1) ∧ SmX M M1 ∧ FLT M1 q := by
  obtain ⟨M1, e1, s1, -, f1, -, -⟩ := x8_itemI (a := a) (b := b) (c := c) (d := d) hk hk2
  exact ⟨M1, by rw [e1, bde], s1, by rw [f1 20 (by decide)]; exact h.1, by rw [f1 16 (by decide)]; exact h.2⟩
theorem x8_itemG {M : Mem} {t : Nat → Nat} {n k p pn : Nat} {x : Itm} (h : GS M t n p) (hk : M 57 23 = nI k) (hk2 : k < 120) (h24 : M 57 24 = nI (if x.1 ≤ 6 then pn + 1 else pn)) : ∃ M1, (bd (fX8_item (nI x.1) (nI x.2.1) (nI x.2.2.1) (nI x.2.2.2) M) fun _ M35 => some ((), M35)) = some ((), M1) ∧ SmX M M1 ∧ GS M1 t n p ∧ M1 57 24 = nI (if x.1 ≤ 6 then pn + 1 else pn) ∧ M1 57 23 = nI (k + 1) ∧ itmP M1 k x ∧ ∀ j, j < 4 * k → M1 68 j = M 68 j := by
  obtain ⟨M1, e1, s1, g1, f1, i1, o1⟩ := x8_itemI (a := nI x.1) (b := nI x.2.1) (c := nI x.2.2.1) (d := nI x.2.2.2) hk hk2
  exact ⟨M1, by rw [e1, bde], s1, h.ch s1 (fun j a b => f1 j (by omega)), by rw [f1 24 (by decide)]; exact h24, g1, i1, o1⟩
theorem ex_step {A B : Option (Unit × Mem)} {P : Mem → Prop} (h : A = B) (g : ∃ M', B = some ((), M') ∧ P M') : ∃ M', A = some ((), M') ∧ P M' := by rw [h]; exact g
theorem x8_person {M : Mem} {t : Nat → Nat} {n p k pn : Nat} (h : GS M t n p) (hk : M 57 23 = nI k) (hk2 : k < 120) (h24 : M 57 24 = nI pn) (hpn : pn ≤ 8) (hkd : kdN t n p ≠ 0) : ∃ M1, (if 8 ≤ (M 57 24) then (fX8_readItem_L24 (mI (kdN t n p)) 0 M) else (fX8_readItem_L24 (mI (kdN t n p)) 1 M)) = some ((), M1) ∧ ITR M M1 t n k pn (pit t n p pn) := by
  have hk7 := kd_le t n p
  have hkk : mI (kdN t n p) = nI (kdN t n p - 1) := mI_pos (by omega)
  rw [hkk, h24]
  unfold pit
  rw [if_pos hkd]
  by_cases h8 : pn = 8
  · have mf : fX8_must 0 M = some ((), wr M 57 20 1) := x8_mustF (Or.inr ⟨h.2.1, rfl⟩)
    rw [if_pos (by rw [ge8 (by omega)]; omega), if_pos h8]
    have f1 : FLT (wr (wr M 57 20 1) 57 24 (nI (pn + 1))) p := ⟨by rw [wr_app, if_pos rfl, if_neg (by decide), wr_app, if_pos rfl, if_pos rfl], by rw [wr_app, if_pos rfl, if_neg (by decide), wr_app, if_pos rfl, if_neg (by decide)]; exact h.1.2.1⟩
    have k1 : (wr (wr M 57 20 1) 57 24 (nI (pn + 1))) 57 23 = nI k := by rw [wr_app, if_pos rfl, if_neg (by decide), wr_app, if_pos rfl, if_neg (by decide)]; exact hk
    have s1 : SmX M (wr (wr M 57 20 1) 57 24 (nI (pn + 1))) := (SmX.w7 (by omega)).tr (SmX.w7 (by omega))
    have g24 : (wr M 57 20 1) 57 24 = nI pn := by rw [wr_app, if_pos rfl, if_neg (by decide)]; exact h24
    generalize hM2 : wr (wr M 57 20 1) 57 24 (nI (pn + 1)) = M2 at f1 k1 s1
    obtain ⟨M3, e3, s3, f3⟩ := x8_itemF (a := nI (kdN t n p - 1)) (b := 0) (c := 3) (d := 0) k1 hk2 f1
    refine ⟨M3, ?_, s1.tr s3, fun q => (by cases q), fun _ => f3⟩
    unfold fX8_readItem_L24
    rw [mf, bde, g24, ad1, hM2, wme]
    rw [x8_traitF (K := fX8_readItem_L58 (nI (kdN t n p - 1))) f1]
    unfold fX8_readItem_L58
    rw [x8_traitF (K := fX8_readItem_L80 (nI (kdN t n p - 1)) 0) f1]
    unfold fX8_readItem_L80
    rw [x8_traitF (K := fun v => fX8_readItem_L106 v 3 0 (nI (kdN t n p - 1))) f1]
    exact e3
  · obtain ⟨M1, e1, g1, k1⟩ := x8_mustG h
    rw [nx2_b (wd_bg h.1.1 (kd_w hkd)).2] at g1
    rw [if_neg (by rw [ge8 (by omega)]; omega), if_neg h8]
    have s2 : SmX M1 (wr M1 57 24 (nI (pn + 1))) := SmX.w7 (by omega)
    have g2 : GS (wr M1 57 24 (nI (pn + 1))) t n (nxN t n p) := g1.ch s2 (fun j a b => by rw [wr_app, if_pos rfl, if_neg (by omega)])
    have a23 : (wr M1 57 24 (nI (pn + 1))) 57 23 = nI k := by rw [wr_app, if_pos rfl, if_neg (by decide), k1.2.1]; exact hk
    have a24 : (wr M1 57 24 (nI (pn + 1))) 57 24 = nI (pn + 1) := by rw [wr_app, if_pos rfl, if_pos rfl]
    have a68 : (wr M1 57 24 (nI (pn + 1))) 68 = M 68 := by rw [wr_n _ _ _ _ (by decide)]; exact k1.2.2.2
    have sM : SmX M (wr M1 57 24 (nI (pn + 1))) := k1.1.tr s2
    have e24 : fX8_readItem_L24 (nI (kdN t n p - 1)) 1 M = (bd (fX8_isNext 7 (wr M1 57 24 (nI (pn + 1)))) fun r24 M23 => (if r24 = 0 then (fX8_readItem_L58 (nI (kdN t n p - 1)) 0 M23) else (bd (fX8_number 0 99 M23) fun r26 M25 => (fX8_readItem_L58 (nI (kdN t n p - 1)) r26 M25)))) := by
      unfold fX8_readItem_L24
      rw [e1, bde, k1.2.2.1, h24, ad1, wme]
    rw [e24]
    generalize wr M1 57 24 (nI (pn + 1)) = M2 at g2 a23 a24 a68 sM
    obtain ⟨v3, M3, e3, k3, y3, z3⟩ := x8_trait (k := 7) (m := 100) (d := 0) (mm := 99) (K := fX8_readItem_L58 (nI (kdN t n p - 1))) g2 (by decide) rfl (by decide)
    have e3' : _ = fX8_readItem_L58 (nI (kdN t n p - 1)) v3 M3 := e3
    refine ex_step e3' ?_
    have b23 : M3 57 23 = nI k := by rw [k3.2.1]; exact a23
    by_cases c1 : (trP t n 7 100 0 (nxN t n p)).1 = false
    · rw [if_pos c1]
      have f3 := z3 c1
      obtain ⟨M4, e4, s4, f4⟩ := x8_itemF (a := nI (kdN t n p - 1)) (b := v3) (c := 3) (d := 0) b23 hk2 f3
      refine ⟨M4, ?_, (sM.tr k3.1).tr s4, fun q => (by cases q), fun _ => f4⟩
      unfold fX8_readItem_L58
      rw [x8_traitF (K := fX8_readItem_L80 (nI (kdN t n p - 1)) v3) f3]
      unfold fX8_readItem_L80
      rw [x8_traitF (K := fun v => fX8_readItem_L106 v 3 v3 (nI (kdN t n p - 1))) f3]
      exact e4
    · rw [if_neg c1]
      obtain ⟨hv3, g3⟩ := y3 (bt_n c1)
      obtain ⟨v4, M4, e4, k4, y4, z4⟩ := x8_trait (k := 8) (m := 10) (d := 3) (mm := 9) (K := fX8_readItem_L80 (nI (kdN t n p - 1)) v3) g3 (by decide) rfl (by decide)
      have e4' : fX8_readItem_L58 (nI (kdN t n p - 1)) v3 M3 = fX8_readItem_L80 (nI (kdN t n p - 1)) v3 v4 M4 := e4
      refine ex_step e4' ?_
      have d23 : M4 57 23 = nI k := by rw [k4.2.1]; exact b23
      by_cases c2 : (trP t n 8 10 3 (trP t n 7 100 0 (nxN t n p)).2.1).1 = false
      · rw [if_pos c2]
        have f4 := z4 c2
        obtain ⟨M5, e5, s5, f5⟩ := x8_itemF (a := nI (kdN t n p - 1)) (b := v3) (c := v4) (d := 0) d23 hk2 f4
        refine ⟨M5, ?_, ((sM.tr k3.1).tr k4.1).tr s5, fun q => (by cases q), fun _ => f5⟩
        unfold fX8_readItem_L80
        rw [x8_traitF (K := fun v => fX8_readItem_L106 v v4 v3 (nI (kdN t n p - 1))) f4]
        exact e5
      · rw [if_neg c2]
        obtain ⟨hv4, g4⟩ := y4 (bt_n c2)
        obtain ⟨v5, M5, e5, k5, y5, z5⟩ := x8_trait (k := 9) (m := 65536) (d := 0) (mm := 65535) (K := fun v => fX8_readItem_L106 v v4 v3 (nI (kdN t n p - 1))) g4 (by decide) rfl (by decide)
        have e5' : fX8_readItem_L80 (nI (kdN t n p - 1)) v3 v4 M4 = fX8_readItem_L106 v5 v4 v3 (nI (kdN t n p - 1)) M5 := e5
        refine ex_step e5' ?_
        have d23 : M5 57 23 = nI k := by rw [k5.2.1]; exact d23
        have d24 : M5 57 24 = nI (pn + 1) := by rw [k5.2.2.1, k4.2.2.1, k3.2.2.1]; exact a24
        have d68 : M5 68 = M 68 := by rw [k5.2.2.2, k4.2.2.2, k3.2.2.2]; exact a68
        cases c3 : (trP t n 9 65536 0 (trP t n 8 10 3 (trP t n 7 100 0 (nxN t n p)).2.1).2.1).1
        · have f5 := z5 c3
          obtain ⟨M6, e6, s6, f6⟩ := x8_itemF (a := nI (kdN t n p - 1)) (b := v3) (c := v4) (d := v5) d23 hk2 f5
          exact ⟨M6, e6, (((sM.tr k3.1).tr k4.1).tr k5.1).tr s6, fun q => (by cases q), fun _ => f6⟩
        · obtain ⟨hv5, g5⟩ := y5 c3
          obtain ⟨M6, e6, s6, g6, h6, i6, j6, o6⟩ := x8_itemG (x := (kdN t n p - 1, (trP t n 7 100 0 (nxN t n p)).2.2, (trP t n 8 10 3 (trP t n 7 100 0 (nxN t n p)).2.1).2.2, (trP t n 9 65536 0 (trP t n 8 10 3 (trP t n 7 100 0 (nxN t n p)).2.1).2.1).2.2)) (pn := pn) g5 d23 hk2 (by rw [if_pos (show kdN t n p - 1 ≤ 6 by omega)]; exact d24)
          refine ⟨M6, ?_, (((sM.tr k3.1).tr k4.1).tr k5.1).tr s6, fun _ => ⟨g6, h6, i6, j6, fun j hj => by rw [o6 j hj, d68]⟩, fun q => (by cases q)⟩
          rw [hv3, hv4, hv5]
          exact e6

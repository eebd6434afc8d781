/-! texts: the class reads an item -/
/-- only the reader's place and the draft -/
def SmD (M M1 : Mem) : Prop := (∀ k, k ≠ 33 → (k < 36 ∨ 42 < k) → M1 k = M k) ∧ M1 33 6 = M 33 6
theorem SmD.rf {M : Mem} : SmD M M := ⟨fun _ _ _ => rfl, rfl⟩
theorem SmD.tr {M M1 M2 : Mem} (h1 : SmD M M1) (h2 : SmD M1 M2) : SmD M M2 := ⟨fun k a b => (h2.1 k a b).trans (h1.1 k a b), h2.2.trans h1.2⟩
theorem SmD.ofL {M M1 : Mem} (h : Sm 36 M M1) : SmD M M1 := ⟨fun k _ b => h k (by omega), by rw [h 33 (by omega)]⟩
theorem SmD.w7 {M : Mem} {v : Int32} : SmD M (wr M 33 7 v) := ⟨fun k a _ => wr_n _ _ _ _ a, by rw [wr_app, if_pos rfl, if_neg (by decide)]⟩
theorem TOK.d {M M1 : Mem} {t : Nat → Nat} {n : Nat} (h : TOK M t n) (f : SmD M M1) : TOK M1 t n := by
  obtain ⟨h1, h2⟩ := h
  refine ⟨by rw [f.2]; exact h1, fun p hp => ?_⟩
  rw [f.1 43 (by decide) (by decide), f.1 44 (by decide) (by decide), f.1 45 (by decide) (by decide), f.1 46 (by decide) (by decide)]
  exact h2 p hp
theorem TPC.d {M M1 : Mem} {t : Nat → Nat} {n : Nat} (h : TPC M t n) (f : SmD M M1) : TPC M1 t n := by
  obtain ⟨h1, h2, h3, h4⟩ := h
  exact ⟨by rw [f.1 34 (by decide) (by decide)]; exact h1, fun i hi => by rw [f.1 35 (by decide) (by decide)]; exact h2 i hi, h3, h4⟩
theorem CPT.d {M M1 : Mem} {t : Nat → Nat} {n p : Nat} (h : CPT M t n p) (f : SmD M M1) (h7 : M1 33 7 = M 33 7) : CPT M1 t n p := ⟨h.1, by rw [h7]; exact h.2.1, h.2.2.1.d f, h.2.2.2.d f⟩
/-- only the place -/
def SmP (M M1 : Mem) : Prop := (∀ k, k ≠ 33 → M1 k = M k) ∧ M1 33 6 = M 33 6
theorem SmP.d {M M1 : Mem} (h : SmP M M1) : SmD M M1 := ⟨fun k a _ => h.1 k a, h.2⟩
theorem SmP.rf {M : Mem} : SmP M M := ⟨fun _ _ => rfl, rfl⟩
theorem SmP.tr {M M1 M2 : Mem} (h1 : SmP M M1) (h2 : SmP M1 M2) : SmP M M2 := ⟨fun k a => (h2.1 k a).trans (h1.1 k a), h2.2.trans h1.2⟩
theorem SmP.cl {M M1 : Mem} {L : Lan} (h : SmP M M1) (hC : CLn M 36 L) : CLn M1 36 L := cl_same hC (fun k _ _ => h.1 k (by omega))
theorem x3_step {M : Mem} {t : Nat → Nat} {n p : Nat} (h : CPT M t n p) (hb : bgB t n p = true) : ∃ M1, fX3_step M = some ((), M1) ∧ CPT M1 t n (nxN t n p) ∧ SmP M M1 := by
  obtain ⟨h0, h1, h2, h3⟩ := id h
  have hp := (bg_t.mp hb).1
  have hr := rk_lt hb hp
  have hn := rk_le t n n
  have h120 := h3.2.2.1
  have f : SmP M (wr M 33 7 (nI (rkN t n p + 1))) := ⟨fun k a => wr_n _ _ _ _ a, by rw [wr_app, if_pos rfl, if_neg (by decide)]⟩
  refine ⟨wr M 33 7 (nI (rkN t n p + 1)), ?_, ⟨nx_tk hp, by rw [wr_app, if_pos rfl, if_pos rfl, rk_nx hb], h2.d f.d, h3.d f.d⟩, f⟩
  unfold fX3_step
  rw [h2.1, nI_pred, h1, if_neg (by rw [lit_le (by omega) (by omega)]; omega), ad1, wme]
theorem val_le (t : Nat → Nat) (n p : Nat) : valN t n p ≤ 100000 := va_le _ _ _
theorem x3_val {M : Mem} {t : Nat → Nat} {n p : Nat} (h : CPT M t n p) (h2 : tyN t n p = 2) : M 46 (rkN t n p) = nI (valN t n p) := ((h.2.2.1.2 p h.1).2.2 (Or.inr h2)).2
theorem x3_take {M : Mem} {t : Nat → Nat} {n p m : Nat} {x : Int32} (h : CPT M t n p) (hx : tyN t n p = 2 → ((nI (valN t n p) ≤ x) ↔ valN t n p < m)) : ∃ M1, fX3_takeNumber x M = some (bI (nuB t n p m), M1) ∧ SmP M M1 ∧ (nuB t n p m = true → CPT M1 t n (nxN t n p)) ∧ (nuB t n p m = false → M1 = M) := by
  obtain ⟨h0, h1, h2, h3⟩ := id h
  have hr := rk_120 h0 h3.2.2.1
  have hn2 : fX3_isNext 2 M = some (bI (decide (tyN t n p = 2)), M) := x3_isNext (y := 2) h (by decide)
  unfold fX3_takeNumber
  rw [hn2, bde]
  by_cases c : tyN t n p = 2
  · rw [decide_eq_true c, ifT, h1, ck_in (by omega) (by decide), ix_nI (by omega), x3_val h c]
    by_cases d : valN t n p < m
    · have hnu : nuB t n p m = true := nu_t.mpr ⟨c, d⟩
      obtain ⟨M1, e1, c1, s1⟩ := x3_step h (nu_bg h0 hnu).2
      refine ⟨M1, ?_, s1, fun _ => c1, fun q => (by rw [hnu] at q; cases q)⟩
      rw [if_pos ((hx c).mpr d), e1, bde, ck_b1, hnu]; rfl
    · have hnu : nuB t n p m = false := bt_f (fun q => d (nu_t.mp q).2)
      refine ⟨M, ?_, SmP.rf, fun q => (by rw [hnu] at q; cases q), fun _ => rfl⟩
      rw [if_neg (fun q => d ((hx c).mp q)), ck_b0, hnu]; rfl
  · have hnu : nuB t n p m = false := bt_f (fun q => c (nu_t.mp q).1)
    refine ⟨M, ?_, SmP.rf, fun q => (by rw [hnu] at q; cases q), fun _ => rfl⟩
    rw [decide_eq_false c, ifF, ck_b0, hnu]; rfl
theorem mx_lt {v m k : Nat} (hv : v < 2 ^ 31) (hm : m < 2 ^ 31) (hk : m + 1 = k) : (nI v ≤ nI m) ↔ v < k := by
  rw [lit_le hv hm]; omega
theorem x3_trait {M : Mem} {t : Nat → Nat} {n p k d2 pn m d mm : Nat} (h : CPT M t n p) (hk : k < 13) (hpn : pn < 8) (hd2 : 36 ≤ d2 ∧ d2 ≤ 42) (hm : mm + 1 = m) (hm2 : mm < 2 ^ 31) : ∃ M0, SmP M M0 ∧ CPT M0 t n (trP t n k m d p).2.1 ∧ fX3_readTrait k d2 (nI pn) (nI mm) M = some (bI (trP t n k m d p).1, if (trP t n k m d p).1 = true ∧ wdB t n p k = true then wr M0 d2 pn (nI (trP t n k m d p).2.2) else M0) := by
  have hw := x3_isWord h hk
  cases hb : wdB t n p k
  · refine ⟨M, SmP.rf, by rw [tr_no hb]; exact h, ?_⟩
    unfold fX3_readTrait
    rw [hw, hb, bde, ifF, ck_b1, tr_no hb, if_neg (fun q => by cases q.2)]; rfl
  · obtain ⟨M1, e1, c1, s1⟩ := x3_step h (wd_bg h.1 hb).2
    have hr := rk_120 c1.1 c1.2.2.2.2.2.1
    obtain ⟨M2, e2, s2, c2, k2⟩ := x3_take (m := m) (x := nI mm) c1 (fun _ => mx_lt (by have := val_le t n (nxN t n p); omega) hm2 hm)
    cases hnu : nuB t n (nxN t n p) m
    · have hk2 := k2 hnu
      subst hk2
      refine ⟨M2, s1.tr s2, by rw [tr_ba hb hnu]; exact c1, ?_⟩
      unfold fX3_readTrait
      rw [hw, hb, bde, ifT, e1, bde, c1.2.1, ck_in (by omega) (by decide), bve, e2, hnu, bde, ifF, ck_b0, tr_ba hb hnu, if_neg (fun q => by cases q.1)]; rfl
    · refine ⟨M2, s1.tr s2, by rw [tr_ok hb hnu]; exact c2 hnu, ?_⟩
      have hwi : fX7_isWithin (nI pn) (8 - 1) M2 = some (bI true, M2) := by rw [show (8 - 1 : Int32) = nI 7 from rfl, x7_isWithin (k := 7) (nI pn) M2 (by decide), pIn_t (by omega) (by decide)]
      unfold fX3_readTrait
      rw [hw, hb, bde, ifT, e1, bde, c1.2.1, ck_in (by omega) (by decide), bve, e2, hnu, bde, ifT, hwi, bde, ifT, ck_in (by omega) (by decide), ix_nI (by omega), ix_nI (by omega), wme, ck_b1, x3_val c1 (nu_t.mp hnu).1, tr_ok hb hnu, if_pos ⟨rfl, rfl⟩]; rfl
theorem com_su (L : Lan) (k s g d v : Nat) : sSu (comL L k s g d) (uf (gSu (comL L k s g d)) (gN L) v) = comL L k v g d := by
  have : uf (gSu (comL L k s g d)) (gN L) v = uf (gSu L) (gN L) v := uf_uf (gSu L) (gN L) s v
  rw [this]; rfl
theorem com_sg (L : Lan) (k s g d v : Nat) : sSg (comL L k s g d) (uf (gSg (comL L k s g d)) (gN L) v) = comL L k s v d := by
  have : uf (gSg (comL L k s g d)) (gN L) v = uf (gSg L) (gN L) v := uf_uf (gSg L) (gN L) g v
  rw [this]; rfl
theorem com_nd (L : Lan) (k s g d v : Nat) : sNd (comL L k s g d) (uf (gNd (comL L k s g d)) (gN L) v) = comL L k s g v := by
  have : uf (gNd (comL L k s g d)) (gN L) v = uf (gNd L) (gN L) v := uf_uf (gNd L) (gN L) d v
  rw [this]; rfl
/-- what a trait leaves -/
theorem x3_traitL {M : Mem} {t : Nat → Nat} {n p k m d : Nat} {D X : Lan} {M0 : Mem} {d2 pn : Nat} (hC : CLn M 36 D) (s : SmP M M0) (hX : ∀ M', CLn M' 36 D → CLn (wr M' d2 pn (nI (trP t n k m d p).2.2)) 36 X) (hD : wdB t n p k = false → X = D) (h1 : (trP t n k m d p).1 = true) (hd2 : 36 ≤ d2 ∧ d2 ≤ 42) (hc : CPT M0 t n (trP t n k m d p).2.1) : CLn (if (trP t n k m d p).1 = true ∧ wdB t n p k = true then wr M0 d2 pn (nI (trP t n k m d p).2.2) else M0) 36 X ∧ SmD M (if (trP t n k m d p).1 = true ∧ wdB t n p k = true then wr M0 d2 pn (nI (trP t n k m d p).2.2) else M0) ∧ CPT (if (trP t n k m d p).1 = true ∧ wdB t n p k = true then wr M0 d2 pn (nI (trP t n k m d p).2.2) else M0) t n (trP t n k m d p).2.1 := by
  have c0 := s.cl hC
  cases hb : wdB t n p k
  · rw [if_neg (fun q => by cases q.2), hD hb]
    exact ⟨c0, s.d, hc⟩
  · rw [if_pos ⟨h1, rfl⟩]
    have f : SmD M0 (wr M0 d2 pn (nI (trP t n k m d p).2.2)) := ⟨fun k _ b => wr_n _ _ _ _ (by omega), by rw [wr_n _ _ _ _ (by omega)]⟩
    exact ⟨hX _ c0, s.d.tr f, hc.d f (by rw [wr_n _ _ _ _ (by omega)])⟩
theorem x3_person {M : Mem} {t : Nat → Nat} {n p : Nat} {D : Lan} (h : CPT M t n p) (hC : CLn M 36 D) (hW : WF D) (hk : kdN t n p ≠ 0) : ∃ M1, fX3_readPerson M = some (bI (pit t n p (gN D)).1, M1) ∧ CPT M1 t n (pit t n p (gN D)).2.1 ∧ SmD M M1 ∧ ((pit t n p (gN D)).1 = true → CLn M1 36 (apI D (pit t n p (gN D)).2.2)) := by
  have hn := hW.1
  have hbg := wd_bg h.1 (kd_w hk)
  have hk7 := kd_le t n p
  unfold pit fX3_readPerson
  rw [if_pos hk, x1_isFull hC hW, bde]
  by_cases h8 : gN D = 8
  · rw [if_pos h8, decide_eq_true h8, ifT]
    exact ⟨M, by rw [ck_b0]; rfl, h, SmD.rf, fun q => by cases q⟩
  · rw [if_neg h8, decide_eq_false h8, ifF, x3_kind h, bde]
    have hkk : mI (kdN t n p) = nI (kdN t n p - 1) := mI_pos (by omega)
    obtain ⟨M1, e1, c1, s1⟩ := x1_add (k := kdN t n p - 1) hC (by omega)
    have p1 : CPT M1 t n p := h.d (SmD.ofL s1) (by rw [s1 33 (by omega)])
    obtain ⟨M2, e2, c2, s2⟩ := x3_step p1 hbg.2
    have d2 : CLn M2 36 (comL D (kdN t n p - 1) 0 3 0) := s2.cl c1
    have f2 : SmD M M2 := (SmD.ofL s1).tr s2.d
    obtain ⟨M3, s3, c3, e3⟩ := x3_trait (k := 7) (d2 := 38) (pn := gN D) (m := 100) (d := 0) (mm := 99) c2 (by decide) (by omega) (by decide) rfl (by decide)
    have e3' : fX3_readTrait 7 38 (nI (gN D)) 99 M2 = _ := e3
    rw [hkk, e1, bde, e2, bde, e3', bde]
    by_cases g1 : (trP t n 7 100 0 (nxN t n p)).1 = false
    · have hM : (if (trP t n 7 100 0 (nxN t n p)).1 = true ∧ wdB t n (nxN t n p) 7 = true then wr M3 38 (gN D) (nI (trP t n 7 100 0 (nxN t n p)).2.2) else M3) = M3 := if_neg (by rw [g1]; exact fun q => by cases q.1)
      rw [hM, if_pos g1, g1, ifF]
      exact ⟨M3, by rw [ck_b0]; rfl, c3, f2.tr s3.d, fun q => by cases q⟩
    · have g1' := bt_n g1
      obtain ⟨c3a, s3a, c3b⟩ := x3_traitL (X := comL D (kdN t n p - 1) (trP t n 7 100 0 (nxN t n p)).2.2 3 0) (d2 := 38) (pn := gN D) d2 s3 (fun M' hM' => by rw [← com_su D _ 0]; exact cl_Su hM' _) (fun q => by rw [tr_no q]) g1' (by decide) c3
      rw [if_neg g1, g1', ifT]
      rw [g1'] at c3a s3a c3b
      generalize (if true = true ∧ wdB t n (nxN t n p) 7 = true then wr M3 38 (gN D) (nI (trP t n 7 100 0 (nxN t n p)).2.2) else M3) = M3 at c3a s3a c3b
      obtain ⟨M4, s4, c4, e4⟩ := x3_trait (k := 8) (d2 := 39) (pn := gN D) (m := 10) (d := 3) (mm := 9) c3b (by decide) (by omega) (by decide) rfl (by decide)
      have e4' : fX3_readTrait 8 39 (nI (gN D)) 9 M3 = _ := e4
      rw [e4', bde]
      by_cases g2 : (trP t n 8 10 3 (trP t n 7 100 0 (nxN t n p)).2.1).1 = false
      · have hM : (if (trP t n 8 10 3 (trP t n 7 100 0 (nxN t n p)).2.1).1 = true ∧ wdB t n (trP t n 7 100 0 (nxN t n p)).2.1 8 = true then wr M4 39 (gN D) (nI (trP t n 8 10 3 (trP t n 7 100 0 (nxN t n p)).2.1).2.2) else M4) = M4 := if_neg (by rw [g2]; exact fun q => by cases q.1)
        rw [hM, if_pos g2, g2, ifF]
        exact ⟨M4, by rw [ck_b0]; rfl, c4, (f2.tr s3a).tr s4.d, fun q => by cases q⟩
      · have g2' := bt_n g2
        obtain ⟨c4a, s4a, c4b⟩ := x3_traitL (X := comL D (kdN t n p - 1) (trP t n 7 100 0 (nxN t n p)).2.2 (trP t n 8 10 3 (trP t n 7 100 0 (nxN t n p)).2.1).2.2 0) (d2 := 39) (pn := gN D) c3a s4 (fun M' hM' => by rw [← com_sg D _ _ 3]; exact cl_Sg hM' _) (fun q => by rw [tr_no q]) g2' (by decide) c4
        rw [if_neg g2, g2', ifT]
        rw [g2'] at c4a s4a c4b
        generalize (if true = true ∧ wdB t n (trP t n 7 100 0 (nxN t n p)).2.1 8 = true then wr M4 39 (gN D) (nI (trP t n 8 10 3 (trP t n 7 100 0 (nxN t n p)).2.1).2.2) else M4) = M4 at c4a s4a c4b
        obtain ⟨M5, s5, c5, e5⟩ := x3_trait (k := 9) (d2 := 40) (pn := gN D) (m := 65536) (d := 0) (mm := 65535) c4b (by decide) (by omega) (by decide) rfl (by decide)
        have e5' : fX3_readTrait 9 40 (nI (gN D)) 65535 M4 = _ := e5
        rw [e5', bde]
        cases g3 : (trP t n 9 65536 0 (trP t n 8 10 3 (trP t n 7 100 0 (nxN t n p)).2.1).2.1).1
        · have hM : (if false = true ∧ wdB t n (trP t n 8 10 3 (trP t n 7 100 0 (nxN t n p)).2.1).2.1 9 = true then wr M5 40 (gN D) (nI (trP t n 9 65536 0 (trP t n 8 10 3 (trP t n 7 100 0 (nxN t n p)).2.1).2.1).2.2) else M5) = M5 := if_neg (fun q => by cases q.1)
          rw [hM, ifF]
          exact ⟨M5, by rw [ck_b0]; rfl, c5, ((f2.tr s3a).tr s4a).tr s5.d, fun q => by cases q⟩
        · obtain ⟨c5a, s5a, c5b⟩ := x3_traitL (X := comL D (kdN t n p - 1) (trP t n 7 100 0 (nxN t n p)).2.2 (trP t n 8 10 3 (trP t n 7 100 0 (nxN t n p)).2.1).2.2 (trP t n 9 65536 0 (trP t n 8 10 3 (trP t n 7 100 0 (nxN t n p)).2.1).2.1).2.2) (d2 := 40) (pn := gN D) c4a s5 (fun M' hM' => by rw [← com_nd D _ _ _ 0]; exact cl_Nd hM' _) (fun q => by rw [tr_no q]) g3 (by decide) c5
          rw [g3] at c5a s5a c5b
          rw [ifT]
          refine ⟨_, by rw [ck_b1]; rfl, c5b, ((f2.tr s3a).tr s4a).tr s5a, fun _ => ?_⟩
          have ha : apI D (kdN t n p - 1, (trP t n 7 100 0 (nxN t n p)).2.2, (trP t n 8 10 3 (trP t n 7 100 0 (nxN t n p)).2.1).2.2, (trP t n 9 65536 0 (trP t n 8 10 3 (trP t n 7 100 0 (nxN t n p)).2.1).2.1).2.2) = comL D (kdN t n p - 1) (trP t n 7 100 0 (nxN t n p)).2.2 (trP t n 8 10 3 (trP t n 7 100 0 (nxN t n p)).2.1).2.2 (trP t n 9 65536 0 (trP t n 8 10 3 (trP t n 7 100 0 (nxN t n p)).2.1).2.1).2.2 := by
            unfold apI
            rw [if_neg (show ¬ kdN t n p - 1 = 10 by omega), if_neg (show ¬ kdN t n p - 1 = 11 by omega), if_neg (show ¬ kdN t n p - 1 = 12 by omega)]
          rw [ha]
          exact c5a

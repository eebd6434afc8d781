/-! texts: the class reads an item, any; and all items -/
theorem mx_pn {v k : Nat} (hv : v < 2 ^ 31) (hk : k ≤ 8) : (nI v ≤ nI k - 1) ↔ v < k := by
  rcases Nat.eq_zero_or_pos k with h | h
  · subst h
    constructor
    · intro q
      have q2 := Int32.le_iff_toInt_le.mp q
      rw [nI_toInt hv] at q2
      have : (nI 0 - 1).toInt = -1 := by decide
      omega
    · intro q; omega
  · rw [sb1 h]; exact mx_lt hv (by omega) (by omega)
theorem x3_light {M : Mem} {t : Nat → Nat} {n p : Nat} {D : Lan} (h : CPT M t n p) (hC : CLn M 36 D) (hb : bgB t n p = true) : ∃ M1, fX3_readLight M = some (bI (nuB t n (nxN t n p) 65536), M1) ∧ CPT M1 t n (if nuB t n (nxN t n p) 65536 = true then nxN t n (nxN t n p) else nxN t n p) ∧ SmD M M1 ∧ (nuB t n (nxN t n p) 65536 = true → CLn M1 36 (sL D (valN t n (nxN t n p)))) := by
  obtain ⟨M1, e1, c1, s1⟩ := x3_step h hb
  have hr := rk_120 c1.1 c1.2.2.2.2.2.1
  have d1 := s1.cl hC
  obtain ⟨M2, e2, s2, c2, k2⟩ := x3_take (m := 65536) (x := nI 65535) c1 (fun _ => mx_lt (by have := val_le t n (nxN t n p); omega) (by decide) rfl)
  have e2' : fX3_takeNumber 65535 M1 = _ := e2
  unfold fX3_readLight
  rw [e1, bde, c1.2.1, ck_in (by omega) (by decide), bve, e2', bde]
  cases hnu : nuB t n (nxN t n p) 65536
  · have hk2 := k2 hnu
    subst hk2
    exact ⟨M2, by rw [ifF, ck_b0]; rfl, by rw [if_neg (by decide)]; exact c1, s1.d, fun q => by cases q⟩
  · have d2 := s2.cl d1
    have d3 := cl_L d2 (valN t n (nxN t n p))
    have f3 : SmD M2 (wr M2 36 7 (nI (valN t n (nxN t n p)))) := ⟨fun k _ b => wr_n _ _ _ _ (by omega), by rw [wr_n _ _ _ _ (by decide)]⟩
    refine ⟨wr M2 36 7 (nI (valN t n (nxN t n p))), ?_, ?_, (s1.d.tr s2.d).tr f3, fun _ => d3⟩
    · rw [ifT, ix_nI (by omega), x3_val c1 (nu_t.mp hnu).1, wme, ck_b1]; rfl
    · rw [if_pos rfl]
      exact (c2 hnu).d f3 (by rw [wr_n _ _ _ _ (by decide)])
theorem x3_hour {M : Mem} {t : Nat → Nat} {n p : Nat} {D : Lan} (h : CPT M t n p) (hC : CLn M 36 D) (hb : bgB t n p = true) : ∃ M1, fX3_readHour M = some (bI (nuB t n (nxN t n p) 17), M1) ∧ CPT M1 t n (if nuB t n (nxN t n p) 17 = true then nxN t n (nxN t n p) else nxN t n p) ∧ SmD M M1 ∧ (nuB t n (nxN t n p) 17 = true → CLn M1 36 (sH D (valN t n (nxN t n p)))) := by
  obtain ⟨M1, e1, c1, s1⟩ := x3_step h hb
  have hr := rk_120 c1.1 c1.2.2.2.2.2.1
  have d1 := s1.cl hC
  obtain ⟨M2, e2, s2, c2, k2⟩ := x3_take (m := 17) (x := nI 16) c1 (fun _ => mx_lt (by have := val_le t n (nxN t n p); omega) (by decide) rfl)
  have e2' : fX3_takeNumber 16 M1 = _ := e2
  unfold fX3_readHour
  rw [e1, bde, c1.2.1, ck_in (by omega) (by decide), bve, e2', bde]
  cases hnu : nuB t n (nxN t n p) 17
  · have hk2 := k2 hnu
    subst hk2
    exact ⟨M2, by rw [ifF, ck_b0]; rfl, by rw [if_neg (by decide)]; exact c1, s1.d, fun q => by cases q⟩
  · have d2 := s2.cl d1
    have d3 := cl_H d2 (valN t n (nxN t n p))
    have f3 : SmD M2 (wr M2 36 8 (nI (valN t n (nxN t n p)))) := ⟨fun k _ b => wr_n _ _ _ _ (by omega), by rw [wr_n _ _ _ _ (by decide)]⟩
    refine ⟨wr M2 36 8 (nI (valN t n (nxN t n p))), ?_, ?_, (s1.d.tr s2.d).tr f3, fun _ => d3⟩
    · rw [ifT, ix_nI (by omega), x3_val c1 (nu_t.mp hnu).1, wme, ck_b1]; rfl
    · rw [if_pos rfl]
      exact (c2 hnu).d f3 (by rw [wr_n _ _ _ _ (by decide)])
def shP (t : Nat → Nat) (n p pn : Nat) : Bool × Nat × Itm :=
    if nuB t n (nxN t n p) pn = false then (false, nxN t n p, (0, 0, 0, 0)) else
    if nuB t n (nxN t n (nxN t n p)) pn = false ∨ valN t n (nxN t n (nxN t n p)) = valN t n (nxN t n p) then (false, nxN t n (nxN t n p), (0, 0, 0, 0)) else
    (true, nxN t n (nxN t n (nxN t n p)), (10, valN t n (nxN t n p), valN t n (nxN t n (nxN t n p)), 0))
theorem x3_share {M : Mem} {t : Nat → Nat} {n p : Nat} {D : Lan} (h : CPT M t n p) (hC : CLn M 36 D) (hW : WF D) (hb : bgB t n p = true) : ∃ M1, fX3_readShare M = some (bI (shP t n p (gN D)).1, M1) ∧ CPT M1 t n (shP t n p (gN D)).2.1 ∧ SmD M M1 ∧ ((shP t n p (gN D)).1 = true → CLn M1 36 (apI D (shP t n p (gN D)).2.2)) := by
  have hn := hW.1
  obtain ⟨M1, e1, c1, s1⟩ := x3_step h hb
  have hr := rk_120 c1.1 c1.2.2.2.2.2.1
  have d1 := s1.cl hC
  have h6 : M1 36 6 = nI (gN D) := d1.2.2.2.2.2.2.1
  obtain ⟨M2, e2, s2, c2, k2⟩ := x3_take (m := gN D) (x := nI (gN D) - 1) c1 (fun _ => mx_pn (by have := val_le t n (nxN t n p); omega) hn)
  unfold shP fX3_readShare
  rw [e1, bde, c1.2.1, ck_in (by omega) (by decide), bve, h6, e2, bde]
  cases hnu : nuB t n (nxN t n p) (gN D)
  · have hk2 := k2 hnu
    subst hk2
    rw [ifF, if_pos rfl]
    exact ⟨M2, by rw [ck_b0]; rfl, c1, s1.d, fun q => by cases q⟩
  · have d2 := s2.cl d1
    have c2' := c2 hnu
    have hr2 := rk_120 c2'.1 c2'.2.2.2.2.2.1
    have h62 : M2 36 6 = nI (gN D) := d2.2.2.2.2.2.2.1
    have hv1 := x3_val c1 (nu_t.mp hnu).1
    obtain ⟨M3, e3, s3, c3, k3⟩ := x3_take (m := gN D) (x := nI (gN D) - 1) c2' (fun _ => mx_pn (by have := val_le t n (nxN t n (nxN t n p)); omega) hn)
    have b1 := val_le t n (nxN t n p)
    have b2 := val_le t n (nxN t n (nxN t n p))
    rw [ifT, if_neg (by decide), ix_nI (by omega), hv1, c2'.2.1, ck_in (by omega) (by decide), bve, ix_nI (by omega), h62, e3]
    cases hnu2 : nuB t n (nxN t n (nxN t n p)) (gN D)
    · have hk3 := k3 hnu2
      subst hk3
      rw [if_pos (Or.inl rfl)]
      refine ⟨M3, ?_, c2', s1.d.tr s2.d, fun q => by cases q⟩
      rw [bde, ifF, ck_b0]
      split <;> rfl
    · rw [x3_val c2' (nu_t.mp hnu2).1]
      by_cases z : valN t n (nxN t n (nxN t n p)) = valN t n (nxN t n p)
      · rw [if_pos (Or.inr z), if_pos (by rw [z]), ck_b0]
        exact ⟨M2, rfl, c2', s1.d.tr s2.d, fun q => by cases q⟩
      · have zi : ¬ nI (valN t n (nxN t n (nxN t n p))) = nI (valN t n (nxN t n p)) := by rw [lit_eq (by omega) (by omega)]; exact z
        have zo : ¬ (true = false ∨ valN t n (nxN t n (nxN t n p)) = valN t n (nxN t n p)) := fun q => by
          rcases q with q | q
          · cases q
          · exact z q
        rw [if_neg zi, if_neg zo, bde, ifT]
        have c3' := c3 hnu2
        have d3 := s3.cl d2
        obtain ⟨M4, e4, c4, s4⟩ := x1_join d3 hW (nu_t.mp hnu).2 (nu_t.mp hnu2).2 (fun q => z q.symm)
        refine ⟨M4, ?_, c3'.d (SmD.ofL s4) (by rw [s4 33 (by omega)]), ((s1.d.tr s2.d).tr s3.d).tr (SmD.ofL s4), fun _ => c4⟩
        rw [e4, bde, ck_b1]; rfl
theorem x3_item {M : Mem} {t : Nat → Nat} {n p : Nat} {D : Lan} (h : CPT M t n p) (hC : CLn M 36 D) (hW : WF D) : ∃ M1, fX3_readItem M = some (bI (pit t n p (gN D)).1, M1) ∧ CPT M1 t n (pit t n p (gN D)).2.1 ∧ SmD M M1 ∧ ((pit t n p (gN D)).1 = true → CLn M1 36 (apI D (pit t n p (gN D)).2.2)) := by
  have hk7 := kd_le t n p
  unfold fX3_readItem
  rw [x3_kind h, bde]
  by_cases hk : kdN t n p ≠ 0
  · obtain ⟨M1, e1, c1, s1, g1⟩ := x3_person h hC hW hk
    refine ⟨M1, ?_, c1, s1, g1⟩
    rw [if_neg (by rw [mI_lt0 (by omega)]; exact hk), e1, bde, ck_bI]
  · have hk0 : kdN t n p = 0 := by omega
    rw [if_pos (by rw [mI_lt0 (by omega)]; exact hk0), x3_isWord h (by decide), bde]
    unfold pit
    rw [if_neg hk]
    cases w10 : wdB t n p 10
    · rw [ifF, if_neg (by decide), x3_isWord h (by decide), bde]
      cases w11 : wdB t n p 11
      · rw [ifF, if_neg (by decide), x3_isWord h (by decide), bde]
        cases w12 : wdB t n p 12
        · rw [ifF, if_neg (by decide), ck_b0]
          exact ⟨M, rfl, h, SmD.rf, fun q => by cases q⟩
        · obtain ⟨M1, e1, c1, s1, g1⟩ := x3_hour h hC (wd_bg h.1 w12).2
          rw [ifT, if_pos rfl, e1, bde]
          refine ⟨M1, ?_, c1, s1, g1⟩
          cases nuB t n (nxN t n p) 17
          · rw [ifF, ck_b0]; rfl
          · rw [ifT, ck_b1]; rfl
      · obtain ⟨M1, e1, c1, s1, g1⟩ := x3_light h hC (wd_bg h.1 w11).2
        rw [ifT, if_pos rfl, e1, bde, ck_bI]
        exact ⟨M1, rfl, c1, s1, g1⟩
    · obtain ⟨M1, e1, c1, s1, g1⟩ := x3_share h hC hW (wd_bg h.1 w10).2
      rw [ifT, if_pos rfl, e1, bde, ck_bI]
      exact ⟨M1, rfl, c1, s1, g1⟩
/-- where the j-th item begins, and how many people there are by then -/
def sqN (t : Nat → Nat) (n p0 pn0 : Nat) : Nat → Nat × Nat
  | 0 => (p0, pn0)
  | j + 1 => (nxN t n (pit t n (sqN t n p0 pn0 j).1 (sqN t n p0 pn0 j).2).2.1, if (pit t n (sqN t n p0 pn0 j).1 (sqN t n p0 pn0 j).2).2.2.1 ≤ 6 then (sqN t n p0 pn0 j).2 + 1 else (sqN t n p0 pn0 j).2)
def rsN (t : Nat → Nat) (n p0 pn0 j : Nat) : Bool × Nat × Itm := pit t n (sqN t n p0 pn0 j).1 (sqN t n p0 pn0 j).2
/-- the land behind j items -/
def folN (t : Nat → Nat) (n p0 : Nat) (L : Lan) : Nat → Lan
  | 0 => L
  | j + 1 => apI (folN t n p0 L j) (rsN t n p0 (gN L) j).2.2
/-- the end: good and how many items; or where the fault is -/
def enx (t : Nat → Nat) (n p0 pn0 : Nat) : Nat → Nat → Bool × Nat
  | 0, _ => (false, 0)
  | f + 1, j => if (rsN t n p0 pn0 j).1 = false then (false, (rsN t n p0 pn0 j).2.1) else if tyN t n (rsN t n p0 pn0 j).2.1 = 0 then (true, j + 1) else if tyN t n (rsN t n p0 pn0 j).2.1 = 3 then enx t n p0 pn0 f (j + 1) else (false, (rsN t n p0 pn0 j).2.1)
/-- all items ahead of the j-th are good -/
def alP (t : Nat → Nat) (n p0 pn0 j : Nat) : Prop := ∀ i, i < j → (rsN t n p0 pn0 i).1 = true ∧ tyN t n (rsN t n p0 pn0 i).2.1 = 3
theorem al_inv {t : Nat → Nat} {n p0 : Nat} {L : Lan} (h0 : tkP t n p0) (hW : WF L) : ∀ j, alP t n p0 (gN L) j → WF (folN t n p0 L j) ∧ gN (folN t n p0 L j) = (sqN t n p0 (gN L) j).2 ∧ tkP t n (sqN t n p0 (gN L) j).1 ∧ 2 * j ≤ (sqN t n p0 (gN L) j).1 := by
  intro j
  induction j with
  | zero => intro _; exact ⟨hW, rfl, h0, Nat.zero_le _⟩
  | succ j ih =>
    intro h
    obtain ⟨i1, i2, i3, i4⟩ := ih (fun i hi => h i (by omega))
    obtain ⟨a1, a2⟩ := h j (by omega)
    have a1' : (pit t n (sqN t n p0 (gN L) j).1 (gN (folN t n p0 L j))).1 = true := by rw [i2]; exact a1
    obtain ⟨o1, o2, o3⟩ := pit_ok i3 i1 a1'
    rw [i2] at o1 o2 o3
    obtain ⟨w1, w2⟩ := wf_api i1 o1
    have hlt : (pit t n (sqN t n p0 (gN L) j).1 (sqN t n p0 (gN L) j).2).2.1 < n := ((ty_k (by decide)).mp a2).1
    have g := nx_gt (t := t) hlt
    refine ⟨w1, ?_, g.2.2, ?_⟩
    · show gN (apI (folN t n p0 L j) (pit t n (sqN t n p0 (gN L) j).1 (sqN t n p0 (gN L) j).2).2.2) = _
      rw [w2, i2]; rfl
    · show 2 * (j + 1) ≤ nxN t n (pit t n (sqN t n p0 (gN L) j).1 (sqN t n p0 (gN L) j).2).2.1
      omega
theorem x3_read14 {t : Nat → Nat} {n p0 : Nat} {L : Lan} (h0 : tkP t n p0) (hW : WF L) : ∀ (f m j : Nat) (M : Mem), alP t n p0 (gN L) j → n - (sqN t n p0 (gN L) j).1 < f → f ≤ m → CPT M t n (sqN t n p0 (gN L) j).1 → CLn M 36 (folN t n p0 L j) → CLn M 1 L → ∃ M1, fX3_read_L14 1 m (nI (j + 1)) M = some (if (enx t n p0 (gN L) f j).1 = true then nI (enx t n p0 (gN L) f j).2 else -1 - nI (enx t n p0 (gN L) f j).2, M1) ∧ CLn M1 1 (if (enx t n p0 (gN L) f j).1 = true then folN t n p0 L (enx t n p0 (gN L) f j).2 else L) ∧ ((enx t n p0 (gN L) f j).1 = true → WF (folN t n p0 L (enx t n p0 (gN L) f j).2)) ∧ (∀ k, k = 0 ∨ (8 ≤ k ∧ k < 33) ∨ k = 34 ∨ k = 35 ∨ 46 < k → M1 k = M k) := by
  intro f
  induction f with
  | zero => intro m j M _ h; omega
  | succ f ih =>
    intro m j M hA hf hm hP hD hC
    obtain ⟨m, rfl⟩ : ∃ z, m = z + 1 := ⟨m - 1, by omega⟩
    obtain ⟨i1, i2, i3, i4⟩ := al_inv h0 hW j hA
    have h120 := hP.2.2.2.2.2.1
    have hple := tk_le i3
    obtain ⟨M1, e1, c1, s1, g1⟩ := x3_item hP hD i1
    rw [i2] at e1 c1 g1
    have hrs : pit t n (sqN t n p0 (gN L) j).1 (sqN t n p0 (gN L) j).2 = rsN t n p0 (gN L) j := rfl
    rw [hrs] at e1 c1 g1
    have cL1 : CLn M1 1 L := cl_same hC (fun k _ _ => s1.1 k (by omega) (by omega))
    have fr1 : ∀ k, k = 0 ∨ (8 ≤ k ∧ k < 33) ∨ k = 34 ∨ k = 35 ∨ 46 < k → M1 k = M k := fun k hk => s1.1 k (by omega) (by omega)
    have l66 : fX3_read_L66 1 M1 = some (-1 - nI (rsN t n p0 (gN L) j).2.1, M1) := by
      have hr := rk_120 c1.1 h120
      unfold fX3_read_L66
      rw [c1.2.1, ck_in (by omega) (by decide), ix_nI (by omega), (c1.2.2.1.2 _ c1.1).2.1]
    rw [fX3_read_L14, if_neg (by rw [ge121 (by omega)]; omega), e1, bde]
    have hE : enx t n p0 (gN L) (f + 1) j = if (rsN t n p0 (gN L) j).1 = false then (false, (rsN t n p0 (gN L) j).2.1) else if tyN t n (rsN t n p0 (gN L) j).2.1 = 0 then (true, j + 1) else if tyN t n (rsN t n p0 (gN L) j).2.1 = 3 then enx t n p0 (gN L) f (j + 1) else (false, (rsN t n p0 (gN L) j).2.1) := rfl
    have bad : enx t n p0 (gN L) (f + 1) j = (false, (rsN t n p0 (gN L) j).2.1) → ∃ M', fX3_read_L66 1 M1 = some (if (enx t n p0 (gN L) (f + 1) j).1 = true then nI (enx t n p0 (gN L) (f + 1) j).2 else -1 - nI (enx t n p0 (gN L) (f + 1) j).2, M') ∧ CLn M' 1 (if (enx t n p0 (gN L) (f + 1) j).1 = true then folN t n p0 L (enx t n p0 (gN L) (f + 1) j).2 else L) ∧ ((enx t n p0 (gN L) (f + 1) j).1 = true → WF (folN t n p0 L (enx t n p0 (gN L) (f + 1) j).2)) ∧ (∀ k, k = 0 ∨ (8 ≤ k ∧ k < 33) ∨ k = 34 ∨ k = 35 ∨ 46 < k → M' k = M k) := by
      intro hq
      rw [hq]
      exact ⟨M1, l66, cL1, fun q => (by cases q), fr1⟩
    cases hok : (rsN t n p0 (gN L) j).1
    · rw [ifF]
      exact bad (by rw [hE, if_pos hok])
    · have hnx0 : fX3_isNext 0 M1 = some (bI (decide (tyN t n (rsN t n p0 (gN L) j).2.1 = 0)), M1) := x3_isNext (y := 0) c1 (by decide)
      have hnx3 : fX3_isNext 3 M1 = some (bI (decide (tyN t n (rsN t n p0 (gN L) j).2.1 = 3)), M1) := x3_isNext (y := 3) c1 (by decide)
      rw [ifT, hnx0, bde]
      have hok' : (pit t n (sqN t n p0 (gN L) j).1 (gN (folN t n p0 L j))).1 = true := by rw [i2]; exact hok
      obtain ⟨o1, o2, o3⟩ := pit_ok i3 i1 hok'
      rw [i2] at o1 o2 o3
      rw [if_neg (by rw [hok]; decide)] at hE
      by_cases z0 : tyN t n (rsN t n p0 (gN L) j).2.1 = 0
      · rw [if_pos z0] at hE
        rw [decide_eq_true z0, ifT, hE]
        have d36 : CLn M1 36 (folN t n p0 L (j + 1)) := g1 hok
        obtain ⟨M2, e2, c2, s2⟩ := x1_become (b := 1) d36 (by decide)
        refine ⟨M2, ?_, c2, fun _ => (wf_api i1 o1).1, fun k hk => by rw [s2 k (by omega)]; exact fr1 k hk⟩
        rw [e2, bde]; rfl
      · rw [if_neg z0] at hE
        rw [decide_eq_false z0, ifF, hnx3, bde]
        by_cases z3 : tyN t n (rsN t n p0 (gN L) j).2.1 = 3
        · rw [if_pos z3] at hE
          have hb : bgB t n (rsN t n p0 (gN L) j).2.1 = true := by
            have hlt : (rsN t n p0 (gN L) j).2.1 < n := ((ty_k (by decide)).mp z3).1
            rcases c1.1 with q | q
            · omega
            · exact q
          obtain ⟨M2, e2, c2, s2⟩ := x3_step c1 hb
          have g := nx_gt (t := t) (bg_t.mp hb).1
          have hpos : (sqN t n p0 (gN L) (j + 1)).1 = nxN t n (rsN t n p0 (gN L) j).2.1 := rfl
          obtain ⟨M3, e3, c3, w3, f3⟩ := ih m (j + 1) M2 (fun i hi => by
            by_cases y : i = j
            · rw [y]; exact ⟨hok, z3⟩
            · exact hA i (by omega)) (by rw [hpos]; have o3' : (sqN t n p0 (gN L) j).1 < (rsN t n p0 (gN L) j).2.1 := o3; omega) (by omega) c2 (s2.cl (g1 hok)) (cl_same cL1 (fun k _ _ => s2.1 k (by omega)))
          rw [hE]
          refine ⟨M3, ?_, c3, w3, fun k hk => by rw [f3 k hk, s2.1 k (by omega)]; exact fr1 k hk⟩
          rw [decide_eq_true z3, ifT, e2, bde, bve, ad1, e3]
        · rw [if_neg z3] at hE
          rw [decide_eq_false z3, ifF]
          exact bad hE
/-- where a text's first token is -/
def p0N (t : Nat → Nat) (n : Nat) : Nat := fsN t n 0
theorem p0_tk (t : Nat → Nat) (n : Nat) : tkP t n (p0N t n) := (fs_ok t (Nat.zero_le n)).2.2.1
theorem x7_text {S : Sta} {M : Mem} (hW : WFS S) (h : AC M S) : ∃ M1, fX7_text M = some (if (enx (tTa S) (tTl S) (p0N (tTa S) (tTl S)) (gN (tLa S)) 200 0).1 = true then nI (enx (tTa S) (tTl S) (p0N (tTa S) (tTl S)) (gN (tLa S)) 200 0).2 else -1 - nI (enx (tTa S) (tTl S) (p0N (tTa S) (tTl S)) (gN (tLa S)) 200 0).2, M1) ∧ AC M1 (wTl (wLa S (if (enx (tTa S) (tTl S) (p0N (tTa S) (tTl S)) (gN (tLa S)) 200 0).1 = true then folN (tTa S) (tTl S) (p0N (tTa S) (tTl S)) (tLa S) (enx (tTa S) (tTl S) (p0N (tTa S) (tTl S)) (gN (tLa S)) 200 0).2 else tLa S)) 0) ∧ (∀ k, 57 ≤ k → M1 k = M k) ∧ WFS (wTl (wLa S (if (enx (tTa S) (tTl S) (p0N (tTa S) (tTl S)) (gN (tLa S)) 200 0).1 = true then folN (tTa S) (tTl S) (p0N (tTa S) (tTl S)) (tLa S) (enx (tTa S) (tTl S) (p0N (tTa S) (tTl S)) (gN (tLa S)) 200 0).2 else tLa S)) 0) := by
  obtain ⟨h1, h2, h3, h4, h5, h6, h7⟩ := id h
  obtain ⟨w1, w2, w3, w4, w5⟩ := id hW
  have hT : TPC M (tTa S) (tTl S) := ⟨h5, h4, w3, w4⟩
  have htk := p0_tk (tTa S) (tTl S)
  obtain ⟨M1, e1, t1, s1, g1⟩ := x3_split hT
  have c1 : CLn M1 1 (tLa S) := cl_same h1 (fun k _ _ => s1 k (by omega))
  obtain ⟨M2, e2, c2, s2⟩ := x1_become (b := 36) c1 (by decide)
  have rk0 : rkN (tTa S) (tTl S) (p0N (tTa S) (tTl S)) = 0 := rk_fs (Nat.zero_le _)
  have f2 : SmD M1 M2 := SmD.ofL s2
  have hP : CPT M2 (tTa S) (tTl S) (p0N (tTa S) (tTl S)) := ⟨htk, by rw [s2 33 (by decide), g1, rk0]; rfl, t1.d f2, (hT.t s1).d f2⟩
  have hple := tk_le htk
  obtain ⟨M3, e3, c3, v3, f3⟩ := x3_read14 htk w1 200 fu 0 M2 (fun i hi => by omega) (by show tTl S - p0N (tTa S) (tTl S) < 200; omega) (by show 200 ≤ 2000; omega) hP c2 (cl_same c1 (fun k _ _ => s2 k (by omega)))
  have fr : ∀ k, k = 0 ∨ (8 ≤ k ∧ k < 33) ∨ k = 34 ∨ k = 35 ∨ 46 < k → M3 k = M k := fun k hk => by rw [f3 k hk, s2 k (by omega), s1 k (by omega)]
  generalize enx (tTa S) (tTl S) (p0N (tTa S) (tTl S)) (gN (tLa S)) 200 0 = E at *
  have hW3 : WF (if E.1 = true then folN (tTa S) (tTl S) (p0N (tTa S) (tTl S)) (tLa S) E.2 else tLa S) := by
    by_cases q : E.1 = true
    · rw [if_pos q]; exact v3 q
    · rw [if_neg q]; exact w1
  refine ⟨wr M3 34 1 0, ?_, ⟨cl_same c3 (fun k _ _ => wr_n _ _ _ _ (by omega)), fun hk => cl_same (h2 hk) (fun k _ _ => by rw [wr_n _ _ _ _ (by omega), fr k (by omega)]), by rw [wr_n _ _ _ _ (by omega), fr 0 (by omega)]; exact h3, fun i hi => ?_, by rw [wr_app, if_pos rfl, if_pos rfl]; rfl, fun s hs => ?_, fun q hq => by rw [wr_n _ _ _ _ (by omega), fr 56 (by omega)]; exact h7 q hq⟩, fun k hk => by rw [wr_n _ _ _ _ (by omega), fr k (by omega)], hW3, w2, by show 0 ≤ 120; omega, w4, w5⟩
  · unfold fX7_text fX3_read
    rw [e1, bde, e2, bde]
    have e3' : fX3_read_L14 1 fu 1 M2 = _ := e3
    rw [e3', bde, wme]
  · exact absurd hi (Nat.not_lt_zero _)
  · obtain ⟨g1, g2, g3⟩ := h6 s hs
    exact ⟨by rw [wr_n _ _ _ _ (by omega), fr _ (by omega)]; exact g1, by rw [wr_n _ _ _ _ (by omega), fr _ (by omega)]; exact g2, fun i hi => by rw [wr_n _ _ _ _ (by omega), fr _ (by omega)]; exact g3 i hi⟩

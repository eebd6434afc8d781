/-! what a pair does hangs on the two alone; gain -/
theorem claimN_e {A B : Lan} {p : Nat} (hk : gKd A = gKd B) (hs : gSu A p = gSu B p) (hg : gSg A = gSg B) (h : Nat) : claimN A p h = claimN B p h := by
  unfold claimN
  rw [hk, hs, hg]
theorem firN_e {A B : Lan} {x y h : Nat} (h1 : claimN A x h = claimN B x h) (h2 : claimN A y h = claimN B y h) : firN A x y h = firN B x y h := by
  unfold firN
  rcases Nat.le_total x y with q | q
  · rw [Nat.max_eq_right q, Nat.min_eq_left q, h1, h2]
  · rw [Nat.max_eq_left q, Nat.min_eq_right q, h1, h2]
/-- two lands in which x and y are a pair (or the same one, alone), alike as far as these two see -/
def LOC (A B : Lan) (x y : Nat) : Prop := (gKd A = gKd B ∧ gSg A = gSg B ∧ gNd A = gNd B ∧ gN A = gN B ∧ gH A = gH B ∧ gL A = gL B) ∧ gSu A x = gSu B x ∧ gSu A y = gSu B y ∧ gMt A x = gMt B x ∧ gMt A y = gMt B y ∧ ((gMt A x = 0 ∧ x = y) ∨ (gMt A x = y + 1 ∧ gMt A y = x + 1))
theorem LOC.sym {A B : Lan} {x y : Nat} (h : LOC A B x y) : LOC A B y x := by
  obtain ⟨h1, h2, h3, h4, h5, h6⟩ := h
  refine ⟨h1, h3, h2, h5, h4, ?_⟩
  rcases h6 with ⟨a, b⟩ | ⟨a, b⟩
  · exact Or.inl ⟨by rw [← b]; exact a, b.symm⟩
  · exact Or.inr ⟨b, a⟩
theorem LOC.has {A B : Lan} {x y : Nat} (h : LOC A B x y) (t : Nat) : hasN A x t = hasN B x t := by
  obtain ⟨⟨k1, k2, k3, k4, k5, k6⟩, h2, h3, h4, h5, h6⟩ := h
  unfold hasN
  rw [← k6, ← h4]
  rcases h6 with ⟨a, b⟩ | ⟨a, b⟩
  · rw [a]; rfl
  · rw [a, Nat.add_sub_cancel, firN_e (claimN_e k1 h2 k2 t) (claimN_e k1 h3 k2 t)]
theorem LOC.sun {A B : Lan} {x y : Nat} (h : LOC A B x y) : gSu (stpN A) x = gSu (stpN B) x := by
  have hh := h.has (gH A)
  obtain ⟨⟨k1, k2, k3, k4, k5, k6⟩, h2, h3, h4, h5, h6⟩ := h
  have e1 : gSu (stpN A) = sunF A (gN A) := par_Su A (gN A)
  have e2 : gSu (stpN B) = sunF B (gN B) := par_Su B (gN B)
  rw [e1, e2]
  unfold sunF sunA litN
  rw [← k4, ← k5, ← k6, hh, h2]
theorem LOC.stp {A B : Lan} {x y : Nat} (h : LOC A B x y) : LOC (stpN A) (stpN B) x y := by
  have s1 := h.sun
  have s2 := h.sym.sun
  obtain ⟨⟨k1, k2, k3, k4, k5, k6⟩, h2, h3, h4, h5, h6⟩ := h
  refine ⟨⟨?_, ?_, ?_, ?_, ?_, ?_⟩, s1, s2, ?_, ?_, ?_⟩
  · exact (par_Kd A _).trans (k1.trans (par_Kd B _).symm)
  · exact (par_Sg A _).trans (k2.trans (par_Sg B _).symm)
  · exact (par_Nd A _).trans (k3.trans (par_Nd B _).symm)
  · exact (par_N A _).trans (k4.trans (par_N B _).symm)
  · rw [stp_H, stp_H, k5]
  · exact (par_L A _).trans (k6.trans (par_L B _).symm)
  · have m1 : gMt (stpN A) = gMt A := par_Mt A _
    have m2 : gMt (stpN B) = gMt B := par_Mt B _
    rw [m1, m2]; exact h4
  · have m1 : gMt (stpN A) = gMt A := par_Mt A _
    have m2 : gMt (stpN B) = gMt B := par_Mt B _
    rw [m1, m2]; exact h5
  · have m1 : gMt (stpN A) = gMt A := par_Mt A _
    rw [m1]; exact h6
theorem LOC.hrs {x y : Nat} (k : Nat) : ∀ {A B : Lan}, LOC A B x y → LOC (hrsN k A) (hrsN k B) x y := by
  induction k with
  | zero => intro A B h; exact h
  | succ k ih => intro A B h; exact ih h.stp
theorem LOC.shb {A B : Lan} {x y : Nat} (h : LOC A B x y) (t : Nat) : shB A x t = shB B x t := by
  unfold shB
  rw [← h.1.2.2.2.2.1, (h.hrs (t - gH A)).has t]
theorem LOC.mets {A B : Lan} {x y : Nat} (h : LOC A B x y) : metR A x = metR B x := by
  unfold metR
  apply cnN_congr
  intro t _
  unfold mtB
  rw [← h.1.2.2.2.2.1, ← h.1.2.2.1, ← h.1.2.2.2.2.2, h.shb t]
theorem sep_k {α : Type} (f : Lan → α) (hf : ∀ L g, f (sMt L g) = f L) (L : Lan) (p : Nat) : f (sepL L p) = f L := by
  unfold sepL
  split
  · rfl
  · exact (hf _ _).trans (hf _ _)
theorem joi_k {α : Type} (f : Lan → α) (hf : ∀ L g, f (sMt L g) = f L) (L : Lan) (p q : Nat) : f (joiL L p q) = f L := by
  unfold joiL
  exact (hf _ _).trans ((hf _ _).trans ((sep_k f hf _ q).trans (sep_k f hf _ p)))
theorem joi_mt {L : Lan} {a b : Nat} (h : a ≠ b) : gMt (joiL L a b) a = b + 1 ∧ gMt (joiL L a b) b = a + 1 := by
  unfold joiL
  generalize sepL (sepL L a) b = X
  constructor
  · show uf (uf (gMt X) a (b + 1)) b (a + 1) a = b + 1
    unfold uf; rw [if_neg h, if_pos rfl]
  · show uf (uf (gMt X) a (b + 1)) b (a + 1) b = a + 1
    unfold uf; rw [if_pos rfl]
/-- the two told to be mates, and nobody else changed -/
def rawL (L : Lan) (a b : Nat) : Lan := sMt (sMt L (uf (gMt L) a (b + 1))) (uf (uf (gMt L) a (b + 1)) b (a + 1))
theorem raw_loc (L : Lan) {a b : Nat} (h : a ≠ b) : LOC (rawL L a b) (joiL L a b) a b := by
  obtain ⟨m1, m2⟩ := joi_mt (L := L) h
  have r1 : gMt (rawL L a b) a = b + 1 := by show uf (uf (gMt L) a (b + 1)) b (a + 1) a = _; unfold uf; rw [if_neg h, if_pos rfl]
  have r2 : gMt (rawL L a b) b = a + 1 := by show uf (uf (gMt L) a (b + 1)) b (a + 1) b = _; unfold uf; rw [if_pos rfl]
  refine ⟨⟨(joi_k gKd (fun _ _ => rfl) L a b).symm, (joi_k gSg (fun _ _ => rfl) L a b).symm, (joi_k gNd (fun _ _ => rfl) L a b).symm, (joi_k gN (fun _ _ => rfl) L a b).symm, (joi_k gH (fun _ _ => rfl) L a b).symm, (joi_k gL (fun _ _ => rfl) L a b).symm⟩, ?_, ?_, ?_, ?_, Or.inr ⟨r1, r2⟩⟩
  · rw [joi_k gSu (fun _ _ => rfl)]; rfl
  · rw [joi_k gSu (fun _ _ => rfl)]; rfl
  · rw [r1, m1]
  · rw [r2, m2]
theorem wfr_raw {L : Lan} (hW : WF L) {a b : Nat} (ha : a < gN L) (hb : b < gN L) (h : a ≠ b) : WFr (rawL L a b) := by
  obtain ⟨a1, a2, a3, a4, a5, a6⟩ := hW
  refine ⟨a1, a2, a3, a4, fun i hi => ?_, a6⟩
  have b5 := a5 i hi
  show uf (uf (gMt L) a (b + 1)) b (a + 1) i ≤ gN L ∧ uf (uf (gMt L) a (b + 1)) b (a + 1) i ≠ i + 1
  unfold uf
  by_cases e1 : i = b
  · rw [if_pos e1]; omega
  · rw [if_neg e1]
    by_cases e2 : i = a
    · rw [if_pos e2]; omega
    · rw [if_neg e2]; exact ⟨b5.1, b5.2.1⟩
theorem raw_back (L : Lan) {a b : Nat} (h : a ≠ b) : sMt (sMt (rawL L a b) (uf (gMt (rawL L a b)) a (gMt L a))) (uf (gMt (sMt (rawL L a b) (uf (gMt (rawL L a b)) a (gMt L a)))) b (gMt L b)) = L := by
  have e : uf (gMt (sMt (rawL L a b) (uf (gMt (rawL L a b)) a (gMt L a)))) b (gMt L b) = gMt L := by
    show uf (uf (uf (uf (gMt L) a (b + 1)) b (a + 1)) a (gMt L a)) b (gMt L b) = gMt L
    funext j
    unfold uf
    by_cases e1 : j = b
    · rw [if_pos e1, e1]
    · rw [if_neg e1]
      by_cases e2 : j = a
      · rw [if_pos e2, e2]
      · rw [if_neg e2, if_neg e1, if_neg e2]
  rw [e]
  rfl
theorem AGR.keep {M M1 : Mem} {L : Lan} {p q : Nat} (h : AGR M L p q) (f : ∀ k, 24 ≤ k → k ≤ 28 → M1 k = M k) : AGR M1 L p q := by
  obtain ⟨h1, h2, h3, h4, h5, h6⟩ := h
  exact ⟨by rw [f 25 (by decide) (by decide)]; exact h1, by rw [f 25 (by decide) (by decide)]; exact h2, h3.fr (f 26 (by decide) (by decide)) (f 24 (by decide) (by decide)), by rw [f 24 (by decide) (by decide)]; exact h4, by rw [f 27 (by decide) (by decide)]; exact h5, by rw [f 27 (by decide) (by decide)]; exact h6⟩
theorem sub_two (a b c : Nat) : nI a - nI b - nI c = nI a - nI (b + c) := by
  rw [← nI_add]
  generalize nI a = x
  generalize nI b = y
  generalize nI c = z
  grind
theorem x8_gain {M : Mem} {L : Lan} (hC : RLn M 58 L) (hW : WF L) {p q : Nat} (hp : p < gN L) (hq : q < gN L) (hpq : p ≠ q) (ht : (pIn (gN L) (nI p) && pIn (gN L) (nI q) && decide (nI p ≠ nI q)) = true) : ∃ M1, fX8_gain (nI p) (nI q) M = some (nI (mtsN L p q) - nI (metR (joiL L p q) p + metR (joiL L p q) q), M1) ∧ RLn M1 58 L ∧ FR M M1 := by
  have hn := hW.1
  have wr1 := wfr_raw hW hp hq hpq
  have c1 : RLn (wr M 58 (16 + 5 * p + 4) (nI q)) 58 (sMt L (uf (gMt L) p (q + 1))) := by rw [nI_mI q]; exact rl_Mt hC (show p < 8 by omega) (q + 1)
  have c2 : RLn (wr (wr M 58 (16 + 5 * p + 4) (nI q)) 58 (16 + 5 * q + 4) (nI p)) 58 (rawL L p q) := by rw [nI_mI p]; exact rl_Mt c1 (show q < 8 by omega) (p + 1)
  obtain ⟨M3, e3, c3, -, -, m3, -, f3⟩ := x8_findRest_r c2 wr1 (p := p) hp
  obtain ⟨M4, e4, c4, -, -, m4, -, f4⟩ := x8_findRest_r c3 wr1 (p := q) hq
  have c5 := rl_Mt c4 (show p < 8 by omega) (gMt L p)
  have c6 := rl_Mt c5 (show q < 8 by omega) (gMt L q)
  rw [raw_back L hpq] at c6
  rw [(raw_loc L hpq).mets] at m3
  rw [(raw_loc L hpq).sym.mets] at m4
  refine ⟨_, ?_, c6, ((((FR.of Sr.wr).tr (FR.of Sr.wr)).tr f3).tr f4).tr ((FR.of Sr.wr).tr (FR.of Sr.wr))⟩
  unfold fX8_gain
  rw [x8_areTwo hC hW, ht, bde, ifT, x8_Mt hC (by omega), bde, x8_Mt hC (by omega), bde, x8_at4, bde, ck_in (by omega) (by decide), ix_nI (by omega), wme, x8_at4, bde, ck_in (by omega) (by decide), ix_nI (by omega), wme]
  rw [e3, bde, m3, bve, e4, bde, m4, nI_add, bve, x8_at4, bde, ck_in (by omega) (by decide), ix_nI (by omega), wme, x8_at4, bde, ck_in (by omega) (by decide), ix_nI (by omega), wme, x8_meets c6 hW hp hq, bde]
theorem x7_gain {M : Mem} {L : Lan} (hC : CLn M 1 L) (hW : WF L) {p q : Nat} (hp : p < gN L) (hq : q < gN L) (hpq : p ≠ q) (ht : (pIn (gN L) (nI p) && pIn (gN L) (nI q) && decide (nI p ≠ nI q)) = true) : ∃ M1, fX7_gain (nI p) (nI q) M = some (nI (mtsN L p q) - nI (metR (joiL L p q) p + metR (joiL L p q) q), M1) ∧ FC M M1 := by
  have hn := hW.1
  have hJ := wf_joi hW hp hq hpq
  have jN : gN (joiL L p q) = gN L := joi_k gN (fun _ _ => rfl) L p q
  have jH : gH (joiL L p q) = gH L := joi_k gH (fun _ _ => rfl) L p q
  have jr : rstN (joiL L p q) = rstN L := by unfold rstN; rw [jH]
  obtain ⟨M1, e1, a1, s1⟩ := x0_make (d := 1) (p := min p q) (q := max p q) hC hW (by decide) (by omega) (by omega) ht (imin_nI (by omega) (by omega)) (imax_nI (by omega) (by omega))
  have c1 : CLn M1 1 L := cl_same hC (fun k h1 h2 => s1 k (by omega))
  obtain ⟨M2, e2, c2, b2, b3, s2⟩ := x4_begin c1 hW (by decide)
  obtain ⟨M3, e3, c3, s3⟩ := x1_join c2 hW hp hq hpq
  obtain ⟨M4, e4, c4, s4⟩ := x4_run c3 hJ (by rw [s3 15 (by decide), jH]; exact b2) (by rw [s3 15 (by decide), jr]; exact b3)
  have a4 : AGR M4 L (min p q) (max p q) := a1.keep (fun k h1 h2 => by rw [s4 k (by omega), s3 k (by omega), s2 k (by omega)])
  refine ⟨M4, ?_, (s1.fc.tr ((FC.ofR s2).tr (FC.ofR (SmR.of s3)))).tr (FC.ofR s4)⟩
  unfold fX7_gain
  rw [x1_areTwo hC hW, ht, bde, ifT, e1, bde, e2, bde, e3, bde, e4, bde, x0_both a4, bde, x4_metOf c4 hJ (by rw [jN]; exact hp), bde, x4_metOf c4 hJ (by rw [jN]; exact hq), bde, ag_mts hW, mts_mm, sub_two]
theorem tw_gain {S : Sta} (hW : WFS S) (x y : Int32) : Two (fX7_gain x y) (fX8_gain x y) S := by
  have hn := hW.1.1
  cases hp : (pIn (gN (tLa S)) x && pIn (gN (tLa S)) y && decide (x ≠ y))
  · refine two_fd hW (i := 0) (by decide) (fun M h => ?_) (fun M h => ?_)
    · unfold fX7_gain
      rw [x1_areTwo h.1 hW.1, hp, bde, ifF]
      exact fd7 0 M
    · unfold fX8_gain
      rw [x8_areTwo h.1 hW.1, hp, bde, ifF]
      exact fd8 0 M
  · have hp2 := hp
    simp only [Bool.and_eq_true, decide_eq_true_eq] at hp2
    obtain ⟨⟨hx, hy⟩, hxy⟩ := hp2
    obtain ⟨p, hpn, rfl⟩ := pIn_ex hx (by omega)
    obtain ⟨q, hqn, rfl⟩ := pIn_ex hy (by omega)
    have hpq : p ≠ q := fun e => hxy (by rw [e])
    exact two_q hW _ (fun M h => x7_gain h.1 hW.1 hpn hqn hpq hp) (fun M h => x8_gain h.1 hW.1 hpn hqn hpq hp)

/-! pairings: the class weighs by agreements -/
def FrW (M M1 : Mem) : Prop := ∀ k, (k < 24 ∨ k = 29 ∨ 32 < k) → M1 k = M k
theorem FrW.rf {M : Mem} : FrW M M := fun _ _ => rfl
theorem FrW.tr {M M1 M2 : Mem} (h1 : FrW M M1) (h2 : FrW M1 M2) : FrW M M2 := fun k hk => (h2 k hk).trans (h1 k hk)
theorem FrW.fc {M M1 : Mem} (h : FrW M M1) : FC M M1 := fun k hk => h k (by omega)
theorem FrW.ofP {M M1 : Mem} {s : Nat} (h : FrP M M1 s) : FrW M M1 := fun k hk => h.1 k (by omega) (by omega)
theorem FrW.ofA {M M1 : Mem} (h : SmA M M1) : FrW M M1 := fun k hk => h k (by omega)
theorem FrW.wr {M : Mem} {c i : Nat} {x : Int32} (h1 : 30 ≤ c) (h2 : c ≤ 32) : FrW M (wr M c i x) := fun k hk => wr_n _ _ _ _ (by omega)
theorem x2_w16 {v : Nat → Nat → Nat} {n : Nat} (hv : VB v) (hn : n ≤ 8) : ∀ (m y : Nat) (M : Mem), 1 ≤ y → y ≤ 2 ^ n → 2 ^ n - y < m → VAL M v n → TBL M (bcP v) y →
    ∃ M1, fX2_weigh_L16 m (nI (2 ^ n - 1)) (nI y) M = some ((), M1) ∧ FrW M M1 ∧ VAL M1 v n ∧ TBL M1 (bcP v) (2 ^ n) := by
  have h2 : 2 ^ n ≤ 256 := by have := Nat.pow_le_pow_right (n := 2) (by decide) hn; simpa using this
  intro m
  induction m with
  | zero => intro y M _ _ h; omega
  | succ m ih =>
    intro y M h1 hy hm hV hT
    rw [fX2_weigh_L16]
    by_cases e : y = 2 ^ n
    · refine ⟨M, ?_, FrW.rf, hV, by rw [← e]; exact hT⟩
      rw [if_pos (by rw [lit_lt (by omega) (by omega)]; omega)]
    · obtain ⟨M1, e1, f1, t1⟩ := x2_weighSet (s := y) hv hn (by omega) (by omega) hV hT
      have v1 : VAL M1 v n := hV.fr (f1.1 30 (by decide) (by decide))
      obtain ⟨M2, e2, f2, v2, t2⟩ := ih (y + 1) M1 (by omega) (by omega) (by omega) v1 t1
      refine ⟨M2, ?_, (FrW.ofP f1).tr f2, v2, t2⟩
      rw [if_neg (by rw [lit_lt (by omega) (by omega)]; omega), if_neg (by rw [show (256 : Int32) = nI 256 from rfl, lit_le (by omega) (by omega)]; omega), e1, bde, bve, ad1, e2]
theorem x2_weigh {v : Nat → Nat → Nat} {n : Nat} {M : Mem} (hv : VB v) (hn : n ≤ 8) (hV : VAL M v n) : ∃ M1, fX2_weigh (nI (2 ^ n - 1)) M = some ((), M1) ∧ FrW M M1 ∧ VAL M1 v n ∧ TBL M1 (bcP v) (2 ^ n) := by
  have h2 : 2 ^ n ≤ 256 := by have := Nat.pow_le_pow_right (n := 2) (by decide) hn; simpa using this
  have hp : 0 < 2 ^ n := Nat.two_pow_pos n
  obtain ⟨M1, e1, f1, v1, t1⟩ := x2_w16 hv hn fu 1 (wr (wr M 31 0 0) 32 0 1) (Nat.le_refl _) (by omega) (by show _ < 2000; omega) ((hV.fr (M1 := wr M 31 0 0) (wr_n _ _ _ _ (by omega))).fr (wr_n _ _ _ _ (by omega))) (fun t ht => by
    have : t = 0 := by omega
    subst this
    exact ⟨by rw [wr_n _ _ _ _ (by omega), wr_app, if_pos rfl, if_pos rfl, bc_0]; exact (mI_s 0).symm, by rw [wr_app, if_pos rfl, if_pos rfl]; rfl⟩)
  refine ⟨M1, ?_, ((FrW.wr (by omega) (by omega)).tr (FrW.wr (by omega) (by omega))).tr f1, v1, t1⟩
  unfold fX2_weigh
  rw [show ix 0 = 0 from ixl_0, show (inb 0 256) = true by decide, ck_t rfl, wme, ck_t rfl, wme]
  exact e1
theorem x2_value {M : Mem} {p q : Nat} {x : Int32} (hp : p < 8) (hq : q < 8) : fX2_value (nI p) (nI q) x M = some ((), wr M 30 (p * 8 + q) x) := by
  have w7 : ∀ i, i < 8 → fX7_isWithin (nI i) 7 M = some (bI true, M) := fun i hi => by
    rw [show (7 : Int32) = nI 7 from rfl, x7_isWithin _ M (by decide), pIn_t hi (by decide)]
  unfold fX2_value
  rw [w7 p hp, bde, ifT, w7 q hq, bde, ifT, mul8, nI_add, ck_in (by omega) (by decide), ix_nI (by omega), wme]
/-- what two bring: agreed; one alone: what the rest of the day needs -/
def vAg (L : Lan) (p q : Nat) : Nat := if p = q then pcN (gNd L p &&& rstN L) + 1 else mtsN L p q + 1
theorem vb_ag (L : Lan) : VB (vAg L) := by
  intro p q
  have h1 := pcN_le (gNd L p &&& rstN L)
  have h2 := pcN_le ((gNd L p ||| gNd L q) &&& shdA L)
  have h3 := pcN_le (gNd L p &&& drkA L)
  have h4 := pcN_le (gNd L q &&& drkA L)
  unfold vAg mtsN
  split <;> omega
theorem x7_wa46 {k2 : Int32 → Mem → Option (Unit × Mem)} {L : Lan} (hW : WF L) {p : Nat} (hp : p < gN L) : ∀ (m q : Nat) (M : Mem), p < q → q ≤ gN L → gN L - q < m → CLn M 1 L → (∀ a b, a ≤ b → b < gN L → (a < p ∨ (a = p ∧ b < q)) → M 30 (a * 8 + b) = mI (vAg L a b)) →
    ∃ M1, fX7_weighByAgreements_L46 k2 m (nI p) (nI q) M = k2 (nI (p + 1)) M1 ∧ FrW M M1 ∧ (∀ a b, a ≤ b → b < gN L → a < p + 1 → M1 30 (a * 8 + b) = mI (vAg L a b)) := by
  have hn := hW.1
  intro m
  induction m with
  | zero => intro q M _ _ h; omega
  | succ m ih =>
    intro q M hpq hq hm hC hV
    have h6 : M 1 6 = nI (gN L) := hC.2.2.2.2.2.2.1
    rw [fX7_weighByAgreements_L46, h6]
    by_cases e : q = gN L
    · refine ⟨M, ?_, FrW.rf, fun a b h1 h2 h3 => hV a b h1 h2 (by omega)⟩
      rw [if_pos (by rw [lit_le (by omega) (by omega)]; omega), bve, ad1]
    · have hqn : q < gN L := by omega
      have hne : nI p ≠ nI q := fun e => by have := nI_inj (by omega) (by omega) e; omega
      obtain ⟨M1, e1, a1, s1⟩ := x0_make (d := 1) (x := nI p) (y := nI q) (p := p) (q := q) hC hW (by decide) hp hqn (by rw [pIn_t hp (by omega), pIn_t hqn (by omega), decide_eq_true hne]; rfl) (by rw [imin_nI (by omega) (by omega), Nat.min_eq_left (by omega)]) (by rw [imax_nI (by omega) (by omega), Nat.max_eq_right (by omega)])
      have e2 := x0_both a1
      rw [ag_mts hW] at e2
      have f1 : FrW M (wr M1 30 (p * 8 + q) (nI (mtsN L p q))) := (FrW.ofA s1).tr (FrW.wr (by omega) (by omega))
      have hv : mI (vAg L p q) = nI (mtsN L p q) := by
        unfold vAg
        rw [if_neg (by omega), mI_s]
      obtain ⟨M2, e3, f3, z3⟩ := ih (q + 1) (wr M1 30 (p * 8 + q) (nI (mtsN L p q))) (by omega) (by omega) (by omega) (cl_same hC (fun k _ _ => f1 k (by omega))) (fun a b h1 h2 h3 => by
        rw [wr_app, if_pos rfl]
        by_cases w : a = p ∧ b = q
        · rw [if_pos (by omega), w.1, w.2, hv]
        · rw [if_neg (by omega), s1 30 (by omega)]
          exact hV a b h1 h2 (by omega))
      refine ⟨M2, ?_, f1.tr f3, z3⟩
      rw [if_neg (by rw [lit_le (by omega) (by omega)]; omega), e1, bde, e2, bde, x2_value (by omega) (by omega), bde, bve, ad1, e3]
theorem x7_wa2 {L : Lan} (hW : WF L) : ∀ (m p : Nat) (M : Mem), p ≤ gN L → gN L - p < m → CLn M 1 L → (∀ a b, a ≤ b → b < gN L → a < p → M 30 (a * 8 + b) = mI (vAg L a b)) →
    ∃ M1, fX7_weighByAgreements_L2 m (nI p) M = some ((), M1) ∧ FrW M M1 ∧ VAL M1 (vAg L) (gN L) ∧ TBL M1 (bcP (vAg L)) (2 ^ gN L) := by
  have hn := hW.1
  intro m
  induction m with
  | zero => intro p M _ h; omega
  | succ m ih =>
    intro p M hp hm hC hV
    have h6 : M 1 6 = nI (gN L) := hC.2.2.2.2.2.2.1
    rw [fX7_weighByAgreements_L2, h6]
    by_cases e : p = gN L
    · obtain ⟨M1, e1, f1, v1, t1⟩ := x2_weigh (v := vAg L) (M := M) (vb_ag L) hn (fun a b h1 h2 => hV a b h1 h2 (by omega))
      refine ⟨M1, ?_, f1, v1, t1⟩
      rw [if_pos (by rw [lit_le (by omega) (by omega)]; omega), x1_everybody hC hW, bde, e1, bde]
    · have hpn : p < gN L := by omega
      have np := (hW.2.2.2.1 p (by omega)).2.2.2
      have h5 : M 5 p = nI (gNd L p) := hC.2.2.2.1 p (by omega)
      have f0 : FrW M (wr M 30 (p * 8 + p) (nI (pcN (gNd L p &&& rstN L)))) := FrW.wr (by omega) (by omega)
      have hv : mI (vAg L p p) = nI (pcN (gNd L p &&& rstN L)) := by
        unfold vAg
        rw [if_pos rfl, mI_s]
      have c0 : CLn (wr M 30 (p * 8 + p) (nI (pcN (gNd L p &&& rstN L)))) 1 L := cl_same hC (fun k _ _ => f0 k (by omega))
      obtain ⟨M1, e1, f1, z1⟩ := x7_wa46 (k2 := fX7_weighByAgreements_L2 m) hW hpn fu (p + 1) (wr M 30 (p * 8 + p) (nI (pcN (gNd L p &&& rstN L)))) (by omega) (by omega) (by show _ < 2000; omega) c0 (fun a b h1 h2 h3 => by
        rw [wr_app, if_pos rfl]
        by_cases w : a = p ∧ b = p
        · rw [if_pos (by omega), w.1, w.2, hv]
        · rw [if_neg (by omega)]
          exact hV a b h1 h2 (by omega))
      obtain ⟨M2, e2, f2, v2, t2⟩ := ih (p + 1) M1 (by omega) (by omega) (cl_same c0 (fun k _ _ => f1 k (by omega))) z1
      refine ⟨M2, ?_, (f0.tr f1).tr f2, v2, t2⟩
      rw [if_neg (by rw [lit_le (by omega) (by omega)]; omega), ck_in (by omega) (by decide), x1_hoursLeft hC hW, bde, ix_nI (by omega), h5, nI_and, bitCount M (and_lt np), bde, x2_value (by omega) (by omega), bde, bve, ad1, e1, e2]
theorem x7_weighA {L : Lan} {M : Mem} (hW : WF L) (hC : CLn M 1 L) : ∃ M1, fX7_weighByAgreements M = some ((), M1) ∧ FrW M M1 ∧ VAL M1 (vAg L) (gN L) ∧ TBL M1 (bcP (vAg L)) (2 ^ gN L) := by
  have hn := hW.1
  exact x7_wa2 hW fu 0 M (Nat.zero_le _) (by show _ < 2000; omega) hC (fun a b _ _ h => by omega)

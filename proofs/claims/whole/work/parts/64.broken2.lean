/-! broken -/
def okB (L : Lan) (p q : Nat) : Bool := !(gMt L p == q + 1) && rathB L p q
def br2 (L : Lan) (p : Nat) : Nat → Nat → Nat
  | 0, _ => 0
  | f + 1, q => if gN L ≤ q then 0 else if okB L p q = true then 10 * p + q + 1 else br2 L p f (q + 1)
def br1 (L : Lan) : Nat → Nat → Nat
  | 0, _ => 0
  | f + 1, p => if gN L ≤ p then 0 else if br2 L p 9 (p + 1) = 0 then br1 L f (p + 1) else br2 L p 9 (p + 1)
theorem mt_eq {L : Lan} (hW : WF L) {p q : Nat} (hp : p < gN L) (hq : q < 2 ^ 20) : (mI (gMt L p) = nI q) = (gMt L p = q + 1) := by
  have h := (hW.2.2.2.2.1 p hp).1
  have hn := hW.1
  apply propext
  constructor
  · intro e
    have := congrArg Int32.toInt e
    rw [mI_toInt (by omega), nI_toInt (by omega)] at this
    omega
  · intro e
    rw [e, mI_s]
theorem x7_br28 {k13 : Int32 → Mem → Option (Int32 × Mem)} {L : Lan} (hW : WF L) {p : Nat} (hp : p < gN L) : ∀ (f n q : Nat) (M : Mem), p < q → gN L + 1 ≤ q + f → f ≤ n → q ≤ gN L → CLn M 1 L → RSt M L → ∃ M1, fX7_broken_L28 k13 n (nI p) (nI q) M = (if br2 L p f q = 0 then k13 (nI (p + 1)) M1 else some (mI (br2 L p f q), M1)) ∧ SmA M M1 := by
  have hn := hW.1
  intro f
  induction f with
  | zero => intro n q M _ h2 _ h3; omega
  | succ f ih =>
    intro n q M hpq hf hfn hqn hC hR
    obtain ⟨n, rfl⟩ : ∃ z, n = z + 1 := ⟨n - 1, by omega⟩
    have h6 : M 1 6 = nI (gN L) := hC.2.2.2.2.2.2.1
    have h5 : M 6 p = mI (gMt L p) := hC.2.2.2.2.1 p (by omega)
    have hbr : br2 L p (f + 1) q = if gN L ≤ q then 0 else if okB L p q = true then 10 * p + q + 1 else br2 L p f (q + 1) := rfl
    rw [fX7_broken_L28, h6, hbr]
    by_cases e : gN L ≤ q
    · refine ⟨M, ?_, fun _ _ => rfl⟩
      rw [if_pos (by rw [lit_le (by omega) (by omega)]; exact e), if_pos e, if_pos rfl, bve, ad1]
    · rw [if_neg (by rw [lit_le (by omega) (by omega)]; exact e), if_neg e, ck_in (by omega) (by decide), ix_nI (by omega), h5]
      have l68 : ∀ M', fX7_broken_L68 (fX7_broken_L28 k13 n) (nI p) (nI q) M' = fX7_broken_L28 k13 n (nI p) (nI (q + 1)) M' := by
        intro M'; unfold fX7_broken_L68; rw [bve, ad1]
      by_cases c : gMt L p = q + 1
      · obtain ⟨M1, e1, s1⟩ := ih n (q + 1) M (by omega) (by omega) (by omega) (by omega) hC hR
        refine ⟨M1, ?_, s1⟩
        have hok : okB L p q = false := by unfold okB; rw [c]; simp
        rw [if_pos (by rw [mt_eq hW hp (by omega)]; exact c), l68, e1, hok, if_neg (show ¬ false = true by decide)]
      · obtain ⟨M1, e1, s1⟩ := x7_rather hC hW hR hpq (show q < gN L by omega)
        have hok : okB L p q = rathB L p q := by unfold okB; simp [c]
        rw [if_neg (by rw [mt_eq hW hp (by omega)]; exact c), e1, bde, hok]
        cases hr : rathB L p q
        · obtain ⟨M2, e2, s2⟩ := ih n (q + 1) M1 (by omega) (by omega) (by omega) (by omega) (cl_same hC (fun k _ _ => s1 k (by omega))) (hR.keep (fun k a b => s1 k (by omega)))
          refine ⟨M2, ?_, s1.tr s2⟩
          rw [ifF, l68, e2, if_neg (show ¬ false = true by decide)]
        · refine ⟨M1, ?_, s1⟩
          rw [ifT, if_pos rfl, if_neg (by omega), mI_s, mu10, nI_add]
theorem x7_br13 {S : Sta} (hW : WFS S) : ∀ (f n p : Nat) (M : Mem), gN (tLa S) + 1 ≤ p + f → f ≤ n → p ≤ gN (tLa S) → AC M S → RSt M (tLa S) → ∃ M1, fX7_broken_L13 n (nI p) M = (if br1 (tLa S) f p = 0 then fX7_found (nI 3) M1 else some (mI (br1 (tLa S) f p), M1)) ∧ SmA M M1 := by
  have hn := hW.1.1
  intro f
  induction f with
  | zero => intro n p M h2 _ h3; omega
  | succ f ih =>
    intro n p M hf hfn hpn h hR
    obtain ⟨n, rfl⟩ : ∃ z, n = z + 1 := ⟨n - 1, by omega⟩
    have h6 : M 1 6 = nI (gN (tLa S)) := h.1.2.2.2.2.2.2.1
    have hbr : br1 (tLa S) (f + 1) p = if gN (tLa S) ≤ p then 0 else if br2 (tLa S) p 9 (p + 1) = 0 then br1 (tLa S) f (p + 1) else br2 (tLa S) p 9 (p + 1) := rfl
    rw [fX7_broken_L13, h6, hbr]
    by_cases e : gN (tLa S) ≤ p
    · refine ⟨M, ?_, fun _ _ => rfl⟩
      rw [if_pos (by rw [lit_le (by omega) (by omega)]; exact e), if_pos e, if_pos rfl]
      exact fd7 3 M
    · rw [if_neg (by rw [lit_le (by omega) (by omega)]; exact e), if_neg e, bve, ad1]
      obtain ⟨M1, e1, s1⟩ := x7_br28 (k13 := fX7_broken_L13 n) hW.1 (show p < gN (tLa S) by omega) 9 fu (p + 1) M (by omega) (by omega) (by show 9 ≤ 2000; omega) (by omega) h.1 hR
      rw [e1]
      by_cases z : br2 (tLa S) p 9 (p + 1) = 0
      · obtain ⟨M2, e2, s2⟩ := ih n (p + 1) M1 (by omega) (by omega) (by omega) (h.fc s1.fc) (hR.keep (fun k a b => s1 k (by omega)))
        exact ⟨M2, by rw [if_pos z, e2, if_pos z], s1.tr s2⟩
      · exact ⟨M1, by rw [if_neg z, if_neg z, if_neg z], s1⟩
theorem x8_br18 {k4 : Int32 → Int32 → Mem → Option (Int32 × Mem)} {L : Lan} (hW : WF L) {p : Nat} (hp : p < gN L) : ∀ (f n q : Nat) (M : Mem), p < q → gN L + 1 ≤ q + f → f + 1 ≤ n → q ≤ gN L → RLn M 58 L → ∃ M1, fX8_broken_L18 k4 n (-1) (nI p) (nI q) M = k4 (mI (br2 L p f q)) (nI (p + 1)) M1 ∧ RLn M1 58 L ∧ FR M M1 := by
  have hn := hW.1
  intro f
  induction f with
  | zero => intro n q M _ h2 _ h3; omega
  | succ f ih =>
    intro n q M hpq hf hfn hqn hC
    obtain ⟨n, rfl⟩ : ∃ z, n = z + 2 := ⟨n - 2, by omega⟩
    have h4 : ∀ M', RLn M' 58 L → M' 58 4 = nI (gN L) := fun M' c => c.2.2.2.2.2.2.1
    have hbr : br2 L p (f + 1) q = if gN L ≤ q then 0 else if okB L p q = true then 10 * p + q + 1 else br2 L p f (q + 1) := rfl
    have l68 : ∀ y M', fX8_broken_L68 k4 y (nI p) M' = k4 y (nI (p + 1)) M' := by
      intro y M'; unfold fX8_broken_L68; rw [bve, ad1]
    rw [fX8_broken_L18, ckl_4_56, ixl_4, h4 M hC, hbr]
    by_cases e : gN L ≤ q
    · refine ⟨M, ?_, hC, FR.rf⟩
      rw [if_pos (by rw [lit_le (by omega) (by omega)]; exact e), if_pos e, l68]
      rfl
    · rw [if_neg (by rw [lit_le (by omega) (by omega)]; exact e), if_neg e, if_neg (by decide), x8_Mt hC (by omega), bde]
      have l61 : ∀ w M', fX8_broken_L61 (fX8_broken_L18 k4 (n + 1)) (nI p) (nI q) w M' = fX8_broken_L18 k4 (n + 1) w (nI p) (nI (q + 1)) M' := by
        intro w M'; unfold fX8_broken_L61; rw [bve, ad1]
      have l60 : ∀ M', fX8_broken_L60 (fX8_broken_L18 k4 (n + 1)) (nI p) (nI q) M' = fX8_broken_L18 k4 (n + 1) (-1) (nI p) (nI (q + 1)) M' := fun M' => l61 (-1) M'
      by_cases c : gMt L p = q + 1
      · obtain ⟨M1, e1, c1, s1⟩ := ih (n + 1) (q + 1) M (by omega) (by omega) (by omega) (by omega) hC
        refine ⟨M1, ?_, c1, s1⟩
        have hok : okB L p q = false := by unfold okB; rw [c]; simp
        rw [if_pos (by rw [mt_eq hW hp (by omega)]; exact c), l60, e1, hok, if_neg (show ¬ false = true by decide)]
      · obtain ⟨M1, e1, c1, s1⟩ := x8_break hC hW hpq (show q < gN L by omega)
        have hok : okB L p q = rathB L p q := by unfold okB; simp [c]
        rw [if_neg (by rw [mt_eq hW hp (by omega)]; exact c), e1, bde, hok]
        cases hr : rathB L p q
        · obtain ⟨M2, e2, c2, s2⟩ := ih (n + 1) (q + 1) M1 (by omega) (by omega) (by omega) (by omega) c1
          refine ⟨M2, ?_, c2, s1.tr s2⟩
          rw [ifF, l60, e2, if_neg (show ¬ false = true by decide)]
        · refine ⟨M1, ?_, c1, s1⟩
          have h0 : (0 : Int32) ≤ nI (10 * p + q) := by rw [nI_0', lit_le (by omega) (by omega)]; omega
          rw [ifT, if_pos rfl, l61, mu10, nI_add, mI_s, fX8_broken_L18, ckl_4_56, ixl_4, h4 M1 c1, l68, if_pos h0]
          split <;> rfl
theorem x8_br4 {L : Lan} (hW : WF L) : ∀ (f n p r : Nat) (M : Mem), gN L + 1 ≤ p + f → f ≤ n → p ≤ gN L → r < 2 ^ 20 → RLn M 58 L → ∃ M1, fX8_broken_L4 n (mI r) (nI p) M = (if (if r = 0 then br1 L f p else r) = 0 then fX8_finding (low 3) M1 else some (mI (if r = 0 then br1 L f p else r), M1)) ∧ RLn M1 58 L ∧ FR M M1 := by
  have hn := hW.1
  intro f
  induction f with
  | zero => intro n p r M h2 _ h3; omega
  | succ f ih =>
    intro n p r M hf hfn hpn hr hC
    obtain ⟨n, rfl⟩ : ∃ z, n = z + 1 := ⟨n - 1, by omega⟩
    have h4 : M 58 4 = nI (gN L) := hC.2.2.2.2.2.2.1
    have hbr : br1 L (f + 1) p = if gN L ≤ p then 0 else if br2 L p 9 (p + 1) = 0 then br1 L f (p + 1) else br2 L p 9 (p + 1) := rfl
    have hge : (0 ≤ mI r) = (r ≠ 0) := mI_ge0 (by omega)
    rw [fX8_broken_L4, ckl_4_56, ixl_4, h4, hbr]
    by_cases e : gN L ≤ p
    · refine ⟨M, ?_, hC, FR.rf⟩
      rw [if_pos (by rw [lit_le (by omega) (by omega)]; exact e), if_pos e]
      by_cases z : r = 0
      · rw [if_neg (by rw [hge]; exact fun w => w z), if_pos z, if_pos rfl]
        exact fd8 3 M
      · rw [if_pos (by rw [hge]; exact z), if_neg z, if_neg z]
    · rw [if_neg (by rw [lit_le (by omega) (by omega)]; exact e), if_neg e, bve, ad1]
      by_cases z : r = 0
      · subst z
        obtain ⟨M1, e1, c1, s1⟩ := x8_br18 (k4 := fX8_broken_L4 n) hW (show p < gN L by omega) 9 fu (p + 1) M (by omega) (by omega) (by show 10 ≤ 2000; omega) (by omega) hC
        have hb : br2 L p 9 (p + 1) < 2 ^ 20 := by
          have : ∀ f q, q ≤ gN L → br2 L p f q < 200 := by
            intro f
            induction f with
            | zero => intro q _; show 0 < 200; omega
            | succ f ih2 =>
              intro q hq
              show (if gN L ≤ q then 0 else if okB L p q = true then 10 * p + q + 1 else br2 L p f (q + 1)) < 200
              split
              · omega
              · split
                · omega
                · exact ih2 (q + 1) (by omega)
          have := this 9 (p + 1) (by omega)
          omega
        obtain ⟨M2, e2, c2, s2⟩ := ih n (p + 1) (br2 L p 9 (p + 1)) M1 (by omega) (by omega) (by omega) hb c1
        refine ⟨M2, ?_, c2, s1.tr s2⟩
        have e1' : fX8_broken_L18 (fX8_broken_L4 n) fu (mI 0) (nI p) (nI (p + 1)) M = _ := e1
        rw [e1', e2, if_pos rfl]
      · obtain ⟨M2, e2, c2, s2⟩ := ih n (p + 1) r M (by omega) (by omega) (by omega) hr hC
        refine ⟨M2, ?_, c2, s2⟩
        have hfu : fu = 1999 + 1 := rfl
        have l68 : fX8_broken_L68 (fX8_broken_L4 n) (mI r) (nI p) M = fX8_broken_L4 n (mI r) (nI (p + 1)) M := by
          unfold fX8_broken_L68; rw [bve, ad1]
        rw [hfu, fX8_broken_L18, ckl_4_56, ixl_4, l68, if_pos (show (0 : Int32) ≤ mI r by rw [hge]; exact z)]
        rw [if_neg z] at e2 ⊢
        rw [e2]
        split <;> rfl
theorem tw_broken {S : Sta} (hW : WFS S) : Two fX7_broken fX8_broken S := by
  have hn := hW.1.1
  have k7 : ∀ M, AC M S → ∃ M1, fX7_broken M = (if br1 (tLa S) 9 0 = 0 then fX7_found (nI 3) M1 else some (mI (br1 (tLa S) 9 0), M1)) ∧ FC M M1 := by
    intro M h
    obtain ⟨M1, e1, r1, s1⟩ := x4_see h.1 hW.1 (by decide)
    obtain ⟨M2, e2, s2⟩ := x7_br13 hW 9 fu 0 M1 (by omega) (by show 9 ≤ 2000; omega) (by omega) (h.fc (FC.ofR s1)) r1
    refine ⟨M2, ?_, (FC.ofR s1).tr s2.fc⟩
    unfold fX7_broken
    rw [e1, bde]
    exact e2
  have k8 : ∀ M, AR M S → ∃ M1, fX8_broken M = (if br1 (tLa S) 9 0 = 0 then fX8_finding (low 3) M1 else some (mI (br1 (tLa S) 9 0), M1)) ∧ RLn M1 58 (tLa S) ∧ FR M M1 := by
    intro M h
    obtain ⟨M1, e1, c1, s1⟩ := x8_br4 hW.1 9 fu 0 0 M (by omega) (by show 9 ≤ 2000; omega) (by omega) (by decide) h.1
    rw [if_pos rfl] at e1
    exact ⟨M1, e1, c1, s1⟩
  by_cases z : br1 (tLa S) 9 0 = 0
  · refine ⟨low 3, fdS S 3, fun M h => ?_, fun M h => ?_, hW⟩
    · obtain ⟨M1, e1, f1⟩ := k7 M h
      obtain ⟨M2, e2, c2, s2⟩ := x7_found (h.fc f1) (i := 3) (by decide)
      exact ⟨M2, by rw [e1, if_pos z, e2], c2, fun k hk => (s2 k hk).trans (f1 k (by omega))⟩
    · obtain ⟨M1, e1, c1, f1⟩ := k8 M h
      obtain ⟨M2, e2, c2, s2⟩ := x8_finding (h.fr f1 c1) (i := 3) (by decide)
      exact ⟨M2, by rw [e1, if_pos z, e2], c2, fun k hk => (s2 k hk).trans (f1.1 k (by omega))⟩
  · refine two_q hW (mI (br1 (tLa S) 9 0)) (fun M h => ?_) (fun M h => ?_)
    · obtain ⟨M1, e1, f1⟩ := k7 M h
      exact ⟨M1, by rw [e1, if_neg z], f1⟩
    · obtain ⟨M1, e1, c1, f1⟩ := k8 M h
      exact ⟨M1, by rw [e1, if_neg z], c1, f1⟩

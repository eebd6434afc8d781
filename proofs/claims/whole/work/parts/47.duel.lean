/-! duel, lanterns -/
theorem firN_sym (L : Lan) (a b h : Nat) : firN L a b h = firN L b a h := by
  unfold firN
  rw [Nat.max_comm, Nat.min_comm]
def frc (L : Lan) (a b p : Nat) : Nat := gSg L p + if (gL L).testBit 8 = true then (if firN L a b 8 = p then 3 else 0) else 0
theorem x7_force {M : Mem} {L : Lan} (hC : CLn M 1 L) (hW : WF L) {p q : Nat} (hp : p < gN L) (hq : q < gN L) : fX7_duelForce (nI p) (nI q) M = some (nI (frc L p q p), M) := by
  have hn := hW.1
  have hl := hW.2.2.1
  have h7 : M 1 7 = nI (gL L) := hC.2.2.2.2.2.2.2.1
  have h4 : M 4 p = nI (gSg L p) := hC.2.2.1 p (by omega)
  have f0 : fX7_duelForce_L36 (nI p) 0 M = some (nI (gSg L p + 0), M) := by
    unfold fX7_duelForce_L36
    rw [ck_in (by omega) (by decide), ix_nI (by omega), if_pos rfl, h4, Int32.add_zero]; rfl
  have f1 : fX7_duelForce_L36 (nI p) 1 M = some (nI (gSg L p + 3), M) := by
    unfold fX7_duelForce_L36
    rw [ck_in (by omega) (by decide), ix_nI (by omega), if_neg (by decide), h4, ad3]
  have b8 : fX7_bit (M 1 7) 8 M = some (bI ((gL L).testBit 8), M) := by rw [h7]; exact x7_bit (p := 8) M (by omega) (by decide)
  have s8 : fX1_stronger 1 (nI p) (nI q) 8 M = some (nI (firN L p q 8), M) := x1_stronger (h := 8) hC hW hp hq (by decide)
  unfold fX7_duelForce frc
  rw [b8, bde]
  cases (gL L).testBit 8
  · rw [if_neg (by decide), if_neg (by decide)]; exact f0
  · rw [if_pos (by decide), if_pos rfl, s8, bde]
    by_cases e : firN L p q 8 = p
    · rw [if_pos (by rw [e]), if_pos e]; exact f1
    · have hb : firN L p q 8 < 2 ^ 31 := by rcases firN_or L p q 8 with z | z <;> rw [z] <;> omega
      rw [if_neg (by rw [lit_eq hb (by omega)]; exact e), if_neg e]; exact f0
theorem x8_might {M : Mem} {L : Lan} (hC : RLn M 58 L) (hW : WF L) {p a b : Nat} (hp : p < gN L) (ha : a < gN L) (hb : b < gN L) : fX8_mightOf (nI p) (nI (firN L a b 8)) M = some (nI (frc L a b p), M) := by
  have hn := hW.1
  have hf : firN L a b 8 < 2 ^ 31 := by rcases firN_or L a b 8 with z | z <;> rw [z] <;> omega
  have l8 : fX8_isLit 8 M = some (bI ((gL L).testBit 8), M) := x8_isLit (h := 8) hC hW (by decide)
  unfold fX8_mightOf frc
  rw [x8_Sg hC (by omega), bde, l8, bde]
  cases (gL L).testBit 8
  · rw [ifF, if_neg (by decide), Int32.add_zero]; rfl
  · rw [ifT, if_pos rfl]
    by_cases e : firN L a b 8 = p
    · rw [if_pos (by rw [e]), if_pos e, ad3]
    · rw [if_neg (by rw [lit_eq hf (by omega)]; exact e), if_neg e, Int32.add_zero]; rfl
theorem frc_lt {L : Lan} (hW : WF L) {a b p : Nat} (hp : p < 8) : frc L a b p < 13 := by
  have := (hW.2.2.2.1 p hp).2.2.1
  unfold frc
  split
  · split <;> omega
  · omega
theorem tw_duel {S : Sta} (hW : WFS S) (x y : Int32) : Two (fX7_duel x y) (fX8_duel x y) S := by
  have hn := hW.1.1
  cases hp : (pIn (gN (tLa S)) x && pIn (gN (tLa S)) y && decide (x ≠ y))
  · refine two_fd hW (i := 0) (by decide) (fun M h => ?_) (fun M h => ?_)
    · unfold fX7_duel
      rw [x1_areTwo h.1 hW.1, hp, bde, ifF]
      exact fd7 0 M
    · unfold fX8_duel
      rw [x8_areTwo h.1 hW.1, hp, bde, ifF]
      exact fd8 0 M
  · have hp2 := hp
    simp only [Bool.and_eq_true, decide_eq_true_eq] at hp2
    obtain ⟨⟨hx, hy⟩, hxy⟩ := hp2
    obtain ⟨p, hpn, rfl⟩ := pIn_ex hx (by omega)
    obtain ⟨q, hqn, rfl⟩ := pIn_ex hy (by omega)
    have hlo : min p q < gN (tLa S) := by omega
    have hhi : max p q < gN (tLa S) := by omega
    have hfs : firN (tLa S) p q 8 = firN (tLa S) (max p q) (min p q) 8 := by
      rcases Nat.le_total p q with z | z
      · rw [Nat.max_eq_right z, Nat.min_eq_left z]; exact firN_sym _ _ _ _
      · rw [Nat.max_eq_left z, Nat.min_eq_right z]
    refine two_q0 hW (if frc (tLa S) (max p q) (min p q) (max p q) ≤ frc (tLa S) (max p q) (min p q) (min p q) then nI (min p q) else nI (max p q)) (fun M h => ?_) (fun M h => ?_)
    · have e2 : frc (tLa S) (min p q) (max p q) (min p q) = frc (tLa S) (max p q) (min p q) (min p q) := by
        unfold frc; rw [firN_sym]
      have b1 := frc_lt (a := max p q) (b := min p q) hW.1 (p := max p q) (by omega)
      have b2 := frc_lt (a := max p q) (b := min p q) hW.1 (p := min p q) (by omega)
      unfold fX7_duel
      rw [x1_areTwo h.1 hW.1, hp, bde, ifT, imin_nI (by omega) (by omega), imax_nI (by omega) (by omega), bve, bve, x7_force h.1 hW.1 hhi hlo, bde, x7_force h.1 hW.1 hlo hhi, bde, e2]
      simp (disch := omega) only [lit_le]
      split <;> rfl
    · have b1 := frc_lt (a := max p q) (b := min p q) hW.1 (p := max p q) (by omega)
      have b2 := frc_lt (a := max p q) (b := min p q) hW.1 (p := min p q) (by omega)
      have f8 : fX8_firstOf (nI p) (nI q) 8 M = some (nI (firN (tLa S) p q 8), M) := x8_firstOf (h := 8) h.1 hW.1 hpn hqn (by decide)
      unfold fX8_duel
      rw [x8_areTwo h.1 hW.1, hp, bde, ifT, f8, bde, imin_nI (by omega) (by omega), imax_nI (by omega) (by omega), bve, bve, hfs, x8_might h.1 hW.1 hhi hhi hlo, bde, x8_might h.1 hW.1 hlo hhi hlo, bde]
      simp (disch := omega) only [lit_le]
      split <;> rfl
/-- both answer a long alike -/
def TwoG {ρ : Type} (f g : Mem → Option (ρ × Mem)) (S : Sta) : Prop := ∃ (r : ρ) (S' : Sta), (∀ M, AC M S → ∃ M1, f M = some (r, M1) ∧ AC M1 S' ∧ ∀ k, 57 ≤ k → M1 k = M k) ∧ (∀ M, AR M S → ∃ M1, g M = some (r, M1) ∧ AR M1 S' ∧ ∀ k, k < 57 → M1 k = M k) ∧ WFS S'
def dsc (a : Nat) : Nat → Nat
  | 0 => 1
  | y + 1 => if y + 1 ≤ 1 then 1 else if a % (y + 1) = 0 then (if 10 % (y + 1) = 0 then y + 1 else dsc a y) else dsc a y
def eucN : Nat → Nat → Nat → Nat
  | 0, x, _ => x
  | n + 1, x, y => if y = 0 then x else eucN n y (x % y)
theorem euc_dsc : ∀ j, j < 11 → eucN 11 (10 - j) 10 = dsc (10 - j) 10 ∧ 0 < dsc (10 - j) 10 ∧ dsc (10 - j) 10 < 11 := by decide +kernel
theorem irm_nI {a d : Nat} (h : a < 2 ^ 31) (h1 : 0 < d) (h2 : d < 2 ^ 31) : irm (nI a) (nI d) = nI (a % d) := pk_rem (d := d) h h1 h2
theorem ck_ne {α : Type} {y : Nat} {x : Option α} (h : 0 < y) (h2 : y < 2 ^ 31) : ck (!decide (nI y = 0)) x = x := ck_t (by rw [decide_eq_false (by rw [nI_0', lit_eq h2 (by decide)]; omega)]; rfl)
theorem x7_cd6 {M : Mem} {a : Nat} (ha : a ≤ 10) : ∀ (n y : Nat), y ≤ 10 → y < n → fX7_commonDivisor_L6 n (nI a) (nI 10) (nI y) M = some (nI (dsc a y), M) := by
  intro n
  induction n with
  | zero => intro y _ h2; omega
  | succ n ih =>
    intro y hy hn
    rw [fX7_commonDivisor_L6]
    cases y with
    | zero => rw [if_pos (by decide)]; rfl
    | succ y =>
      by_cases e : y + 1 ≤ 1
      · rw [if_pos (by rw [le1 (by omega)]; exact e)]
        show _ = some (nI (if y + 1 ≤ 1 then 1 else _), M)
        rw [if_pos e]; rfl
      · have ihy := ih y (by omega) (by omega)
        have h25 : fX7_commonDivisor_L25 (fX7_commonDivisor_L6 n) (nI a) (nI 10) (nI (y + 1)) M = some (nI (dsc a y), M) := by
          unfold fX7_commonDivisor_L25
          rw [bve, mI_dn, mI_s]
          exact ihy
        rw [if_neg (by rw [le1 (by omega)]; exact e), ck_ne (by omega) (by omega), irm_nI (by omega) (by omega) (by omega), ck_ne (by omega) (by omega), irm_nI (by omega) (by omega) (by omega), h25]
        show _ = some (nI (if y + 1 ≤ 1 then 1 else if a % (y + 1) = 0 then (if 10 % (y + 1) = 0 then y + 1 else dsc a y) else dsc a y), M)
        rw [if_neg e]
        have m1 : a % (y + 1) < 2 ^ 31 := Nat.lt_of_lt_of_le (Nat.mod_lt _ (by omega)) (by omega)
        have m2 : 10 % (y + 1) < 2 ^ 31 := Nat.lt_of_lt_of_le (Nat.mod_lt _ (by omega)) (by omega)
        by_cases c1 : a % (y + 1) = 0
        · rw [if_pos (by rw [c1]; rfl), if_pos c1]
          by_cases c2 : 10 % (y + 1) = 0
          · rw [if_pos (by rw [c2]; rfl), if_pos c2]
          · rw [if_neg (by rw [nI_0', lit_eq m2 (by decide)]; exact c2), if_neg c2]
        · rw [if_neg (by rw [nI_0', lit_eq m1 (by decide)]; exact c1), if_neg c1]
theorem x8_common4 {M : Mem} : ∀ (f n x y : Nat), y ≤ f → f < n → x < 2 ^ 30 → y < 2 ^ 30 → fX8_common_L4 n (nI x) (nI y) M = some (nI (eucN (f + 1) x y), M) := by
  intro f
  induction f with
  | zero =>
    intro n x y hy hn hx _
    obtain ⟨n, rfl⟩ : ∃ k, n = k + 1 := ⟨n - 1, by omega⟩
    have : y = 0 := by omega
    subst this
    rw [fX8_common_L4, if_pos (by decide)]
    rfl
  | succ f ih =>
    intro n x y hy hn hx h2
    obtain ⟨n, rfl⟩ : ∃ k, n = k + 1 := ⟨n - 1, by omega⟩
    rw [fX8_common_L4]
    show _ = some (nI (if y = 0 then x else eucN (f + 1) y (x % y)), M)
    by_cases e : y = 0
    · rw [if_pos (by rw [e]; rfl), if_pos e]
    · have m1 : x % y < y := Nat.mod_lt _ (by omega)
      rw [if_neg (by rw [nI_0', lit_eq (by omega) (by decide)]; exact e), if_neg e, ck_ne (by omega) (by omega), irm_nI (by omega) (by omega) (by omega), bve]
      exact ih n y (x % y) (by omega) (by omega) h2 (by omega)
def pwr (b : Int32) : Nat → Int64
  | 0 => 1
  | k + 1 => pwr b k * b.toInt64
theorem x7_pow5 {M : Mem} {b : Int32} {m : Nat} (hm : m < 2 ^ 30) : ∀ (n k : Nat), k ≤ m → m - k < n → fX7_power_L5 n b (nI m) (pwr b k) (nI k) M = some (pwr b m, M) := by
  intro n
  induction n with
  | zero => intro k _ h2; omega
  | succ n ih =>
    intro k hk hn
    rw [fX7_power_L5]
    by_cases e : m ≤ k
    · have : k = m := by omega
      rw [if_pos (by rw [lit_le (by omega) (by omega)]; exact e), this]
    · rw [if_neg (by rw [lit_le (by omega) (by omega)]; exact e), bve, bve, ad1]
      exact ih (k + 1) (by omega) (by omega)
theorem x8_lan57 {M : Mem} {x2 x3 : Int32} {g m : Nat} (hg : 0 < g) (hg2 : g < 100) (hm : m < 2 ^ 30) : ∀ (n k : Nat), k ≤ m → m - k < n → fX8_lanterns_L57 n (nI m) x2 x3 (nI g) (pwr ((10 - x2) / nI g) k) (pwr (10 / nI g) k) (nI k) M = some (if x3 = 0 then pwr ((10 - x2) / nI g) m else pwr (10 / nI g) m, M) := by
  intro n
  induction n with
  | zero => intro k _ h2; omega
  | succ n ih =>
    intro k hk hn
    rw [fX8_lanterns_L57]
    by_cases e : m ≤ k
    · have : k = m := by omega
      rw [if_pos (by rw [lit_le (by omega) (by omega)]; exact e), this]
      split <;> rfl
    · rw [if_neg (by rw [lit_le (by omega) (by omega)]; exact e), ck_ne hg (by omega), bve, ck_ne hg (by omega), bve, bve, ad1]
      exact ih (k + 1) (by omega) (by omega)
theorem two_fdG {S : Sta} (hW : WFS S) {f g : Mem → Option (Int64 × Mem)} (hf : ∀ M, AC M S → f M = bd (fX7_found 0 M) fun r M1 => some (r.toInt64, M1)) (hg : ∀ M, AR M S → g M = bd (fX8_finding (-1000001) M) fun r M1 => some (r.toInt64, M1)) : TwoG f g S := by
  refine ⟨(low 0).toInt64, fdS S 0, fun M h => ?_, fun M h => ?_, wfs_fd hW 0⟩
  · obtain ⟨M1, e1, a1, s1⟩ := x7_found h (i := 0) (by decide)
    exact ⟨M1, by rw [hf M h, show fX7_found 0 M = _ from e1, bde], a1, s1⟩
  · obtain ⟨M1, e1, a1, s1⟩ := x8_finding h (i := 0) (by decide)
    exact ⟨M1, by rw [hg M h, show fX8_finding (-1000001) M = _ from e1, bde], a1, s1⟩
theorem tw_lanterns {S : Sta} (hW : WFS S) (x y z : Int32) : TwoG (fX7_lanterns x y z) (fX8_lanterns x y z) S := by
  have w15 : ∀ M, fX7_isWithin x 15 M = some (bI (pIn 16 x), M) := fun M => x7_isWithin (k := 15) x M (by decide)
  have w10 : ∀ M, fX7_isWithin y 10 M = some (bI (pIn 11 y), M) := fun M => x7_isWithin (k := 10) y M (by decide)
  have w1 : ∀ M, fX7_isWithin z 1 M = some (bI (pIn 2 z), M) := fun M => x7_isWithin (k := 1) z M (by decide)
  have v15 : ∀ M, fX8_within x 0 15 M = some (bI (pIn 16 x), M) := fun M => x8_within (k := 15) x M (by decide)
  have v10 : ∀ M, fX8_within y 0 10 M = some (bI (pIn 11 y), M) := fun M => x8_within (k := 10) y M (by decide)
  have v1 : ∀ M, fX8_within z 0 1 M = some (bI (pIn 2 z), M) := fun M => x8_within (k := 1) z M (by decide)
  cases hx : pIn 16 x
  · refine two_fdG hW (fun M h => ?_) (fun M h => ?_)
    · unfold fX7_lanterns; rw [w15, hx, bde, ifF]; rfl
    · unfold fX8_lanterns; rw [v15, hx, bde, ifF]; rfl
  cases hy : pIn 11 y
  · refine two_fdG hW (fun M h => ?_) (fun M h => ?_)
    · unfold fX7_lanterns; rw [w15, hx, bde, ifT, w10, hy, bde, ifF]; rfl
    · unfold fX8_lanterns; rw [v15, hx, bde, ifT, v10, hy, bde, ifF]; rfl
  cases hz : pIn 2 z
  · refine two_fdG hW (fun M h => ?_) (fun M h => ?_)
    · unfold fX7_lanterns; rw [w15, hx, bde, ifT, w10, hy, bde, ifT, w1, hz, bde, ifF]; rfl
    · unfold fX8_lanterns; rw [v15, hx, bde, ifT, v10, hy, bde, ifT, v1, hz, bde, ifF]; rfl
  obtain ⟨m, hm, rfl⟩ := pIn_ex hx (by decide)
  obtain ⟨j, hj, rfl⟩ := pIn_ex hy (by decide)
  obtain ⟨g1, g2, g3⟩ := euc_dsc j hj
  have s10 : (10 : Int32) - nI j = nI (10 - j) := pk_sub (a := 10) (by omega)
  refine ⟨if z = 0 then pwr ((10 - nI j) / nI (dsc (10 - j) 10)) m else pwr (10 / nI (dsc (10 - j) 10)) m, S, fun M h => ⟨M, ?_, h, fun _ _ => rfl⟩, fun M h => ⟨M, ?_, h, fun _ _ => rfl⟩, hW⟩
  · have e1 : fX7_commonDivisor (nI (10 - j)) 10 M = some (nI (dsc (10 - j) 10), M) := by
      unfold fX7_commonDivisor
      have : imax (nI (10 - j)) 10 = nI 10 := by
        rw [show (10 : Int32) = nI 10 from rfl, imax_nI (by omega) (by omega), Nat.max_eq_right (by omega)]
      rw [this, bve]
      exact x7_cd6 (by omega) fu 10 (by omega) (by show _ < 2000; omega)
    have e2 : ∀ w : Int32, fX7_lanterns_L59 (nI m) (nI (dsc (10 - j) 10)) w M = some (pwr (w / nI (dsc (10 - j) 10)) m, M) := by
      intro w
      have e3 : fX7_power (w / nI (dsc (10 - j) 10)) (nI m) M = some (pwr (w / nI (dsc (10 - j) 10)) m, M) := x7_pow5 (by omega) fu 0 (by omega) (by show _ < 2000; omega)
      unfold fX7_lanterns_L59
      rw [ck_ne g2 (by omega), e3, bde]
    unfold fX7_lanterns
    rw [w15, hx, bde, ifT, w10, hy, bde, ifT, w1, hz, bde, ifT, bve, s10, e1, bde, e2, e2]
    split <;> rfl
  · have e1 : fX8_common (10 - nI j) 10 M = some (nI (dsc (10 - j) 10), M) := by
      unfold fX8_common
      rw [s10, ← g1]
      exact x8_common4 10 fu (10 - j) 10 (by omega) (by show _ < 2000; omega) (by omega) (by omega)
    unfold fX8_lanterns
    rw [v15, hx, bde, ifT, v10, hy, bde, ifT, v1, hz, bde, ifT, e1, bde]
    exact x8_lan57 g2 (by omega) (by omega) fu 0 (by omega) (by show _ < 2000; omega)

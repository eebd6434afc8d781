/-! fits, may: the reference tries all pairings -/
/-- only the land now, the one aside and whom one may have -/
def FRS (M M1 : Mem) : Prop := (∀ k, k ≠ 57 → k ≠ 58 → k ≠ 60 → M1 k = M k) ∧ ∀ j, j ≠ 12 → M1 57 j = M 57 j
theorem FRS.rf {M : Mem} : FRS M M := ⟨fun _ _ _ _ => rfl, fun _ _ => rfl⟩
theorem FRS.tr {M M1 M2 : Mem} (h1 : FRS M M1) (h2 : FRS M1 M2) : FRS M M2 := ⟨fun k a b c => (h2.1 k a b c).trans (h1.1 k a b c), fun j a => (h2.2 j a).trans (h1.2 j a)⟩
theorem FRS.of {M M1 : Mem} (h : ∀ k, k ≠ 58 → k ≠ 60 → M1 k = M k) : FRS M M1 := ⟨fun k _ b c => h k b c, fun j _ => by rw [h 57 (by decide) (by decide)]⟩
theorem FRS.w58 {M : Mem} {i : Nat} {x : Int32} : FRS M (wr M 58 i x) := FRS.of (fun k h _ => wr_n _ _ _ _ h)
theorem FRS.w57 {M : Mem} {x : Int32} : FRS M (wr M 57 12 x) := ⟨fun k a _ _ => wr_n _ _ _ _ a, fun j h => by rw [wr_app, if_pos rfl, if_neg h]⟩
theorem FRS.fr {M M1 : Mem} (h : FRS M M1) : FR M M1 := ⟨fun k hk => h.1 k (by omega) (by omega) (by omega), h.2 3 (by decide), h.2 15 (by decide)⟩
/-- what is told of those who aren't of the set any more -/
def ouP (g : Nat → Nat) (n s : Nat) : Prop := ∀ x, x < n → s.testBit x = false → (g x = 0 ∨ ∃ y, y < n ∧ y ≠ x ∧ g x = y + 1 ∧ g y = x + 1 ∧ s.testBit y = false)
/-- whom the person (coded) has by what this set gives -/
def adP (v : Nat → Nat → Nat) (s : Nat) (g : Nat → Nat) (xx i : Nat) : Prop := xx ≠ 0 ∧ (if s.testBit (xx - 1) = true then prA v s (xx - 1) i ∧ prO v (wo s (xx - 1) i) else prO v s ∧ i = meN g (xx - 1))
def goP (L : Lan) (l : Nat) (w : Nat → Int32) (g : Nat → Nat) (s : Nat) : Prop := tkB L l w = true ∧ ∀ x, x < gN L → s.testBit x = false → vSh L l w (min x (meN g x)) (max x (meN g x)) ≠ 0
def SWH (L : Lan) (ss l : Nat) (w : Nat → Int32) (xx : Nat) (self : Int32 → Int32 → Int32 → Mem → Option (Int32 × Mem)) (s : Nat) : Prop :=
  ∀ (M : Mem) (g : Nat → Nat) (c : Bool) (r : Nat), RLn M 58 (sMt L g) → WFr (sMt L g) → ouP g (gN L) s → M 70 ss = nI l → (∀ i, i < 40 → M 71 (40 * ss + i) = w i) → (c = true ↔ goP L l w g s) → M 57 12 = nI r →
    ∃ (M1 : Mem) (g1 : Nat → Nat) (r1 : Nat), self (nI ss) (nI s) (mI xx) M = some (nI (if c = true then (bcP (vSh L l w) s).2 else 0), M1) ∧ RLn M1 58 (sMt L g1) ∧ WFr (sMt L g1) ∧ (∀ x, s.testBit x = false → g1 x = g x) ∧ M1 57 12 = nI r1 ∧ (∀ i, r1.testBit i = true ↔ (r.testBit i = true ∨ (c = true ∧ adP (vSh L l w) s g xx i))) ∧ FRS M M1
theorem wfr_mt {L : Lan} {g : Nat → Nat} (hW : WFr (sMt L g)) {p m : Nat} (h1 : m ≤ gN L) (h2 : m ≠ p + 1) : WFr (sMt L (uf g p m)) := by
  obtain ⟨a1, a2, a3, a4, a5, a6⟩ := hW
  refine ⟨a1, a2, a3, a4, fun i hi => ?_, a6⟩
  show uf g p m i ≤ gN L ∧ uf g p m i ≠ i + 1
  unfold uf
  by_cases e : i = p
  · rw [if_pos e, e]; exact ⟨h1, h2⟩
  · rw [if_neg e]; exact a5 i hi
theorem x8_sw0 {L : Lan} (hW : WF L) {ss l xx d : Nat} {w : Nat → Int32} (hs : ss < 4) (hl : l ≤ 40) (hx : xx ≤ gN L) : SWH L ss l w xx (fX8_seenWays (d + 1)) 0 := by
  have hn := hW.1
  intro M g c r hC hWr hO h70 hv hc h57
  have hb0 : bcP (vSh L l w) 0 = (1, 1) := bc_0 _
  have z0 : ∀ x, (0 : Nat).testBit x = false := fun x => Nat.zero_testBit x
  obtain ⟨M1, e1, c1, s1⟩ := x8_isSeen (w := w) hWr hs hl hC h70 hv
  have hg : ∀ x, x < gN L → (g x = 0 ∨ ∃ y, y < gN L ∧ y ≠ x ∧ g x = y + 1 ∧ g y = x + 1) := fun x h1 => by
    rcases hO x h1 (z0 x) with h | ⟨y, q1, q2, q3, q4, -⟩
    · exact Or.inl h
    · exact Or.inr ⟨y, q1, q2, q3, q4⟩
  have hcs : seB (sMt L g) l w = c := by
    apply bl_eq
    rw [seen_leaf hW hg, hc]
    unfold goP
    exact ⟨fun h => ⟨h.1, fun x h1 _ => h.2 x h1⟩, fun h => ⟨h.1, fun x h1 => h.2 x h1 (z0 x)⟩⟩
  rw [hcs] at e1
  have h57b : M1 57 12 = nI r := by rw [s1 57 (by decide) (by decide)]; exact h57
  -- the end, whatever is added
  have fin : ∀ t : Nat, (∀ i, (r ||| t).testBit i = true ↔ (r.testBit i = true ∨ (c = true ∧ adP (vSh L l w) 0 g xx i))) → ∃ (M2 : Mem) (g1 : Nat → Nat) (r1 : Nat), fX8_seenWays_L58 (fX8_seenWays d) (bI c) (nI t) (nI r) M1 = some (nI (if c = true then (bcP (vSh L l w) 0).2 else 0), M2) ∧ RLn M2 58 (sMt L g1) ∧ WFr (sMt L g1) ∧ (∀ x, (0 : Nat).testBit x = false → g1 x = g x) ∧ M2 57 12 = nI r1 ∧ (∀ i, r1.testBit i = true ↔ (r.testBit i = true ∨ (c = true ∧ adP (vSh L l w) 0 g xx i))) ∧ FRS M M2 := by
    intro t ht
    refine ⟨wr M1 57 12 (nI (r ||| t)), g, r ||| t, ?_, rl_same c1 (wr_n _ _ _ _ (by decide)), hWr, fun _ _ => rfl, by rw [wr_app, if_pos rfl, if_pos rfl], ht, (FRS.of s1).tr FRS.w57⟩
    unfold fX8_seenWays_L58
    rw [nI_or, wme, hb0]
    cases c
    · rfl
    · rfl
  have none : (∀ i, ¬ (c = true ∧ adP (vSh L l w) 0 g xx i)) → ∀ i, (r ||| 0).testBit i = true ↔ (r.testBit i = true ∨ (c = true ∧ adP (vSh L l w) 0 g xx i)) := by
    intro h i
    rw [Nat.or_zero]
    exact ⟨fun q => Or.inl q, fun q => q.resolve_right (h i)⟩
  have e0 : fX8_seenWays (d + 1) (nI ss) (nI 0) (mI xx) M = if 0 ≤ mI xx then (bd (fX8_personIs (mI xx) 4 M1) fun r6 M5 => (fX8_seenWays_L25 (fX8_seenWays d) (mI xx) (bI c) r6 M5)) else (fX8_seenWays_L25 (fX8_seenWays d) (mI xx) (bI c) (-1) M1) := by
    rw [fX8_seenWays, if_pos (show nI 0 = 0 from rfl), e1, bde]
  rw [e0]
  by_cases hx0 : xx = 0
  · obtain ⟨M2, g1, r1, f1, f2⟩ := fin 0 (none (fun i h => h.2.1 hx0))
    refine ⟨M2, g1, r1, ?_, f2⟩
    rw [if_neg (by rw [mI_ge0 (by omega)]; exact fun q => q hx0)]
    unfold fX8_seenWays_L25 fX8_seenWays_L57
    rw [h57b]
    cases c
    · exact f1
    · rw [if_neg (by decide), if_pos (by rw [mI_lt0 (by omega)]; exact hx0)]; exact f1
  · obtain ⟨x, rfl⟩ : ∃ x, xx = x + 1 := ⟨xx - 1, by omega⟩
    have hxn : x < gN L := by omega
    have hpi : fX8_personIs (nI x) 4 M1 = some (mI (g x), M1) := x8_Mt c1 (show x < 8 by omega)
    have hgx := (hWr.2.2.2.2.1 x hxn).1
    have hgx' : g x ≤ gN L := hgx
    rw [if_pos (by rw [mI_ge0 (by omega)]; exact hx0), mI_s, hpi, bde]
    cases c
    · obtain ⟨M2, g1, r1, f1, f2⟩ := fin 0 (none (fun i h => by cases h.1))
      refine ⟨M2, g1, r1, ?_, f2⟩
      unfold fX8_seenWays_L25 fX8_seenWays_L57
      rw [h57b, ifF]; exact f1
    · obtain ⟨M2, g1, r1, f1, f2⟩ := fin (2 ^ meN g x) (fun i => by
        rw [Nat.testBit_or, Nat.testBit_two_pow]
        unfold adP
        rw [z0, if_neg (by decide)]
        simp only [Bool.or_eq_true, decide_eq_true_eq, Nat.add_sub_cancel]
        constructor
        · rintro (q | q)
          · exact Or.inl q
          · exact Or.inr ⟨trivial, hx0, by unfold prO; rw [hb0]; decide, q.symm⟩
        · rintro (q | q)
          · exact Or.inl q
          · exact Or.inr q.2.2.2.symm)
      refine ⟨M2, g1, r1, ?_, f2⟩
      rw [← f1]
      unfold fX8_seenWays_L25 fX8_seenWays_L53
      rw [h57b, if_neg (by decide), if_neg (nI_pos (by omega))]
      unfold meN
      by_cases hz : g x = 0
      · rw [if_neg (by rw [mI_ge0 (by omega)]; exact fun q => q hz), if_pos hz, shl_1 (by omega)]
      · rw [if_pos (by rw [mI_ge0 (by omega)]; exact hz), if_neg hz, mI_pos (by omega), shl_1 (by omega)]
/-- the loop over whom the least may have -/
theorem x8_sw85 {L : Lan} (hW : WF L) {ss l xx : Nat} {w : Nat → Int32} {self : Int32 → Int32 → Int32 → Mem → Option (Int32 × Mem)} {s : Nat} (hss : ss < 4) (hx : xx ≤ gN L) (hs : s < 2 ^ gN L) (h0 : s ≠ 0) (hself : ∀ o, o < gN L → s.testBit o = true → SWH L ss l w xx self (wo s (lsN s) o)) (g0 : Nat → Nat) (hO : ouP g0 (gN L) s) (c : Bool) (hc : c = true ↔ goP L l w g0 s) (r0 : Nat) : ∀ (m k : Nat) (M : Mem) (g : Nat → Nat) (r : Nat), k ≤ gN L → gN L - k < m → RLn M 58 (sMt L g) → WFr (sMt L g) → (∀ x, s.testBit x = false → g x = g0 x) → M 70 ss = nI l → (∀ i, i < 40 → M 71 (40 * ss + i) = w i) → M 57 12 = nI r → (∀ i, r.testBit i = true ↔ (r0.testBit i = true ∨ (c = true ∧ xx ≠ 0 ∧ ∃ o, o < k ∧ chB (vSh L l w) s (xx - 1) (meN g0 (xx - 1)) o i))) →
    ∃ (M1 : Mem) (g1 : Nat → Nat) (r1 : Nat), fX8_seenWays_L85 self m (nI ss) (nI s) (mI xx) (nI (lsN s)) (nI (if c = true then smP (vSh L l w) s k else 0)) (nI k) M = some (nI (if c = true then smP (vSh L l w) s (gN L) else 0), M1) ∧ RLn M1 58 (sMt L g1) ∧ WFr (sMt L g1) ∧ (∀ x, s.testBit x = false → g1 x = g0 x) ∧ M1 57 12 = nI r1 ∧ (∀ i, r1.testBit i = true ↔ (r0.testBit i = true ∨ (c = true ∧ xx ≠ 0 ∧ ∃ o, o < gN L ∧ chB (vSh L l w) s (xx - 1) (meN g0 (xx - 1)) o i))) ∧ FRS M M1 := by
  have hn := hW.1
  have h256 := p256 hs hn
  obtain ⟨l1, l2, l3⟩ := ls_ok s h256 h0
  have lN := in_n hs l1
  intro m
  induction m with
  | zero => intro k M g r _ h; omega
  | succ m ih =>
    intro k M g r hk hm hC hWr hg h70 hv h57 hr
    have h4 : M 58 4 = nI (gN L) := hC.2.2.2.2.2.2.1
    rw [fX8_seenWays_L85, ckl_4_56, ixl_4, h4]
    by_cases e : k = gN L
    · subst e
      exact ⟨M, g, r, by rw [if_pos (by rw [lit_le (by omega) (by omega)]; exact Nat.le_refl _)], hC, hWr, hg, h57, hr, FRS.rf⟩
    · have hkn : k < gN L := by omega
      rw [if_neg (by rw [lit_le (by omega) (by omega)]; omega), x8_mayBe M h256 h0 (by omega), bde]
      have hsm : smP (vSh L l w) s (k + 1) = smP (vSh L l w) s k + (if (s.testBit k && (!decide (lsN s = k) || decide (pcN s % 2 = 1))) = true then (if vSh L l w (min (lsN s) k) (max (lsN s) k) ≠ 0 then (bcP (vSh L l w) (wo s (lsN s) k)).2 else 0) else 0) := rfl
      cases hal : (s.testBit k && (!decide (lsN s = k) || decide (pcN s % 2 = 1)))
      · rw [hal, if_neg (by decide), Nat.add_zero] at hsm
        have hi := ih (k + 1) M g r (by omega) (by omega) hC hWr hg h70 hv h57 (fun i => by
          rw [hr i]
          constructor
          · rintro (q | ⟨q1, q2, o, q3, q4⟩)
            · exact Or.inl q
            · exact Or.inr ⟨q1, q2, o, by omega, q4⟩
          · rintro (q | ⟨q1, q2, o, q3, q4⟩)
            · exact Or.inl q
            · refine Or.inr ⟨q1, q2, o, ?_, q4⟩
              by_cases z : o = k
              · subst z
                have := (prA_b.mp q4.1).1
                rw [hal] at this; cases this
              · omega)
        rw [hsm] at hi
        rw [ifF]
        unfold fX8_seenWays_L180
        rw [bve, ad1]
        exact hi
      · have hbk : s.testBit k = true := by
          cases hb : s.testBit k
          · rw [hb] at hal; cases hal
          · rfl
        -- the mates are told
        have w2 : ∃ M2, RLn M2 58 (sMt L (uf (uf g (lsN s) (if k = lsN s then 0 else k + 1)) k (if k = lsN s then 0 else lsN s + 1))) ∧ FRS M M2 ∧ M2 57 12 = nI r ∧ (bd (fX8_at (nI (lsN s)) 4 M) fun r10 M9 => (if nI k = nI (lsN s) then (fX8_seenWays_L129 self (fX8_seenWays_L85 self m) (nI ss) (nI s) (mI xx) (nI (lsN s)) (nI (if c = true then smP (vSh L l w) s k else 0)) (nI k) (-1) r10 M9) else (fX8_seenWays_L129 self (fX8_seenWays_L85 self m) (nI ss) (nI s) (mI xx) (nI (lsN s)) (nI (if c = true then smP (vSh L l w) s k else 0)) (nI k) (nI k) r10 M9))) = (bd (self (nI ss) (nI (wo s (lsN s) k)) (mI xx) M2) fun r17 M16 => (bv (nI (if c = true then smP (vSh L l w) s k else 0) + r17) fun v18 => (fX8_seenWays_L180 self (fX8_seenWays_L85 self m) (nI ss) (nI s) (mI xx) (nI (lsN s)) v18 (nI k) M16))) := by
          have d1 := rl_Mt hC l2 (if k = lsN s then 0 else k + 1)
          have d2 := rl_Mt d1 (show k < 8 by omega) (if k = lsN s then 0 else lsN s + 1)
          refine ⟨_, d2, FRS.w58.tr FRS.w58, by rw [wr_n _ _ _ _ (by decide), wr_n _ _ _ _ (by decide)]; exact h57, ?_⟩
          rw [x8_at4, bde]
          unfold fX8_seenWays_L129 fX8_seenWays_L153
          by_cases z : k = lsN s
          · rw [if_pos (by rw [z]), if_pos z, if_pos z, ck_in (by omega) (by decide), ix_nI (by omega), wme, x8_at4, bde, if_pos (by rw [z]), ck_in (by omega) (by decide), ix_nI (by omega), wme, wo_e h256 l2 (by omega)]
            rfl
          · have nz : nI k ≠ nI (lsN s) := fun q => z (nI_inj (by omega) (by omega) q)
            rw [if_neg nz, if_neg z, if_neg z, mI_s, mI_s, ck_in (by omega) (by decide), ix_nI (by omega), wme, x8_at4, bde, if_neg nz, ck_in (by omega) (by decide), ix_nI (by omega), wme, wo_e h256 l2 (by omega)]
        obtain ⟨M2, c2, f2, t2, e2⟩ := w2
        rw [ifT, e2]
        have hgk : (uf (uf g (lsN s) (if k = lsN s then 0 else k + 1)) k (if k = lsN s then 0 else lsN s + 1)) k = if k = lsN s then 0 else lsN s + 1 := by unfold uf; rw [if_pos rfl]
        have hgl : (uf (uf g (lsN s) (if k = lsN s then 0 else k + 1)) k (if k = lsN s then 0 else lsN s + 1)) (lsN s) = if k = lsN s then 0 else k + 1 := by
          unfold uf
          by_cases z : lsN s = k
          · rw [if_pos z, if_pos z.symm, if_pos z.symm]
          · rw [if_neg z, if_pos rfl]
        have hgo : ∀ x, x ≠ k → x ≠ lsN s → (uf (uf g (lsN s) (if k = lsN s then 0 else k + 1)) k (if k = lsN s then 0 else lsN s + 1)) x = g x := fun x a b => by unfold uf; rw [if_neg a, if_neg b]
        have hW2 : WFr (sMt L (uf (uf g (lsN s) (if k = lsN s then 0 else k + 1)) k (if k = lsN s then 0 else lsN s + 1))) := by
          refine wfr_mt (wfr_mt hWr ?_ ?_) ?_ ?_ <;> split <;> omega
        generalize uf (uf g (lsN s) (if k = lsN s then 0 else k + 1)) k (if k = lsN s then 0 else lsN s + 1) = G at c2 hgk hgl hgo hW2
        have hGout : ∀ x, s.testBit x = false → G x = g0 x := fun x hxs => by
          rw [hgo x (fun q => by rw [q, hbk] at hxs; cases hxs) (fun q => by rw [q, l1] at hxs; cases hxs)]
          exact hg x hxs
        have wob : ∀ x, (wo s (lsN s) k).testBit x = false ↔ (s.testBit x = false ∨ x = lsN s ∨ x = k) := fun x => by
          rw [← Bool.not_eq_true, wo_has h256, ← Bool.not_eq_true]
          constructor
          · intro q
            by_cases a : s.testBit x = true
            · by_cases b : x = lsN s
              · exact Or.inr (Or.inl b)
              · by_cases d : x = k
                · exact Or.inr (Or.inr d)
                · exact absurd ⟨a, b, d⟩ q
            · exact Or.inl a
          · rintro (q | q | q) ⟨a, b, d⟩
            · exact q a
            · exact b q
            · exact d q
        have mel : meN G (lsN s) = k := by
          unfold meN; rw [hgl]
          by_cases z : k = lsN s
          · rw [if_pos z, if_pos rfl, z]
          · rw [if_neg z, if_neg (by omega), Nat.add_sub_cancel]
        have mek : meN G k = lsN s := by
          unfold meN; rw [hgk]
          by_cases z : k = lsN s
          · rw [if_pos z, if_pos rfl, z]
          · rw [if_neg z, if_neg (by omega), Nat.add_sub_cancel]
        have meo : ∀ x, s.testBit x = false → meN G x = meN g0 x := fun x hxs => by unfold meN; rw [hGout x hxs]
        have hO2 : ouP G (gN L) (wo s (lsN s) k) := by
          intro x hxn hxw
          rcases (wob x).mp hxw with q | q | q
          · rw [hGout x q]
            rcases hO x hxn q with z | ⟨y, y1, y2, y3, y4, y5⟩
            · exact Or.inl z
            · exact Or.inr ⟨y, y1, y2, y3, by rw [hGout y y5]; exact y4, (wob y).mpr (Or.inl y5)⟩
          · rw [q, hgl]
            by_cases z : k = lsN s
            · rw [if_pos z]; exact Or.inl rfl
            · rw [if_neg z]
              exact Or.inr ⟨k, hkn, z, rfl, by rw [hgk, if_neg z], (wob k).mpr (Or.inr (Or.inr rfl))⟩
          · rw [q, hgk]
            by_cases z : k = lsN s
            · rw [if_pos z]; exact Or.inl rfl
            · rw [if_neg z]
              exact Or.inr ⟨lsN s, lN, fun a => z a.symm, rfl, by rw [hgl, if_neg z], (wob (lsN s)).mpr (Or.inr (Or.inl rfl))⟩
        have hc2 : (c && decide (vSh L l w (min (lsN s) k) (max (lsN s) k) ≠ 0)) = true ↔ goP L l w G (wo s (lsN s) k) := by
          rw [Bool.and_eq_true, decide_eq_true_eq, hc]
          unfold goP
          constructor
          · rintro ⟨⟨a1, a2⟩, a3⟩
            refine ⟨a1, fun x hxn hxw => ?_⟩
            rcases (wob x).mp hxw with q | q | q
            · rw [meo x q]; exact a2 x hxn q
            · rw [q, mel]; exact a3
            · rw [q, mek, Nat.min_comm, Nat.max_comm]; exact a3
          · rintro ⟨a1, a2⟩
            refine ⟨⟨a1, fun x hxn hxs => ?_⟩, ?_⟩
            · rw [← meo x hxs]; exact a2 x hxn ((wob x).mpr (Or.inl hxs))
            · have := a2 (lsN s) lN ((wob _).mpr (Or.inr (Or.inl rfl)))
              rw [mel] at this; exact this
        obtain ⟨M3, g3, r3, e3, c3, w3, o3, t3, b3, f3⟩ := hself k hkn hbk M2 G _ r c2 hW2 hO2 (by rw [f2.1 70 (by decide) (by decide) (by decide)]; exact h70) (fun i hi => by rw [f2.1 71 (by decide) (by decide) (by decide)]; exact hv i hi) hc2 t2
        have fz := f2.tr f3
        obtain ⟨M4, g4, r4, e4, c4, w4, o4, t4, b4, f4⟩ := ih (k + 1) M3 g3 r3 (by omega) (by omega) c3 w3 (fun x hxs => by rw [o3 x ((wob x).mpr (Or.inl hxs)), hGout x hxs]) (by rw [fz.1 70 (by decide) (by decide) (by decide)]; exact h70) (fun i hi => by rw [fz.1 71 (by decide) (by decide) (by decide)]; exact hv i hi) t3 (fun i => by
          rw [b3 i, hr i]
          have key : ((c && decide (vSh L l w (min (lsN s) k) (max (lsN s) k) ≠ 0)) = true ∧ adP (vSh L l w) (wo s (lsN s) k) G xx i) ↔ (c = true ∧ xx ≠ 0 ∧ chB (vSh L l w) s (xx - 1) (meN g0 (xx - 1)) k i) := by
            rw [Bool.and_eq_true, decide_eq_true_eq]
            unfold adP chB
            rw [prA_b (s := s) (a := lsN s) (o := k)]
            have hin : (if (wo s (lsN s) k).testBit (xx - 1) = true then prA (vSh L l w) (wo s (lsN s) k) (xx - 1) i ∧ prO (vSh L l w) (wo (wo s (lsN s) k) (xx - 1) i) else prO (vSh L l w) (wo s (lsN s) k) ∧ i = meN G (xx - 1)) ↔ (if xx - 1 = lsN s then prO (vSh L l w) (wo s (lsN s) k) ∧ i = k else if xx - 1 = k then prO (vSh L l w) (wo s (lsN s) k) ∧ i = lsN s else if s.testBit (xx - 1) = true then prA (vSh L l w) (wo s (lsN s) k) (xx - 1) i ∧ prO (vSh L l w) (wo (wo s (lsN s) k) (xx - 1) i) else prO (vSh L l w) (wo s (lsN s) k) ∧ i = meN g0 (xx - 1)) := by
              generalize xx - 1 = x
              by_cases a : x = lsN s
              · rw [if_pos a, if_neg (by rw [(wob x).mpr (Or.inr (Or.inl a))]; decide), a, mel]
              · rw [if_neg a]
                by_cases b : x = k
                · rw [if_pos b, if_neg (by rw [(wob x).mpr (Or.inr (Or.inr b))]; decide), b, mek]
                · rw [if_neg b]
                  by_cases d : s.testBit x = true
                  · rw [if_pos d, if_pos ((wo_has h256).mpr ⟨d, a, b⟩)]
                  · have d' : s.testBit x = false := by simpa using d
                    rw [if_neg d, if_neg (by rw [(wob x).mpr (Or.inl d')]; decide), meo x d']
            rw [hin, hal]
            constructor
            · rintro ⟨⟨q1, q2⟩, q3, q4⟩; exact ⟨q1, q3, ⟨rfl, q2⟩, q4⟩
            · rintro ⟨q1, q3, ⟨-, q2⟩, q4⟩; exact ⟨⟨q1, q2⟩, q3, q4⟩
          rw [key]
          constructor
          · rintro ((q | ⟨q1, q2, o, q3, q4⟩) | ⟨q1, q2, q3⟩)
            · exact Or.inl q
            · exact Or.inr ⟨q1, q2, o, by omega, q4⟩
            · exact Or.inr ⟨q1, q2, k, by omega, q3⟩
          · rintro (q | ⟨q1, q2, o, q3, q4⟩)
            · exact Or.inl (Or.inl q)
            · by_cases z : o = k
              · subst z; exact Or.inr ⟨q1, q2, q4⟩
              · exact Or.inl (Or.inr ⟨q1, q2, o, by omega, q4⟩))
        refine ⟨M4, g4, r4, ?_, c4, w4, o4, t4, b4, fz.tr f4⟩
        rw [← e4, e3, bde, nI_add, bve]
        unfold fX8_seenWays_L180
        rw [bve, ad1]
        have hacc : (if c = true then smP (vSh L l w) s k else 0) + (if (c && decide (vSh L l w (min (lsN s) k) (max (lsN s) k) ≠ 0)) = true then (bcP (vSh L l w) (wo s (lsN s) k)).2 else 0) = if c = true then smP (vSh L l w) s (k + 1) else 0 := by
          rw [hsm, hal, if_pos rfl]
          cases c
          · rfl
          · rw [Bool.true_and, if_pos rfl, if_pos rfl]
            by_cases z : vSh L l w (min (lsN s) k) (max (lsN s) k) = 0
            · rw [if_neg (by simp [z]), if_neg (fun q => q z)]
            · rw [if_pos (by simp [z]), if_pos z]
        rw [hacc]
theorem x8_seenWays {L : Lan} (hW : WF L) {ss l xx : Nat} {w : Nat → Int32} (hss : ss < 4) (hl : l ≤ 40) (hx : xx ≤ gN L) : ∀ (d s : Nat), s < 2 ^ gN L → pcN s < d → SWH L ss l w xx (fX8_seenWays d) s := by
  have hn := hW.1
  intro d
  induction d with
  | zero => intro s _ h; omega
  | succ d ih =>
    intro s hs hd
    have h256 := p256 hs hn
    by_cases h0 : s = 0
    · subst h0; exact x8_sw0 hW hss hl hx
    · obtain ⟨l1, l2, l3⟩ := ls_ok s h256 h0
      intro M g c r hC hWr hO h70 hv hc h57
      obtain ⟨M1, g1, r1, e1, c1, w1, o1, t1, b1, f1⟩ := x8_sw85 hW (self := fX8_seenWays d) hss hx hs h0 (fun o ho hb => ih _ (wo_pow hs hn) (by have := pc_wo h256 l1 hb; split at this <;> omega)) g hO c hc r fu 0 M g r (Nat.zero_le _) (by show _ < 2000; omega) hC hWr (fun _ _ => rfl) h70 hv h57 (fun i => ⟨fun q => Or.inl q, fun q => q.resolve_right (fun z => by obtain ⟨-, -, o, z1, -⟩ := z; omega)⟩)
      have hsum : smP (vSh L l w) s (gN L) = (bcP (vSh L l w) s).2 := by
        rw [bc_sm (vsh_01 L l w) h256 h0]
        have := smP_hi (v := vSh L l w) hs (8 - gN L)
        rw [show gN L + (8 - gN L) = 8 by omega] at this
        exact this.symm
      refine ⟨M1, g1, r1, ?_, c1, w1, o1, t1, fun i => ?_, f1⟩
      · rw [hsum] at e1
        rw [fX8_seenWays, if_neg (by rw [nI_0', lit_eq (by omega) (by omega)]; exact h0), x8_lowest M h256 h0, bde, ← e1]
        cases c <;> rfl
      · rw [b1 i]
        have key : (∃ o, o < gN L ∧ chB (vSh L l w) s (xx - 1) (meN g (xx - 1)) o i) ↔ (if s.testBit (xx - 1) = true then prA (vSh L l w) s (xx - 1) i ∧ prO (vSh L l w) (wo s (xx - 1) i) else prO (vSh L l w) s ∧ i = meN g (xx - 1)) := by
          rw [← ch_all h256 h0]
          constructor
          · rintro ⟨o, -, q⟩; exact ⟨o, q⟩
          · rintro ⟨o, q⟩; exact ⟨o, in_n hs q.1.1, q⟩
        unfold adP
        rw [key]

/-! mate -/
def fbF (v : Nat → Nat → Nat) (s : Nat) : Nat → Nat → Nat
  | 0, _ => lsN s
  | f + 1, o => if wrtN v (bcP v) s (lsN s) o = (bcP v s).1 then o else fbF v s f (o + 1)
def fbN (v : Nat → Nat → Nat) (s : Nat) : Nat := fbF v s (8 - lsN s) (lsN s)
theorem fbF_lt (v : Nat → Nat → Nat) {s : Nat} (hl : lsN s < 8) : ∀ f o, o + f = 8 → fbF v s f o < 8 := by
  intro f
  induction f with
  | zero => intro o _; exact hl
  | succ f ih =>
    intro o h
    show (if wrtN v (bcP v) s (lsN s) o = (bcP v s).1 then o else fbF v s f (o + 1)) < 8
    split
    · omega
    · exact ih _ (by omega)
theorem stp_att {v : Nat → Nat → Nat} {f : Nat → Nat × Nat} {s : Nat} : ∀ k, (stpP v f s k).1 = 0 ∨ ∃ o, o < k ∧ wrtN v f s (lsN s) o = (stpP v f s k).1 := by
  intro k
  induction k with
  | zero => exact Or.inl rfl
  | succ k ih =>
    have old : (stpP v f s k).1 = 0 ∨ ∃ o, o < k + 1 ∧ wrtN v f s (lsN s) o = (stpP v f s k).1 := by
      rcases ih with h | ⟨o, h1, h2⟩
      · exact Or.inl h
      · exact Or.inr ⟨o, by omega, h2⟩
    simp only [stpP]
    split
    · exact Or.inr ⟨k, by omega, rfl⟩
    · split
      · exact old
      · exact old
theorem x2_fb2 {M : Mem} {v : Nat → Nat → Nat} {n s : Nat} (hv : VB v) (hV : VAL M v n) (hn : n ≤ 8) (hs : s < 2 ^ n) (h0 : s ≠ 0) (hT : TBL M (bcP v) (2 ^ n)) : ∀ (f m o : Nat), o + f = 8 → f < m → fX2_firstBest_L2 m (nI s) (nI (lsN s)) (nI o) M = some (nI (fbF v s f o), M) := by
  have h256 := p256 hs hn
  obtain ⟨l1, l2, l3⟩ := ls_ok s h256 h0
  have hbs := bc_le hv (s + 1) s (by omega) h256
  have hbc : ∀ t, t < s → (bcP v t).1 ≤ 100 * t + 1 := fun t ht => bc_le hv (t + 1) t (by omega) (by omega)
  intro f
  induction f with
  | zero =>
    intro m o ho hm
    obtain ⟨m, rfl⟩ : ∃ z, m = z + 1 := ⟨m - 1, by omega⟩
    rw [fX2_firstBest_L2, if_pos (by rw [show (8 : Int32) = nI 8 from rfl, lit_le (by omega) (by omega)]; omega)]
    rfl
  | succ f ih =>
    intro m o ho hm
    obtain ⟨m, rfl⟩ : ∃ z, m = z + 1 := ⟨m - 1, by omega⟩
    have hw := x2_worth (o := o) hv hV hn hs l1 (by omega) (fun t ht => hT t (by omega))
    have hwl := wrt_le (o := o) hv h256 l1 hbc
    have heq := mI_eqM (a := wrtN v (bcP v) s (lsN s) o) (b := (bcP v s).1) (by omega) (by omega)
    rw [fX2_firstBest_L2, if_neg (by rw [show (8 : Int32) = nI 8 from rfl, lit_le (by omega) (by omega)]; omega), hw, bde, ck_in h256 (by decide), ix_nI (by omega), (hT s hs).1]
    show _ = some (nI (if wrtN v (bcP v) s (lsN s) o = (bcP v s).1 then o else fbF v s f (o + 1)), M)
    by_cases c : wrtN v (bcP v) s (lsN s) o = (bcP v s).1
    · rw [if_pos (by rw [heq]; exact c), if_pos c]
    · rw [if_neg (by rw [heq]; exact c), if_neg c, bve, ad1]
      exact ih m (o + 1) (by omega) (by omega)
/-- the mate of x among s, coded -/
def maF (v : Nat → Nat → Nat) (x : Nat) : Nat → Nat → Nat
  | 0, _ => 0
  | f + 1, s => if s = 0 then 0 else if lsN s = x then (if fbN v s = lsN s then 0 else fbN v s + 1) else if fbN v s = x then lsN s + 1 else maF v x f (wo s (lsN s) (fbN v s))
theorem wo_pow {s a b n : Nat} (hs : s < 2 ^ n) (hn : n ≤ 8) : wo s a b < 2 ^ n := by
  have : wo s a b &&& s = wo s a b := by
    apply Nat.eq_of_testBit_eq
    intro i
    rw [Nat.testBit_and, wo_tb]
    cases decide (i < 8) <;> cases s.testBit i <;> simp
  rw [← this]
  exact Nat.lt_of_le_of_lt Nat.and_le_right hs
theorem x2_fm13 {M : Mem} {v : Nat → Nat → Nat} {n x : Nat} (hv : VB v) (hV : VAL M v n) (hn : n ≤ 8) (hx : x < 8) (hT : TBL M (bcP v) (2 ^ n)) : ∀ (f m i s : Nat), i + f = 8 → f < m → s < 2 ^ n → fX2_firstMateOf_L13 m (nI x) (nI s) (nI i) M = some (mI (maF v x f s), M) := by
  intro f
  induction f with
  | zero =>
    intro m i s hi hm hs
    obtain ⟨m, rfl⟩ : ∃ z, m = z + 1 := ⟨m - 1, by omega⟩
    rw [fX2_firstMateOf_L13, if_pos (by rw [show (8 : Int32) = nI 8 from rfl, lit_le (by omega) (by omega)]; omega)]
    rfl
  | succ f ih =>
    intro m i s hi hm hs
    obtain ⟨m, rfl⟩ : ∃ z, m = z + 1 := ⟨m - 1, by omega⟩
    have h256 := p256 hs hn
    rw [fX2_firstMateOf_L13, if_neg (by rw [show (8 : Int32) = nI 8 from rfl, lit_le (by omega) (by omega)]; omega)]
    show _ = some (mI (if s = 0 then 0 else if lsN s = x then (if fbN v s = lsN s then 0 else fbN v s + 1) else if fbN v s = x then lsN s + 1 else maF v x f (wo s (lsN s) (fbN v s))), M)
    by_cases h0 : s = 0
    · rw [if_pos (by rw [h0]; rfl), if_pos h0]; rfl
    · obtain ⟨l1, l2, l3⟩ := ls_ok s h256 h0
      have hf8 : fbN v s < 8 := fbF_lt v l2 _ _ (by omega)
      have hfb : fX2_firstBest (nI s) (nI (lsN s)) M = some (nI (fbN v s), M) := x2_fb2 hv hV hn hs h0 hT (8 - lsN s) fu (lsN s) (by omega) (by show _ < 2000; omega)
      rw [if_neg (by rw [nI_0', lit_eq (by omega) (by omega)]; exact h0), if_neg h0, x2_leastOf M h256 h0, bde, hfb, bde]
      by_cases c : lsN s = x
      · rw [if_pos (by rw [c]), if_pos c]
        by_cases d : fbN v s = lsN s
        · rw [if_pos (by rw [d]), if_pos d]; rfl
        · rw [if_neg (by rw [lit_eq (by omega) (by omega)]; exact d), if_neg d, mI_s]
      · rw [if_neg (by rw [lit_eq (by omega) (by omega)]; exact c), if_neg c]
        by_cases d : fbN v s = x
        · rw [if_pos (by rw [d]), if_pos d, mI_s]
        · rw [if_neg (by rw [lit_eq (by omega) (by omega)]; exact d), if_neg d, x2_without M h256 l2 hf8, bde, bve, ad1]
          exact ih m (i + 1) _ (by omega) (by omega) (wo_pow hs hn)
theorem x8_ma56 {k40 : Int32 → Int32 → Int32 → Mem → Option (Int32 × Mem)} {M : Mem} {L : Lan} {s x : Nat} (hC : RLn M 58 L) (hW : WF L) (hs : s < 2 ^ gN L) (h0 : s ≠ 0) (hT : RTB M (bcP (vAg L)) (2 ^ gN L)) : ∀ (f m o : Nat), o + f = 8 → f < m → (∃ q, o ≤ q ∧ q < 8 ∧ wrtN (vAg L) (bcP (vAg L)) s (lsN s) q = (bcP (vAg L) s).1) →
    fX8_mate_L56 k40 m (nI x) (nI s) (nI (lsN s)) (nI o) M = (if nI (lsN s) = nI x then (if nI (fbF (vAg L) s f o) = nI (lsN s) then fX8_mate_L123 k40 (nI x) (nI s) (nI (lsN s)) (nI (fbF (vAg L) s f o)) (-1) M else fX8_mate_L123 k40 (nI x) (nI s) (nI (lsN s)) (nI (fbF (vAg L) s f o)) (nI (fbF (vAg L) s f o)) M) else (if nI (fbF (vAg L) s f o) = nI x then fX8_mate_L123 k40 (nI x) (nI s) (nI (lsN s)) (nI (fbF (vAg L) s f o)) (nI (lsN s)) M else fX8_mate_L123 k40 (nI x) (nI s) (nI (lsN s)) (nI (fbF (vAg L) s f o)) (-2) M)) := by
  have hn := hW.1
  have h256 := p256 hs hn
  obtain ⟨l1, l2, l3⟩ := ls_ok s h256 h0
  have hv := vb_ag L
  have hbs := bc_le hv (s + 1) s (by omega) h256
  have hbn := bc_ne (vag_ne L) (s + 1) s (by omega) h256
  have hbc : ∀ t, t < s → (bcP (vAg L) t).1 ≤ 100 * t + 1 := fun t ht => bc_le hv (t + 1) t (by omega) (by omega)
  intro f
  induction f with
  | zero => intro m o ho _ ⟨q, q1, q2, _⟩; omega
  | succ f ih =>
    intro m o ho hm hq
    obtain ⟨m, rfl⟩ : ∃ z, m = z + 1 := ⟨m - 1, by omega⟩
    have hfb : fbF (vAg L) s (f + 1) o = if wrtN (vAg L) (bcP (vAg L)) s (lsN s) o = (bcP (vAg L) s).1 then o else fbF (vAg L) s f (o + 1) := rfl
    have hwl := wrt_le (o := o) hv h256 l1 hbc
    have heq := mI_eqM (a := wrtN (vAg L) (bcP (vAg L)) s (lsN s) o) (b := (bcP (vAg L) s).1) (by omega) (by omega)
    have l82 : fX8_mate_L82 (fX8_mate_L56 k40 m) (nI x) (nI s) (nI (lsN s)) (nI o) M = fX8_mate_L56 k40 m (nI x) (nI s) (nI (lsN s)) (nI (o + 1)) M := by
      unfold fX8_mate_L82; rw [bve, ad1]
    have next : ¬ wrtN (vAg L) (bcP (vAg L)) s (lsN s) o = (bcP (vAg L) s).1 → ∃ q, o + 1 ≤ q ∧ q < 8 ∧ wrtN (vAg L) (bcP (vAg L)) s (lsN s) q = (bcP (vAg L) s).1 := by
      intro hne
      obtain ⟨q, q1, q2, q3⟩ := hq
      refine ⟨q, ?_, q2, q3⟩
      rcases Nat.lt_or_ge o q with w | w
      · exact w
      · have : q = o := by omega
        subst this
        exact absurd q3 hne
    rw [fX8_mate_L56, x8_mayBe M h256 h0 (by omega), bde, hfb]
    cases hal : (s.testBit o && (!decide (lsN s = o) || decide (pcN s % 2 = 1)))
    · have hw : wrtN (vAg L) (bcP (vAg L)) s (lsN s) o = 0 := by
        unfold wrtN
        rw [hal, if_neg (by decide)]
      have hne : ¬ wrtN (vAg L) (bcP (vAg L)) s (lsN s) o = (bcP (vAg L) s).1 := by rw [hw]; exact fun q => hbn q.symm
      rw [ifF, l82, if_neg hne]
      exact ih m (o + 1) (by omega) (by omega) (next hne)
    · have hbk : s.testBit o = true := by
        cases hb : s.testBit o
        · rw [hb] at hal; cases hal
        · rfl
      have hmw := x8_mostWith hC hW hs h0 hbk hal (fun t ht => hT t (by omega))
      rw [ifT, hmw, bde, ck_in h256 (by decide), ix_nI (by omega), (hT s hs).1]
      by_cases c : wrtN (vAg L) (bcP (vAg L)) s (lsN s) o = (bcP (vAg L) s).1
      · rw [if_pos (by rw [heq]; exact c), if_pos c]
      · rw [if_neg (by rw [heq]; exact c), if_neg c, l82]
        exact ih m (o + 1) (by omega) (by omega) (next c)

/-! pairings: whom one may have, whatever the order in which the others are paired -/
theorem cn_rm {f : Nat → Bool} {a : Nat} (hf : f a = true) : ∀ n, a < n → cnN (fun i => f i && !decide (i = a)) n + 1 = cnN f n := by
  intro n
  induction n with
  | zero => intro h; omega
  | succ n ih =>
    intro h
    show (cnN (fun i => f i && !decide (i = a)) n + if (f n && !decide (n = a)) = true then 1 else 0) + 1 = cnN f n + if f n = true then 1 else 0
    by_cases e : n = a
    · subst e
      have : cnN (fun i => f i && !decide (i = n)) n = cnN f n := cnN_congr (fun k hk => by rw [decide_eq_false (by omega)]; simp)
      rw [this, hf, decide_eq_true rfl]
      rfl
    · have := ih (by omega)
      rw [decide_eq_false e, Bool.not_false, Bool.and_true]
      omega
theorem pc_wo {s a b : Nat} (hs : s < 256) (ha : s.testBit a = true) (hb : s.testBit b = true) : pcN (wo s a b) + (if a = b then 1 else 2) = pcN s := by
  have a8 : a < 8 := Nat.lt_of_not_le (fun h => by rw [tb_8 hs h] at ha; cases ha)
  have b8 : b < 8 := Nat.lt_of_not_le (fun h => by rw [tb_8 hs h] at hb; cases hb)
  have e1 : pcN (wo s a b) = cnN (fun i => (s.testBit i && !decide (i = a)) && !decide (i = b)) 16 := by
    unfold pcN
    apply cnN_congr
    intro k _
    rw [wo_tb, Bool.and_assoc]
    by_cases h : k < 8
    · rw [decide_eq_true h, Bool.true_and]
    · rw [tb_8 hs (by omega)]; simp
  have e2 := cn_rm (f := s.testBit) ha 16 (by omega)
  by_cases c : a = b
  · subst c
    rw [if_pos rfl, e1]
    have : cnN (fun i => (s.testBit i && !decide (i = a)) && !decide (i = a)) 16 = cnN (fun i => s.testBit i && !decide (i = a)) 16 := cnN_congr (fun k _ => by rw [Bool.and_assoc, Bool.and_self])
    rw [this]
    exact e2
  · rw [if_neg c, e1]
    have e3 := cn_rm (f := fun i => s.testBit i && !decide (i = a)) (a := b) (by show (s.testBit b && !decide (b = a)) = true; rw [hb, decide_eq_false (fun q => c q.symm)]; rfl) 16 (by omega)
    have e4 : cnN s.testBit 16 = pcN s := rfl
    omega
theorem wo_sym (s a b : Nat) : wo s a b = wo s b a := by
  apply Nat.eq_of_testBit_eq
  intro i
  rw [wo_tb, wo_tb, Bool.and_comm (!decide (i = a))]
theorem wo_comm (s a r b q : Nat) : wo (wo s a r) b q = wo (wo s b q) a r := by
  apply Nat.eq_of_testBit_eq
  intro i
  rw [wo_tb, wo_tb, wo_tb, wo_tb]
  cases decide (i < 8) <;> cases s.testBit i <;> cases decide (i = a) <;> cases decide (i = r) <;> cases decide (i = b) <;> cases decide (i = q) <;> rfl
theorem wo_has {s a b i : Nat} (hs : s < 256) : ((wo s a b).testBit i = true) ↔ (s.testBit i = true ∧ i ≠ a ∧ i ≠ b) := by
  rw [wo_tb]
  by_cases h : i < 8
  · rw [decide_eq_true h]; simp
  · rw [tb_8 hs (by omega)]; simp
/-- these two may be a pair of this set -/
def prA (v : Nat → Nat → Nat) (s a o : Nat) : Prop := s.testBit o = true ∧ (a ≠ o ∨ pcN s % 2 = 1) ∧ v (min a o) (max a o) ≠ 0
/-- this set can be paired -/
def prO (v : Nat → Nat → Nat) (s : Nat) : Prop := (bcP v s).1 ≠ 0
theorem prA_b {v : Nat → Nat → Nat} {s a o : Nat} : prA v s a o ↔ ((s.testBit o && (!decide (a = o) || decide (pcN s % 2 = 1))) = true ∧ v (min a o) (max a o) ≠ 0) := by
  unfold prA
  simp only [Bool.and_eq_true, Bool.or_eq_true, Bool.not_eq_true', decide_eq_false_iff_not, decide_eq_true_eq, and_assoc, ne_eq]
theorem wrt_pos {v : Nat → Nat → Nat} {s a o : Nat} : wrtN v (bcP v) s a o ≠ 0 ↔ prA v s a o ∧ prO v (wo s a o) := by
  rw [prA_b]
  unfold wrtN prO
  by_cases h1 : (s.testBit o && (!decide (a = o) || decide (pcN s % 2 = 1))) = true
  · rw [if_pos h1]
    by_cases h2 : v (min a o) (max a o) = 0
    · rw [if_pos h2]; simp [h2]
    · rw [if_neg h2]
      by_cases h3 : (bcP v (wo s a o)).1 = 0
      · rw [if_pos h3]; simp [h3]
      · rw [if_neg h3]
        constructor
        · intro _; exact ⟨⟨h1, h2⟩, h3⟩
        · intro _; omega
  · rw [if_neg h1]
    constructor
    · intro h; exact absurd rfl h
    · intro h; exact absurd h.1.1 h1
theorem tb_lt8 {s i : Nat} (hs : s < 256) (h : s.testBit i = true) : i < 8 := Nat.lt_of_not_le (fun q => by rw [tb_8 hs q] at h; cases h)
theorem ok_iff {v : Nat → Nat → Nat} {s : Nat} (hs : s < 256) (h0 : s ≠ 0) : prO v s ↔ ∃ o, prA v s (lsN s) o ∧ prO v (wo s (lsN s) o) := by
  constructor
  · intro h
    unfold prO at h
    rw [bc_s v hs h0] at h
    rcases stp_att (v := v) (f := bcP v) (s := s) 8 with z | ⟨o, o1, o2⟩
    · exact absurd z h
    · exact ⟨o, wrt_pos.mp (by rw [o2]; exact h)⟩
  · rintro ⟨o, ho⟩
    have h1 := wrt_pos.mpr ho
    have h2 := stp_ge (v := v) (f := bcP v) (s := s) (o := o) (tb_lt8 hs ho.1.1)
    unfold prO
    rw [bc_s v hs h0]
    omega
theorem prA_sym {v : Nat → Nat → Nat} {s a o : Nat} (h : prA v s a o) (ha : s.testBit a = true) : prA v s o a := by
  obtain ⟨h1, h2, h3⟩ := h
  refine ⟨ha, ?_, ?_⟩
  · rcases h2 with q | q
    · exact Or.inl (fun e => q e.symm)
    · exact Or.inr q
  · rw [Nat.min_comm, Nat.max_comm]; exact h3
theorem swapA {v : Nat → Nat → Nat} {s a b r q : Nat} (hs : s < 256) (ha : s.testBit a = true) (hb : s.testBit b = true) (hab : a ≠ b) (hbr : b ≠ r) (h1 : prA v s a r) (h2 : prA v (wo s a r) b q) : prA v s b q ∧ prA v (wo s b q) a r ∧ a ≠ q ∧ r ≠ q := by
  obtain ⟨x1, x2, x3⟩ := h1
  obtain ⟨y1, y2, y3⟩ := h2
  obtain ⟨z1, z2, z3⟩ := (wo_has hs).mp y1
  have p1 := pc_wo hs ha x1
  have p2 := pc_wo hs hb z1
  refine ⟨⟨z1, ?_, y3⟩, ⟨(wo_has hs).mpr ⟨x1, fun e => hbr e.symm, fun e => z3 e.symm⟩, ?_, x3⟩, fun e => z2 e.symm, fun e => z3 e.symm⟩
  · by_cases c : b = q
    · refine Or.inr ?_
      rcases y2 with w | w
      · exact absurd c w
      · by_cases d : a = r
        · rcases x2 with u | u
          · exact absurd d u
          · exact u
        · rw [if_neg d] at p1; omega
    · exact Or.inl c
  · by_cases d : a = r
    · refine Or.inr ?_
      rw [if_pos d] at p1
      have u : pcN s % 2 = 1 := by
        rcases x2 with u | u
        · exact absurd d u
        · exact u
      by_cases c : b = q
      · rcases y2 with w | w
        · exact absurd c w
        · omega
      · rw [if_neg c] at p2; omega
    · exact Or.inl d
theorem exch {v : Nat → Nat → Nat} : ∀ (k s : Nat), s < k → s < 256 → ∀ a b, s.testBit a = true → s.testBit b = true → (∃ o, prA v s a o ∧ prO v (wo s a o)) → ∃ o, prA v s b o ∧ prO v (wo s b o) := by
  intro k
  induction k with
  | zero => intro s h; omega
  | succ k ih =>
    rintro s hk hs a b ha hb ⟨r, h1, h2⟩
    by_cases hab : a = b
    · subst hab; exact ⟨r, h1, h2⟩
    by_cases hbr : b = r
    · subst hbr
      exact ⟨a, prA_sym h1 ha, by rw [wo_sym]; exact h2⟩
    · have ht := wo_lt s a r
      have htl := wo_less (b := r) hs ha
      have hbt : (wo s a r).testBit b = true := (wo_has hs).mpr ⟨hb, fun e => hab e.symm, hbr⟩
      have t0 : wo s a r ≠ 0 := fun e => by rw [e, Nat.zero_testBit] at hbt; cases hbt
      obtain ⟨q, q1, q2⟩ := ih (wo s a r) (by omega) ht _ b (ls_ok _ ht t0).1 hbt ((ok_iff ht t0).mp h2)
      obtain ⟨y1, y2, y3, y4⟩ := swapA hs ha hb hab hbr h1 q1
      refine ⟨q, y1, ?_⟩
      have hu := wo_lt s b q
      have hul := wo_less (b := q) hs hb
      have hau : (wo s b q).testBit a = true := (wo_has hs).mpr ⟨ha, hab, y3⟩
      have u0 : wo s b q ≠ 0 := fun e => by rw [e, Nat.zero_testBit] at hau; cases hau
      exact (ok_iff hu u0).mpr (ih (wo s b q) (by omega) hu a _ hau (ls_ok _ hu u0).1 ⟨r, y2, by rw [← wo_comm]; exact q2⟩)
theorem ok_any {v : Nat → Nat → Nat} {s a : Nat} (hs : s < 256) (ha : s.testBit a = true) : prO v s ↔ ∃ o, prA v s a o ∧ prO v (wo s a o) := by
  have s0 : s ≠ 0 := fun e => by rw [e, Nat.zero_testBit] at ha; cases ha
  have hl := (ls_ok s hs s0).1
  constructor
  · intro h; exact exch (s + 1) s (by omega) hs _ a hl ha ((ok_iff hs s0).mp h)
  · intro h; exact (ok_iff hs s0).mpr (exch (s + 1) s (by omega) hs a _ ha hl h)
/-- whom x may have, as told by whom the least one has -/
def chB (v : Nat → Nat → Nat) (s x m o i : Nat) : Prop := prA v s (lsN s) o ∧ (if x = lsN s then prO v (wo s (lsN s) o) ∧ i = o else if x = o then prO v (wo s (lsN s) o) ∧ i = lsN s else if s.testBit x = true then prA v (wo s (lsN s) o) x i ∧ prO v (wo (wo s (lsN s) o) x i) else prO v (wo s (lsN s) o) ∧ i = m)
theorem ch_all {v : Nat → Nat → Nat} {s x m i : Nat} (hs : s < 256) (h0 : s ≠ 0) : (∃ o, chB v s x m o i) ↔ (if s.testBit x = true then prA v s x i ∧ prO v (wo s x i) else prO v s ∧ i = m) := by
  obtain ⟨l1, l2, l3⟩ := ls_ok s hs h0
  unfold chB
  by_cases hx : s.testBit x = true
  · rw [if_pos hx]
    by_cases xl : x = lsN s
    · subst xl
      constructor
      · rintro ⟨o, h1, h2⟩
        rw [if_pos rfl] at h2
        rw [h2.2]; exact ⟨h1, h2.1⟩
      · rintro ⟨h1, h2⟩
        exact ⟨i, h1, by rw [if_pos rfl]; exact ⟨h2, rfl⟩⟩
    · constructor
      · rintro ⟨o, h1, h2⟩
        rw [if_neg xl] at h2
        by_cases xo : x = o
        · subst xo
          rw [if_pos rfl] at h2
          rw [h2.2]
          exact ⟨prA_sym h1 l1, by rw [wo_sym]; exact h2.1⟩
        · rw [if_neg xo, if_pos hx] at h2
          obtain ⟨y1, y2, y3, y4⟩ := swapA hs l1 hx (fun e => xl e.symm) xo h1 h2.1
          refine ⟨y1, ?_⟩
          have hu := wo_lt s x i
          have hau : (wo s x i).testBit (lsN s) = true := (wo_has hs).mpr ⟨l1, fun e => xl e.symm, y3⟩
          exact (ok_any hu hau).mpr ⟨o, y2, by rw [← wo_comm]; exact h2.2⟩
      · rintro ⟨h1, h2⟩
        by_cases il : i = lsN s
        · refine ⟨x, ?_, ?_⟩
          · rw [← il]; exact prA_sym h1 hx
          · rw [if_neg xl, if_pos rfl, wo_sym, ← il]; exact ⟨h2, rfl⟩
        · have hu := wo_lt s x i
          have hau : (wo s x i).testBit (lsN s) = true := (wo_has hs).mpr ⟨l1, fun e => xl e.symm, fun e => il e.symm⟩
          obtain ⟨o, q1, q2⟩ := (ok_any hu hau).mp h2
          obtain ⟨y1, y2, y3, y4⟩ := swapA hs hx l1 xl (fun e => il e.symm) h1 q1
          refine ⟨o, y1, ?_⟩
          rw [if_neg xl, if_neg y3, if_pos hx]
          exact ⟨y2, by rw [← wo_comm]; exact q2⟩
  · rw [if_neg hx]
    have xl : x ≠ lsN s := fun e => hx (by rw [e]; exact l1)
    constructor
    · rintro ⟨o, h1, h2⟩
      have xo : x ≠ o := fun e => hx (by rw [e]; exact h1.1)
      rw [if_neg xl, if_neg xo, if_neg hx] at h2
      exact ⟨(ok_iff hs h0).mpr ⟨o, h1, h2.1⟩, h2.2⟩
    · rintro ⟨h1, h2⟩
      obtain ⟨o, q1, q2⟩ := (ok_iff hs h0).mp h1
      have xo : x ≠ o := fun e => hx (by rw [e]; exact q1.1)
      exact ⟨o, q1, by rw [if_neg xl, if_neg xo, if_neg hx]; exact ⟨q2, h2⟩⟩
/-- how many pairings, summed -/
def smP (v : Nat → Nat → Nat) (s : Nat) : Nat → Nat
  | 0 => 0
  | k + 1 => smP v s k + (if (s.testBit k && (!decide (lsN s = k) || decide (pcN s % 2 = 1))) = true then (if v (min (lsN s) k) (max (lsN s) k) ≠ 0 then (bcP v (wo s (lsN s) k)).2 else 0) else 0)
theorem stp_01 {v : Nat → Nat → Nat} (hv : ∀ p q, v p q ≤ 1) {s : Nat} (hf : ∀ o, (bcP v (wo s (lsN s) o)).1 ≤ 1 ∧ ((bcP v (wo s (lsN s) o)).1 = 0 → (bcP v (wo s (lsN s) o)).2 = 0)) : ∀ k, (stpP v (bcP v) s k).1 ≤ 1 ∧ ((stpP v (bcP v) s k).1 = 0 → (stpP v (bcP v) s k).2 = 0) ∧ (stpP v (bcP v) s k).2 = smP v s k := by
  intro k
  induction k with
  | zero => exact ⟨Nat.zero_le _, fun _ => rfl, rfl⟩
  | succ k ih =>
    obtain ⟨i1, i2, i3⟩ := ih
    obtain ⟨f1, f2⟩ := hf k
    have hv1 := hv (min (lsN s) k) (max (lsN s) k)
    simp only [stpP, smP]
    rw [← i3]
    unfold wrtN
    generalize (stpP v (bcP v) s k) = P at *
    generalize bcP v (wo s (lsN s) k) = F at *
    generalize v (min (lsN s) k) (max (lsN s) k) = c at *
    by_cases h1 : (s.testBit k && (!decide (lsN s = k) || decide (pcN s % 2 = 1))) = true
    · rw [if_pos h1, if_pos h1]
      by_cases h2 : c = 0
      · simp only [if_pos h2]
        rw [if_neg (Nat.not_lt_zero _), if_neg (fun q => q.1 rfl), if_neg (fun q => q h2)]
        exact ⟨i1, i2, rfl⟩
      · simp only [if_neg h2]
        rw [if_pos h2]
        by_cases h3 : F.1 = 0
        · simp only [if_pos h3]
          rw [if_neg (Nat.not_lt_zero _), if_neg (fun q => q.1 rfl), f2 h3]
          exact ⟨i1, i2, rfl⟩
        · simp only [if_neg h3]
          have hw : c + F.1 - 1 = 1 := by omega
          rw [hw]
          by_cases h4 : P.1 < 1
          · rw [if_pos h4, i2 (by omega)]
            refine ⟨Nat.le_refl _, fun q => ?_, by show F.2 = 0 + F.2; omega⟩
            exact absurd q Nat.one_ne_zero
          · rw [if_neg h4, if_pos ⟨by decide, by omega⟩]
            exact ⟨i1, fun q => by exfalso; have q : P.1 = 0 := q; omega, rfl⟩
    · rw [if_neg h1, if_neg h1, if_neg (Nat.not_lt_zero _), if_neg (fun q => q.1 rfl)]
      exact ⟨i1, i2, rfl⟩
theorem bc_01 {v : Nat → Nat → Nat} (hv : ∀ p q, v p q ≤ 1) : ∀ (k s : Nat), s < k → s < 256 → (bcP v s).1 ≤ 1 ∧ ((bcP v s).1 = 0 → (bcP v s).2 = 0) := by
  intro k
  induction k with
  | zero => intro s h; omega
  | succ k ih =>
    intro s hk hs
    by_cases h0 : s = 0
    · subst h0
      rw [bc_0]
      exact ⟨Nat.le_refl _, fun q => absurd q (by decide)⟩
    · obtain ⟨l1, -, -⟩ := ls_ok s hs h0
      have h := stp_01 hv (s := s) (fun o => ih _ (by have := wo_less (b := o) hs l1; omega) (wo_lt _ _ _)) 8
      rw [bc_s v hs h0]
      exact ⟨h.1, h.2.1⟩
theorem bc_sm {v : Nat → Nat → Nat} (hv : ∀ p q, v p q ≤ 1) {s : Nat} (hs : s < 256) (h0 : s ≠ 0) : (bcP v s).2 = smP v s 8 := by
  rw [bc_s v hs h0]
  exact (stp_01 hv (s := s) (fun o => bc_01 hv 256 _ (wo_lt _ _ _) (wo_lt _ _ _)) 8).2.2
theorem smP_hi {v : Nat → Nat → Nat} {s n : Nat} (hs : s < 2 ^ n) : ∀ d, smP v s (n + d) = smP v s n := by
  intro d
  induction d with
  | zero => rfl
  | succ d ih =>
    show smP v s (n + d) + (if (s.testBit (n + d) && (!decide (lsN s = n + d) || decide (pcN s % 2 = 1))) = true then (if v (min (lsN s) (n + d)) (max (lsN s) (n + d)) ≠ 0 then (bcP v (wo s (lsN s) (n + d))).2 else 0) else 0) = _
    have : s.testBit (n + d) = false := Nat.testBit_lt_two_pow (Nat.lt_of_lt_of_le hs (Nat.pow_le_pow_right (by decide) (by omega)))
    rw [ih, this]
    rfl

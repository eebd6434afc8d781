/-! texts: words -/
def slC (k : Nat) : Nat := slen.getD k 0
theorem sl_le : ∀ k, k < 13 → slC k ≤ 8 := by decide +kernel
theorem j0_len {k : Nat} (M : Mem) (hk : k < 13) : fJ0_length_8abf5 k M = some (nI (slC k), M) := by
  have h : shr (slN k) 0 = nI (slC k) := by
    have : ∀ k, k < 13 → shr (slN k) 0 = nI (slC k) := by decide +kernel
    exact this k hk
  unfold fJ0_length_8abf5 fJ0_coder_7d493
  rw [if_neg (by decide), ck_b0, bde, h]
theorem ch_ok : ∀ k, k < 13 → ∀ i, i < slC k → isc (i2c ((sby k i) &&& 255)) = true ∧ i2c ((sby k i) &&& 255) = sby k i := by decide +kernel
theorem j0_char {k i : Nat} (M : Mem) (hk : k < 13) (hi : i < slC k) : fJ0_charAt_5068e k (nI i) M = some (sby k i, M) := by
  have hl := sl_le k hk
  obtain ⟨h1, h2⟩ := ch_ok k hk i hi
  have hs : slN k = nI (slC k) := rfl
  have hin : inb (nI i) (slen.getD k 0) = true := decide_eq_true (nI_in hi (by show slC k < 2 ^ 31; omega))
  have hc : isc (sby k i) = true := by rw [← h2]; exact h1
  unfold fJ0_charAt_5068e fJ0_isLatin1_aae02 fJ1_charAt_3b067 fJ0_checkIndex_df160 fJ3_checkIndex_8e157
  rw [if_neg (by decide), if_pos rfl, ck_b1, bde, if_neg (by decide), if_neg (nI_pos (by omega)), hs, if_pos (by rw [lit_lt (by omega) (by omega)]; exact hi), bde, bde, ck_t hin, ix_nI (by omega), ck_t h1, bde, h2, ck_t hc]
/-- the token is this word -/
def wdB (t : Nat → Nat) (n p k : Nat) : Bool := decide (tyN t n p = 1 ∧ enN t n p - p = slC k ∧ ∀ i, i < slC k → nI (t (p + i)) = sby k i)
theorem wd_t {t : Nat → Nat} {n p k : Nat} : wdB t n p k = true ↔ (tyN t n p = 1 ∧ enN t n p - p = slC k ∧ ∀ i, i < slC k → nI (t (p + i)) = sby k i) := decide_eq_true_iff
theorem wd_0 {t : Nat → Nat} {n p k : Nat} (h : ¬ (tyN t n p = 1 ∧ enN t n p - p = slC k ∧ ∀ i, i < slC k → nI (t (p + i)) = sby k i)) : wdB t n p k = false := decide_eq_false h
/-- the class stands at a token -/
def CPT (M : Mem) (t : Nat → Nat) (n p : Nat) : Prop := tkP t n p ∧ M 33 7 = nI (rkN t n p) ∧ TOK M t n ∧ TPC M t n
theorem rk_120 {t : Nat → Nat} {n p : Nat} (h : tkP t n p) (hn : n ≤ 120) : rkN t n p ≤ 120 := by
  have := rk_le t n p
  have := tk_le h
  omega
theorem x3_isNext {M : Mem} {t : Nat → Nat} {n p y : Nat} (h : CPT M t n p) (hy : y < 10) : fX3_isNext (nI y) M = some (bI (decide (tyN t n p = y)), M) := by
  obtain ⟨h0, h1, h2, h3⟩ := h
  have hr := rk_120 h0 h3.2.2.1
  have ht := ty_le t n p
  unfold fX3_isNext
  rw [h1, ck_in (by omega) (by decide), ix_nI (by omega), (h2.2 p h0).1]
  by_cases c : tyN t n p = y
  · rw [if_pos (by rw [c]), ck_b1, decide_eq_true c]; rfl
  · rw [if_neg (by rw [lit_eq (by omega) (by omega)]; exact c), ck_b0, decide_eq_false c]; rfl
theorem x3_iw38 {M : Mem} {t : Nat → Nat} {n p k : Nat} (h : CPT M t n p) (hk : k < 13) (h1 : tyN t n p = 1) (h2 : enN t n p - p = slC k) : ∀ (m j : Nat), j ≤ slC k → slC k - j < m → (∀ i, i < j → nI (t (p + i)) = sby k i) → fX3_isWord_L38 k m (nI j) M = some (bI (wdB t n p k), M) := by
  obtain ⟨q0, q1, q2, q3⟩ := id h
  have hr := rk_120 q0 q3.2.2.1
  have hl := sl_le k hk
  have hp : p < n := ((ty_k (by decide)).mp h1).1
  have hen := (en_ok (t := t) hp).2.1
  intro m
  induction m with
  | zero => intro j _ h; omega
  | succ m ih =>
    intro j hj hm hi
    rw [fX3_isWord_L38, j0_len M hk, bde]
    by_cases c : j = slC k
    · rw [if_pos (by rw [lit_le (by omega) (by omega)]; omega), ck_b1, wd_t.mpr ⟨h1, h2, fun i hh => hi i (by omega)⟩]; rfl
    · have hpn := q3.2.2.1
      rw [if_neg (by rw [lit_le (by omega) (by omega)]; omega), q1, ck_in (by omega) (by decide), ix_nI (by omega), (q2.2 p q0).2.1, nI_add, x6_byte q3 (by omega), bde, j0_char M hk (by omega), bde]
      by_cases d : nI (t (p + j)) = sby k j
      · rw [if_pos d, bve, ad1]
        exact ih (j + 1) (by omega) (by omega) (fun i hh => by
          by_cases z : i = j
          · rw [z]; exact d
          · exact hi i (by omega))
      · rw [if_neg d, ck_b0, wd_0 (fun q => d (q.2.2 j (by omega)))]; rfl
theorem x3_isWord {M : Mem} {t : Nat → Nat} {n p k : Nat} (h : CPT M t n p) (hk : k < 13) : fX3_isWord k M = some (bI (wdB t n p k), M) := by
  obtain ⟨q0, q1, q2, q3⟩ := id h
  have hr := rk_120 q0 q3.2.2.1
  have hl := sl_le k hk
  have hpn := q3.2.2.1
  have hple := tk_le q0
  unfold fX3_isWord
  have hn1 : fX3_isNext 1 M = some (bI (decide (tyN t n p = 1)), M) := x3_isNext (y := 1) h (by decide)
  rw [hn1, bde]
  by_cases c : tyN t n p = 1
  · have hp : p < n := ((ty_k (by decide)).mp c).1
    have hen := en_ok (t := t) hp
    rw [decide_eq_true c, ifT, q1, ck_in (by omega) (by decide), ck_in (by omega) (by decide), j0_len M hk, bde, ix_nI (by omega), ((q2.2 p q0).2.2 (Or.inl c)).1, (q2.2 p q0).2.1, pk_sub (by omega)]
    by_cases d : enN t n p - p = slC k
    · rw [if_pos (by rw [d])]
      exact x3_iw38 h hk c d fu 0 (Nat.zero_le _) (by show _ < 2000; omega) (fun i hh => by omega)
    · rw [if_neg (by rw [lit_eq (by omega) (by omega)]; exact d), ck_b0, wd_0 (fun q => d q.2.1)]; rfl
  · rw [decide_eq_false c, ifF, ck_b0, wd_0 (fun q => c q.1)]; rfl
theorem x8_iw32 {M : Mem} {t : Nat → Nat} {n p k : Nat} (hT : TPR M t n) (hR : RPT M t n p) (hk : k < 13) (b : Bool) (hb : b = true ↔ tyN t n p = 1 ∧ enN t n p - p = slC k) : ∀ (m j : Nat) (c : Bool), j ≤ slC k → slC k - j < m → (c = true ↔ b = true ∧ ∀ i, i < j → nI (t (p + i)) = sby k i) → fX8_isWord_L32 k m (bI c) (nI j) M = some (bI (wdB t n p k), M) := by
  have hl := sl_le k hk
  have hn := hT.2.2.1
  intro m
  induction m with
  | zero => intro j c _ h; omega
  | succ m ih =>
    intro j c hj hm hc
    rw [fX8_isWord_L32, j0_len M hk, bde]
    by_cases e : j = slC k
    · have hw : c = wdB t n p k := by
        apply bl_eq
        rw [hc, hb, wd_t, e]
        exact ⟨fun q => ⟨q.1.1, q.1.2, q.2⟩, fun q => ⟨⟨q.1, q.2.1⟩, q.2.2⟩⟩
      rw [if_pos (by rw [lit_le (by omega) (by omega)]; omega), ck_bI, hw]
    · rw [if_neg (by rw [lit_le (by omega) (by omega)]; omega)]
      cases c
      · have hw : wdB t n p k = false := by
          cases hz : wdB t n p k
          · rfl
          · have := wd_t.mp hz
            have := hc.mpr ⟨hb.mpr ⟨this.1, this.2.1⟩, fun i hi => this.2.2 i (by omega)⟩
            cases this
        rw [ifF, ck_bI, hw]
      · obtain ⟨c1, c2⟩ := hc.mp rfl
        obtain ⟨c3, c4⟩ := hb.mp c1
        have hp : p < n := ((ty_k (by decide)).mp c3).1
        have hen := (en_ok (t := t) hp).2.1
        rw [if_neg (by decide), hR.2.1, nI_add, ck_in (by omega) (by decide), j0_char M hk (by omega), bde, ix_nI (by omega), hT.2.1 _ (by omega)]
        have go : ∀ d : Bool, (d = true ↔ nI (t (p + j)) = sby k j) → fX8_isWord_L68 k (fX8_isWord_L32 k m) (nI j) (bI d) M = some (bI (wdB t n p k), M) := by
          intro d hd
          unfold fX8_isWord_L68
          rw [bve, ad1]
          refine ih (j + 1) d (by omega) (by omega) ?_
          rw [hd]
          constructor
          · intro q
            refine ⟨c1, fun i hi => ?_⟩
            by_cases z : i = j
            · rw [z]; exact q
            · exact c2 i (by omega)
          · intro q; exact q.2 j (by omega)
        by_cases d : nI (t (p + j)) = sby k j
        · rw [if_pos d]
          exact go true ⟨fun _ => d, fun _ => rfl⟩
        · rw [if_neg d]
          exact go false ⟨fun q => (by cases q), fun q => absurd q d⟩
theorem x8_isWord {M : Mem} {t : Nat → Nat} {n p k : Nat} (hT : TPR M t n) (hR : RPT M t n p) (hk : k < 13) : fX8_isWord k M = some (bI (wdB t n p k), M) := by
  have hl := sl_le k hk
  have hn := hT.2.2.1
  have hple := tk_le hR.1
  have ht := ty_le t n p
  have hs1 : soN t n p < 10 := by unfold soN; split <;> omega
  have hs : (soN t n p = 1) ↔ tyN t n p = 1 := by unfold soN; split <;> omega
  have go : ∀ c : Bool, (c = true ↔ tyN t n p = 1 ∧ enN t n p - p = slC k) → fX8_isWord_L29 k (bI c) M = some (bI (wdB t n p k), M) := by
    intro c hc
    exact x8_iw32 hT hR hk c hc fu 0 c (Nat.zero_le _) (by show _ < 2000; omega) ⟨fun q => ⟨q, fun i hh => by omega⟩, fun q => q.1⟩
  unfold fX8_isWord fX8_isWord_L28
  rw [hR.2.2.2.1]
  by_cases c : tyN t n p = 1
  · have hp : p < n := ((ty_k (by decide)).mp c).1
    have hen := en_ok (t := t) hp
    have he : eN t n p = enN t n p := by unfold eN; rw [if_neg (by omega), if_pos (Or.inl c)]
    rw [if_pos (by rw [q1 (by omega)]; exact hs.mpr c), j0_len M hk, bde, hR.2.2.1, hR.2.1, he, pk_sub (by omega)]
    by_cases d : enN t n p - p = slC k
    · rw [if_pos (by rw [d])]
      exact go true ⟨fun _ => ⟨c, d⟩, fun _ => rfl⟩
    · rw [if_neg (by rw [lit_eq (by omega) (by omega)]; exact d)]
      exact go false ⟨fun q => (by cases q), fun q => absurd q.2 d⟩
  · rw [if_neg (by rw [q1 (by omega)]; exact fun q => c (hs.mp q))]
    exact go false ⟨fun q => (by cases q), fun q => absurd q.1 c⟩
theorem wd_one {t : Nat → Nat} {n p j k : Nat} (hj : j < 7) (hk : k < 7) (h1 : wdB t n p j = true) (h2 : wdB t n p k = true) : j = k := by
  have key : ∀ j, j < 7 → ∀ k, k < 7 → j ≠ k → slC j ≠ slC k ∨ (0 < slC j ∧ 0 < slC k ∧ sby j 0 ≠ sby k 0) := by decide +kernel
  obtain ⟨-, a2, a3⟩ := wd_t.mp h1
  obtain ⟨-, b2, b3⟩ := wd_t.mp h2
  by_cases c : j = k
  · exact c
  · rcases key j hj k hk c with z | ⟨z1, z2, z3⟩
    · omega
    · exact absurd ((a3 0 z1).symm.trans (b3 0 z2)) z3
/-- the kind that a word tells, and one; 0: none -/
def kdN (t : Nat → Nat) (n p : Nat) : Nat := if wdB t n p 0 = true then 1 else if wdB t n p 1 = true then 2 else if wdB t n p 2 = true then 3 else if wdB t n p 3 = true then 4 else if wdB t n p 4 = true then 5 else if wdB t n p 5 = true then 6 else if wdB t n p 6 = true then 7 else 0
theorem kd_le (t : Nat → Nat) (n p : Nat) : kdN t n p ≤ 7 := by
  unfold kdN
  repeat' split
  all_goals omega
theorem kd_w {t : Nat → Nat} {n p : Nat} (h : kdN t n p ≠ 0) : wdB t n p (kdN t n p - 1) = true := by
  unfold kdN at *
  repeat' split
  all_goals first | assumption | (exfalso; simp_all; done)
theorem kd_of {t : Nat → Nat} {n p k : Nat} (hk : k < 7) (h : wdB t n p k = true) : kdN t n p = k + 1 := by
  have h0 : kdN t n p ≠ 0 := by
    intro z
    unfold kdN at z
    repeat' split at z
    all_goals first | omega | (rcases (show k = 0 ∨ k = 1 ∨ k = 2 ∨ k = 3 ∨ k = 4 ∨ k = 5 ∨ k = 6 by omega) with rfl | rfl | rfl | rfl | rfl | rfl | rfl <;> contradiction)
  have h1 := kd_w h0
  have := wd_one (by have := kd_le t n p; omega) hk h1 h
  omega
theorem x3_kind {M : Mem} {t : Nat → Nat} {n p : Nat} (h : CPT M t n p) : fX3_kindOfWord M = some (mI (kdN t n p), M) := by
  have w0 := x3_isWord (k := 0) h (by decide)
  have w1 := x3_isWord (k := 1) h (by decide)
  have w2 := x3_isWord (k := 2) h (by decide)
  have w3 := x3_isWord (k := 3) h (by decide)
  have w4 := x3_isWord (k := 4) h (by decide)
  have w5 := x3_isWord (k := 5) h (by decide)
  have w6 := x3_isWord (k := 6) h (by decide)
  unfold fX3_kindOfWord kdN
  rw [w0, bde]
  cases wdB t n p 0
  · rw [ifF, if_neg (by decide), w1, bde]
    cases wdB t n p 1
    · rw [ifF, if_neg (by decide), w2, bde]
      cases wdB t n p 2
      · rw [ifF, if_neg (by decide), w3, bde]
        cases wdB t n p 3
        · rw [ifF, if_neg (by decide), w4, bde]
          cases wdB t n p 4
          · rw [ifF, if_neg (by decide), w5, bde]
            cases wdB t n p 5
            · rw [ifF, if_neg (by decide), w6, bde]
              cases wdB t n p 6
              · rfl
              · rfl
            · rw [ifT, if_pos rfl]; rfl
          · rw [ifT, if_pos rfl]; rfl
        · rw [ifT, if_pos rfl]; rfl
      · rw [ifT, if_pos rfl]; rfl
    · rw [ifT, if_pos rfl]; rfl
  · rw [ifT, if_pos rfl]; rfl
theorem x8_kt4 {M : Mem} {t : Nat → Nat} {n p : Nat} (hT : TPR M t n) (hR : RPT M t n p) : ∀ (m k : Nat), k ≤ 7 → 7 - k < m → ∀ r : Nat, (r = if kdN t n p ≤ k then kdN t n p else 0) → fX8_kindTold_L4 m (mI r) (nI k) M = some (mI (kdN t n p), M) := by
  have hle := kd_le t n p
  intro m
  induction m with
  | zero => intro k _ h; omega
  | succ m ih =>
    intro k hk hm r hr
    rw [fX8_kindTold_L4]
    by_cases e : k = 7
    · subst e
      rw [if_pos (by decide), hr, if_pos hle]
    · have hw := x8_isWord hT hR (k := k) (by omega)
      have hks : kst (ix (nI k)) = k := by rw [ix_nI (by omega)]; rfl
      rw [if_neg (by rw [show (7 : Int32) = nI 7 from rfl, lit_le (by omega) (by omega)]; omega), ck_in (by omega) (by decide), hks, hw, bde]
      unfold fX8_kindTold_L31
      cases hb : wdB t n p k
      · rw [ifF, bve, ad1]
        refine ih (k + 1) (by omega) (by omega) r ?_
        rw [hr]
        by_cases c : kdN t n p = k + 1
        · have := kd_w (show kdN t n p ≠ 0 by omega)
          rw [c, Nat.add_sub_cancel, hb] at this; cases this
        · by_cases d : kdN t n p ≤ k
          · rw [if_pos d, if_pos (by omega)]
          · rw [if_neg d, if_neg (by omega)]
      · have hkd := kd_of (show k < 7 by omega) hb
        rw [ifT, bve, ad1, nI_mI]
        refine ih (k + 1) (by omega) (by omega) (k + 1) ?_
        rw [hkd, if_pos (Nat.le_refl _)]
theorem x8_kind {M : Mem} {t : Nat → Nat} {n p : Nat} (hT : TPR M t n) (hR : RPT M t n p) : fX8_kindTold M = some (mI (kdN t n p), M) := by
  refine x8_kt4 hT hR fu 0 (by decide) (by show _ < 2000; omega) 0 ?_
  split <;> omega

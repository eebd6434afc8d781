/-! texts: the class's table of tokens -/
/-- the class holds the tape -/
def TPC (M : Mem) (t : Nat → Nat) (n : Nat) : Prop := M 34 1 = nI n ∧ (∀ i, i < n → M 35 i = nI (t i)) ∧ n ≤ 120 ∧ ∀ i, t i < 256
theorem x6_byte {M : Mem} {t : Nat → Nat} {n i : Nat} (hT : TPC M t n) (hi : i < n) : fX6_byteAt (nI i) M = some (nI (t i), M) := by
  obtain ⟨h1, h2, h3, h4⟩ := hT
  unfold fX6_byteAt
  rw [if_neg (nI_pos (by omega)), h1, if_neg (by rw [lit_le (by omega) (by omega)]; omega), ck_in (by omega) (by decide), ix_nI (by omega), h2 i hi]
theorem x3_type {c : Nat} (M : Mem) (hc : c < 256) : fX3_typeOf (nI c) M = some (nI (ctyN c), M) := by
  unfold fX3_typeOf ctyN
  by_cases h1 : 97 ≤ c ∧ c ≤ 122
  · rw [if_pos h1, if_neg (by rw [lt97 (by omega)]; omega), if_neg (by rw [gt122 (by omega)]; omega)]; rfl
  · have e14 : fX3_typeOf_L14 (nI c) M = some (nI (if 48 ≤ c ∧ c ≤ 57 then 2 else if c = 32 then 4 else if c = 59 then 3 else 5), M) := by
      unfold fX3_typeOf_L14
      by_cases h2 : 48 ≤ c ∧ c ≤ 57
      · rw [if_pos h2, if_neg (by rw [lt48 (by omega)]; omega), if_neg (by rw [gt57 (by omega)]; omega)]; rfl
      · have e28 : fX3_typeOf_L28 (nI c) M = some (nI (if c = 32 then 4 else if c = 59 then 3 else 5), M) := by
          unfold fX3_typeOf_L28
          by_cases h3 : c = 32
          · rw [if_pos (by rw [q32 (by omega)]; exact h3), if_pos h3]; rfl
          · rw [if_neg (by rw [q32 (by omega)]; exact h3), if_neg h3]
            by_cases h4 : c = 59
            · rw [if_pos (by rw [q59 (by omega)]; exact h4), if_pos h4]; rfl
            · rw [if_neg (by rw [q59 (by omega)]; exact h4), if_neg h4]; rfl
        rw [if_neg h2, e28]
        by_cases h5 : c < 48
        · rw [if_pos (by rw [lt48 (by omega)]; exact h5)]
        · rw [if_neg (by rw [lt48 (by omega)]; exact h5), if_pos (by rw [gt57 (by omega)]; omega)]
    rw [if_neg h1, e14]
    by_cases h5 : c < 97
    · rw [if_pos (by rw [lt97 (by omega)]; exact h5)]
    · rw [if_neg (by rw [lt97 (by omega)]; exact h5), if_pos (by rw [gt122 (by omega)]; omega)]
theorem x3_typeM (M : Mem) : fX3_typeOf (-1) M = some (nI 5, M) := by
  unfold fX3_typeOf fX3_typeOf_L14 fX3_typeOf_L28
  rw [if_pos (by decide), if_pos (by decide), if_neg (by decide), if_neg (by decide)]; rfl
/-- the table as far as the bytes ahead of i tell -/
def STK (M : Mem) (t : Nat → Nat) (n i : Nat) : Prop := M 33 6 = nI (rkN t n i) ∧ ∀ p, p < i → bgB t n p = true → M 43 (rkN t n p) = nI (tyN t n p) ∧ M 44 (rkN t n p) = nI p ∧ ((tyN t n p = 1 ∨ tyN t n p = 2) → M 45 (rkN t n p) = nI (min (enN t n p) i) ∧ M 46 (rkN t n p) = nI (vaN t p (min (enN t n p) i - p)))
/-- only the reader's table -/
def SmT (M M1 : Mem) : Prop := ∀ k, (k < 33 ∨ (33 < k ∧ k < 43) ∨ 46 < k) → M1 k = M k
theorem SmT.rf {M : Mem} : SmT M M := fun _ _ => rfl
theorem SmT.tr {M M1 M2 : Mem} (h1 : SmT M M1) (h2 : SmT M1 M2) : SmT M M2 := fun k hk => (h2 k hk).trans (h1 k hk)
theorem SmT.wr {c i : Nat} {M : Mem} {v : Int32} (h : c = 33 ∨ (43 ≤ c ∧ c ≤ 46)) : SmT M (wr M c i v) := fun k hk => wr_n _ _ _ _ (by omega)
theorem TPC.t {M M1 : Mem} {t : Nat → Nat} {n : Nat} (h : TPC M t n) (f : SmT M M1) : TPC M1 t n := by
  obtain ⟨h1, h2, h3, h4⟩ := h
  exact ⟨by rw [f 34 (by omega)]; exact h1, fun i hi => by rw [f 35 (by omega)]; exact h2 i hi, h3, h4⟩
theorem x3_begin {M : Mem} {y k p : Nat} (hk : M 33 6 = nI k) (hk2 : k < 121) (hy : y ≠ 4) (hy2 : y < 10) : fX3_beginToken (nI y) (nI p) M = some ((), wr (wr (wr (wr M 43 k (nI y)) 44 k (nI p)) 46 k 0) 33 6 (nI (k + 1))) := by
  unfold fX3_beginToken
  rw [if_neg (by rw [q4 (by omega)]; exact hy), hk, if_neg (by rw [ge121 (by omega)]; omega), ck_in (by omega) (by decide), ix_nI (by omega), wme, wr_n _ 43 _ _ (show (33 : Nat) ≠ 43 by decide), hk, ck_in (by omega) (by decide), ix_nI (by omega), wme, wr_n _ 44 _ _ (show (33 : Nat) ≠ 44 by decide), wr_n _ 43 _ _ (show (33 : Nat) ≠ 43 by decide), hk, ck_in (by omega) (by decide), ix_nI (by omega), wme, wr_n _ 46 _ _ (show (33 : Nat) ≠ 46 by decide), wr_n _ 44 _ _ (show (33 : Nat) ≠ 44 by decide), wr_n _ 43 _ _ (show (33 : Nat) ≠ 43 by decide), hk, ad1, wme]
theorem en_low {t : Nat → Nat} {n p i : Nat} (hb : bgB t n i = true) (hp : p < i) (c : tyN t n p = 1 ∨ tyN t n p = 2) : enN t n p ≤ i := by
  obtain ⟨hi, h4, hr⟩ := bg_t.mp hb
  obtain ⟨a1, a2, a3, a4⟩ := en_ok (t := t) (n := n) (p := p) (by omega)
  rcases Nat.lt_or_ge i (enN t n p) with q | q
  · have e1 := a4 i (by omega) q
    have e2 := a4 (i - 1) (by omega) (by omega)
    exact absurd ⟨by rw [e1]; exact c, by omega, by rw [e1, e2]⟩ hr
  · exact q
theorem x3_len {M : Mem} {t : Nat → Nat} {n k i a : Nat} (hT : TPC M t n) (hi : i < n) (hk : M 33 6 = nI (k + 1)) (hk2 : k < 121) (ha : M 46 k = nI a) (ha2 : a ≤ 100000) (ht : 48 ≤ t i) : fX3_lengthenToken (nI i) M = some ((), wr (wr M 45 k (nI (i + 1))) 46 k (nI (min (10 * a + t i - 48) 100000))) := by
  have ht2 := hT.2.2.2 i
  have hn := hT.2.2.1
  have hT2 : TPC (wr M 45 k (nI (i + 1))) t n := hT.t (SmT.wr (by omega))
  unfold fX3_lengthenToken
  rw [hk, nI_pred, bve, if_neg (nI_pos (by omega)), ck_in (by omega) (by decide), ix_nI (by omega), ad1, wme, ck_in (by omega) (by decide), x6_byte hT2 hi, bde, ck_in (by omega) (by decide), wr_n _ 45 _ _ (show (46 : Nat) ≠ 45 by decide), ha, mu10 a, nI_add, show (48 : Int32) = nI 48 from rfl, pk_sub (by omega), show (100000 : Int32) = nI 100000 from rfl, imin_nI (by omega) (by decide), wme]
theorem STK.one {M : Mem} {t : Nat → Nat} {n i : Nat} (hT : TPC M t n) (hS : STK M t n i) (hi : i < n) {k12 : Int32 → Mem → Option (Unit × Mem)} : ∃ M1, (bd (fX6_byteAt (nI i) M) fun r5 M4 => (bd (fX3_typeOf r5 M4) fun r7 M6 => (if r7 = 1 then (fX3_split_L45 k12 (nI i) r7 M6) else (if r7 = 2 then (fX3_split_L45 k12 (nI i) r7 M6) else (fX3_split_L50 k12 (nI i) r7 0 M6))))) = k12 (nI (i + 1)) M1 ∧ STK M1 t n (i + 1) ∧ SmT M M1 ∧ M1 33 7 = M 33 7 := by
  have hn := hT.2.2.1
  have h256 := hT.2.2.2
  obtain ⟨hk, hS2⟩ := hS
  have hrk := rk_le t n i
  have htyi : tyN t n i = ctyN (t i) := by unfold tyN; rw [if_pos hi]
  have hty5 := ty_le t n i
  rw [x6_byte hT hi, bde, x3_type M (h256 i), bde, ← htyi]
  have l87 : ∀ M', fX3_split_L87 k12 (nI i) M' = k12 (nI (i + 1)) M' := by intro M'; unfold fX3_split_L87; rw [bve, ad1]
  cases hb : bgB t n i
  · have hrs : rkN t n (i + 1) = rkN t n i := by rw [rk_s, hb, if_neg (by decide), Nat.add_zero]
    by_cases hr : tyN t n i = 1 ∨ tyN t n i = 2
    · -- the run goes on
      have hi0 : 0 < i := by
        rcases Nat.eq_zero_or_pos i with z | z
        · subst z
          have : bgB t n 0 = true := bg_t.mpr ⟨hi, by omega, fun q => by omega⟩
          rw [hb] at this; cases this
        · exact z
      have hprev : tyN t n (i - 1) = tyN t n i := by
        by_cases z : tyN t n (i - 1) = tyN t n i
        · exact z
        · have : bgB t n i = true := bg_t.mpr ⟨hi, by omega, fun q => z q.2.2⟩
          rw [hb] at this; cases this
      obtain ⟨p, p1, p2, p3, p4⟩ := runEx i hi hr
      have hpi : p < i := by
        rcases Nat.lt_or_ge p i with q | q
        · exact q
        · have : p = i := by omega
          rw [this, hb] at p2; cases p2
      rw [hrs] at p4
      have hpt : tyN t n p = tyN t n i := p3 p (Nat.le_refl _) p1
      obtain ⟨e1, e2, e3, e4⟩ := en_ok (t := t) (n := n) (p := p) (by omega)
      have hen : i < enN t n p := by
        rcases Nat.lt_or_ge i (enN t n p) with q | q
        · exact q
        · rcases e3 with z | z
          · omega
          · exact absurd (by rw [p3 _ (by omega) q, hpt]) z
      obtain ⟨s1, s2, s3⟩ := hS2 p hpi p2
      obtain ⟨s4, s5⟩ := s3 (by rw [hpt]; exact hr)
      rw [Nat.min_eq_right (by omega)] at s4 s5
      have ht48 : 48 ≤ t i := by
        have hc := htyi
        unfold ctyN at hc
        repeat' split at hc
        all_goals omega
      have hl := x3_len hT hi (k := rkN t n p) (by rw [hk, p4]) (by omega) s5 (va_le _ _ _) ht48
      have f1 : SmT M (wr (wr M 45 (rkN t n p) (nI (i + 1))) 46 (rkN t n p) (nI (min (10 * vaN t p (i - p) + t i - 48) 100000))) := (SmT.wr (by omega)).tr (SmT.wr (by omega))
      refine ⟨_, ?_, ⟨?_, fun q q1 q2 => ?_⟩, f1, ?_⟩
      · have l45 : fX3_split_L45 k12 (nI i) (nI (tyN t n i)) M = k12 (nI (i + 1)) (wr (wr M 45 (rkN t n p) (nI (i + 1))) 46 (rkN t n p) (nI (min (10 * vaN t p (i - p) + t i - 48) 100000))) := by
          have htp : tyN t n (i - 1) = ctyN (t (i - 1)) := by unfold tyN; rw [if_pos (by omega)]
          unfold fX3_split_L45 fX3_split_L50
          rw [if_neg (by decide), sb1 hi0, x6_byte hT (by omega), bde, x3_type M (h256 _), bde, ← htp, hprev, if_pos rfl]
          unfold fX3_split_L78
          rw [if_neg (by decide), hl, bde, l87]
        rw [l45]
        rcases hr with z | z
        · rw [if_pos (by rw [z]; rfl)]
        · rw [if_neg (by rw [z]; decide), if_pos (by rw [z]; rfl)]
      · rw [wr_n _ _ _ _ (by decide), wr_n _ _ _ _ (by decide), hk, hrs]
      · by_cases qi : q = i
        · rw [qi, hb] at q2; cases q2
        · by_cases qp : q = p
          · subst qp
            refine ⟨by rw [wr_n _ _ _ _ (by decide), wr_n _ _ _ _ (by decide)]; exact s1, by rw [wr_n _ _ _ _ (by decide), wr_n _ _ _ _ (by decide)]; exact s2, fun _ => ?_⟩
            rw [Nat.min_eq_right (show i + 1 ≤ enN t n q by omega)]
            refine ⟨by rw [wr_n _ _ _ _ (by decide), wr_app, if_pos rfl, if_pos rfl], ?_⟩
            rw [wr_app, if_pos rfl, if_pos rfl, show i + 1 - q = (i - q) + 1 by omega]
            show _ = nI (min (10 * vaN t q (i - q) + t (q + (i - q)) - 48) 100000)
            rw [show q + (i - q) = i by omega]
          · have hne : rkN t n q ≠ rkN t n p := fun z => qp (rk_inj q2 p2 z)
            have hqp : q < p := by
              rcases Nat.lt_or_ge q p with z | z
              · exact z
              · have y1 := p3 q (by omega) (by omega)
                have y2 := p3 (q - 1) (by omega) (by omega)
                exact absurd ⟨by rw [y1]; exact hr, by omega, by rw [y1, y2]⟩ (bg_t.mp q2).2.2
            obtain ⟨z1, z2, z3⟩ := hS2 q (by omega) q2
            refine ⟨by rw [wr_n _ _ _ _ (by decide), wr_n _ _ _ _ (by decide)]; exact z1, by rw [wr_n _ _ _ _ (by decide), wr_n _ _ _ _ (by decide)]; exact z2, fun z => ?_⟩
            have el := en_low p2 hqp z
            obtain ⟨z4, z5⟩ := z3 z
            rw [Nat.min_eq_left (by omega)] at z4 z5
            rw [Nat.min_eq_left (show enN t n q ≤ i + 1 by omega)]
            exact ⟨by rw [wr_n _ _ _ _ (by decide), wr_app, if_pos rfl, if_neg hne]; exact z4, by rw [wr_app, if_pos rfl, if_neg hne, wr_n _ _ _ _ (by decide)]; exact z5⟩
      · rw [wr_n _ _ _ _ (by decide), wr_n _ _ _ _ (by decide)]
    · -- a blank
      have h4 : tyN t n i = 4 := by
        by_cases z : tyN t n i = 4
        · exact z
        · have : bgB t n i = true := bg_t.mpr ⟨hi, z, fun q => hr q.1⟩
          rw [hb] at this; cases this
      refine ⟨M, ?_, ⟨by rw [hk, hrs], fun q q1 q2 => ?_⟩, SmT.rf, rfl⟩
      · rw [h4, if_neg (by decide), if_neg (by decide)]
        unfold fX3_split_L50 fX3_split_L72 fX3_split_L78 fX3_beginToken
        rw [if_pos rfl, if_pos (by rfl), bde, if_pos rfl, l87]
      · have hqi : q < i := by
          rcases Nat.lt_or_ge q i with z | z
          · exact z
          · have : q = i := by omega
            rw [this, hb] at q2; cases q2
        obtain ⟨z1, z2, z3⟩ := hS2 q hqi q2
        refine ⟨z1, z2, fun z => ?_⟩
        obtain ⟨z4, z5⟩ := z3 z
        have el : enN t n q ≤ i := by
          rcases Nat.lt_or_ge i (enN t n q) with y | y
          · have := (en_ok (t := t) (n := n) (p := q) (by omega)).2.2.2 i (by omega) y
            omega
          · exact y
        rw [Nat.min_eq_left (by omega)] at z4 z5
        rw [Nat.min_eq_left (show enN t n q ≤ i + 1 by omega)]
        exact ⟨z4, z5⟩
  · obtain ⟨-, n4, nr⟩ := bg_t.mp hb
    have hrs : rkN t n (i + 1) = rkN t n i + 1 := by rw [rk_s, hb, if_pos rfl]
    have hbg := x3_begin (M := M) (y := tyN t n i) (k := rkN t n i) (p := i) hk (by omega) n4 (by omega)
    have f1 : SmT M (wr (wr (wr (wr M 43 (rkN t n i) (nI (tyN t n i))) 44 (rkN t n i) (nI i)) 46 (rkN t n i) 0) 33 6 (nI (rkN t n i + 1))) := (((SmT.wr (by omega)).tr (SmT.wr (by omega))).tr (SmT.wr (by omega))).tr (SmT.wr (by omega))
    have old : ∀ q, q < i → bgB t n q = true → rkN t n q ≠ rkN t n i := fun q q1 q2 z => by have := rk_lt q2 q1; omega
    by_cases hr : tyN t n i = 1 ∨ tyN t n i = 2
    · have ht48 : 48 ≤ t i := by
        have hc := htyi
        unfold ctyN at hc
        repeat' split at hc
        all_goals omega
      have hl := x3_len (hT.t f1) hi (k := rkN t n i) (a := 0) (by rw [wr_app, if_pos rfl, if_pos rfl]) (by omega) (by rw [wr_n _ 33 _ _ (by decide), wr_app, if_pos rfl, if_pos rfl]; rfl) (Nat.zero_le _) ht48
      refine ⟨wr (wr (wr (wr (wr (wr M 43 (rkN t n i) (nI (tyN t n i))) 44 (rkN t n i) (nI i)) 46 (rkN t n i) 0) 33 6 (nI (rkN t n i + 1))) 45 (rkN t n i) (nI (i + 1))) 46 (rkN t n i) (nI (min (10 * 0 + t i - 48) 100000)), ?_, ⟨?_, fun q q1 q2 => ?_⟩, (f1.tr (SmT.wr (c := 45) (by omega))).tr (SmT.wr (c := 46) (by omega)), ?_⟩
      · have l72 : fX3_split_L72 k12 (nI i) (nI (tyN t n i)) 1 M = k12 (nI (i + 1)) (wr (wr (wr (wr (wr (wr M 43 (rkN t n i) (nI (tyN t n i))) 44 (rkN t n i) (nI i)) 46 (rkN t n i) 0) 33 6 (nI (rkN t n i + 1))) 45 (rkN t n i) (nI (i + 1))) 46 (rkN t n i) (nI (min (10 * 0 + t i - 48) 100000))) := by
          unfold fX3_split_L72 fX3_split_L78
          rw [hbg, bde, if_neg (by decide), hl, bde, l87]
        have l45 : fX3_split_L45 k12 (nI i) (nI (tyN t n i)) M = k12 (nI (i + 1)) (wr (wr (wr (wr (wr (wr M 43 (rkN t n i) (nI (tyN t n i))) 44 (rkN t n i) (nI i)) 46 (rkN t n i) 0) 33 6 (nI (rkN t n i + 1))) 45 (rkN t n i) (nI (i + 1))) 46 (rkN t n i) (nI (min (10 * 0 + t i - 48) 100000))) := by
          unfold fX3_split_L45 fX3_split_L50
          rw [if_neg (by decide)]
          rcases Nat.eq_zero_or_pos i with z | z
          · have b : fX6_byteAt (nI i - 1) M = some (-1, M) := by
              rw [z]
              unfold fX6_byteAt
              exact if_pos (by decide)
            have n5 : ¬ nI 5 = nI (tyN t n i) := by rw [lit_eq (by omega) (by omega)]; omega
            rw [b, bde, x3_typeM, bde, if_neg n5]
            exact l72
          · have htp : tyN t n (i - 1) = ctyN (t (i - 1)) := by unfold tyN; rw [if_pos (by omega)]
            have hl5 := ty_le t n (i - 1)
            have nne : ¬ nI (tyN t n (i - 1)) = nI (tyN t n i) := by
              rw [lit_eq (by omega) (by omega)]
              exact fun y => nr ⟨hr, z, y⟩
            rw [sb1 z, x6_byte hT (by omega), bde, x3_type M (h256 _), bde, ← htp, if_neg nne]
            exact l72
        rw [l45]
        rcases hr with z | z
        · rw [if_pos (by rw [z]; rfl)]
        · rw [if_neg (by rw [z]; decide), if_pos (by rw [z]; rfl)]
      · rw [wr_n _ _ _ _ (by decide), wr_n _ _ _ _ (by decide), wr_app, if_pos rfl, if_pos rfl, hrs]
      · by_cases qi : q = i
        · subst qi
          obtain ⟨e1, e2, e3, e4⟩ := en_ok (t := t) (n := n) (p := q) hi
          refine ⟨?_, ?_, fun _ => ⟨?_, ?_⟩⟩
          · rw [wr_n _ 46 _ _ (by decide), wr_n _ 45 _ _ (by decide), wr_n _ 33 _ _ (by decide), wr_n _ 46 _ _ (by decide), wr_n _ 44 _ _ (by decide), wr_app, if_pos rfl, if_pos rfl]
          · rw [wr_n _ 46 _ _ (by decide), wr_n _ 45 _ _ (by decide), wr_n _ 33 _ _ (by decide), wr_n _ 46 _ _ (by decide), wr_app, if_pos rfl, if_pos rfl]
          · rw [Nat.min_eq_right (show q + 1 ≤ enN t n q by omega), wr_n _ 46 _ _ (by decide), wr_app, if_pos rfl, if_pos rfl]
          · rw [Nat.min_eq_right (show q + 1 ≤ enN t n q by omega), wr_app, if_pos rfl, if_pos rfl, show q + 1 - q = 0 + 1 by omega]
            rfl
        · have hne := old q (by omega) q2
          obtain ⟨z1, z2, z3⟩ := hS2 q (by omega) q2
          refine ⟨?_, ?_, fun z => ?_⟩
          · rw [wr_n _ 46 _ _ (by decide), wr_n _ 45 _ _ (by decide), wr_n _ 33 _ _ (by decide), wr_n _ 46 _ _ (by decide), wr_n _ 44 _ _ (by decide), wr_app, if_pos rfl, if_neg hne]; exact z1
          · rw [wr_n _ 46 _ _ (by decide), wr_n _ 45 _ _ (by decide), wr_n _ 33 _ _ (by decide), wr_n _ 46 _ _ (by decide), wr_app, if_pos rfl, if_neg hne, wr_n _ 43 _ _ (by decide)]; exact z2
          · have el := en_low hb (show q < i by omega) z
            obtain ⟨z4, z5⟩ := z3 z
            rw [Nat.min_eq_left (by omega)] at z4 z5
            rw [Nat.min_eq_left (show enN t n q ≤ i + 1 by omega)]
            refine ⟨?_, ?_⟩
            · rw [wr_n _ 46 _ _ (by decide), wr_app, if_pos rfl, if_neg hne, wr_n _ 33 _ _ (by decide), wr_n _ 46 _ _ (by decide), wr_n _ 44 _ _ (by decide), wr_n _ 43 _ _ (by decide)]; exact z4
            · rw [wr_app, if_pos rfl, if_neg hne, wr_n _ 45 _ _ (by decide), wr_n _ 33 _ _ (by decide), wr_app, if_pos rfl, if_neg hne, wr_n _ 44 _ _ (by decide), wr_n _ 43 _ _ (by decide)]; exact z5
      · rw [wr_n _ _ _ _ (by decide), wr_n _ _ _ _ (by decide), wr_app, if_pos rfl, if_neg (by decide), wr_n _ _ _ _ (by decide), wr_n _ _ _ _ (by decide), wr_n _ _ _ _ (by decide)]
    · refine ⟨_, ?_, ⟨?_, fun q q1 q2 => ?_⟩, f1, ?_⟩
      · rw [if_neg (by rw [q1 (by omega)]; omega), if_neg (by rw [q2 (by omega)]; omega)]
        unfold fX3_split_L50 fX3_split_L72 fX3_split_L78
        rw [if_pos rfl, hbg, bde, if_pos rfl, l87]
      · rw [wr_app, if_pos rfl, if_pos rfl, hrs]
      · by_cases qi : q = i
        · subst qi
          refine ⟨?_, ?_, fun z => absurd z hr⟩
          · rw [wr_n _ 33 _ _ (by decide), wr_n _ 46 _ _ (by decide), wr_n _ 44 _ _ (by decide), wr_app, if_pos rfl, if_pos rfl]
          · rw [wr_n _ 33 _ _ (by decide), wr_n _ 46 _ _ (by decide), wr_app, if_pos rfl, if_pos rfl]
        · have hne := old q (by omega) q2
          obtain ⟨z1, z2, z3⟩ := hS2 q (by omega) q2
          refine ⟨?_, ?_, fun z => ?_⟩
          · rw [wr_n _ 33 _ _ (by decide), wr_n _ 46 _ _ (by decide), wr_n _ 44 _ _ (by decide), wr_app, if_pos rfl, if_neg hne]; exact z1
          · rw [wr_n _ 33 _ _ (by decide), wr_n _ 46 _ _ (by decide), wr_app, if_pos rfl, if_neg hne, wr_n _ 43 _ _ (by decide)]; exact z2
          · have el := en_low hb (show q < i by omega) z
            obtain ⟨z4, z5⟩ := z3 z
            rw [Nat.min_eq_left (by omega)] at z4 z5
            rw [Nat.min_eq_left (show enN t n q ≤ i + 1 by omega)]
            refine ⟨?_, ?_⟩
            · rw [wr_n _ 33 _ _ (by decide), wr_n _ 46 _ _ (by decide), wr_n _ 44 _ _ (by decide), wr_n _ 43 _ _ (by decide)]; exact z4
            · rw [wr_n _ 33 _ _ (by decide), wr_app, if_pos rfl, if_neg hne, wr_n _ 44 _ _ (by decide), wr_n _ 43 _ _ (by decide)]; exact z5
      · rw [wr_app, if_pos rfl, if_neg (by decide), wr_n _ _ _ _ (by decide), wr_n _ _ _ _ (by decide), wr_n _ _ _ _ (by decide)]
/-- a token, or the end -/
def tkP (t : Nat → Nat) (n p : Nat) : Prop := p = n ∨ bgB t n p = true
/-- the whole table -/
def TOK (M : Mem) (t : Nat → Nat) (n : Nat) : Prop := M 33 6 = nI (rkN t n n + 1) ∧ ∀ p, tkP t n p → M 43 (rkN t n p) = nI (tyN t n p) ∧ M 44 (rkN t n p) = nI p ∧ ((tyN t n p = 1 ∨ tyN t n p = 2) → M 45 (rkN t n p) = nI (enN t n p) ∧ M 46 (rkN t n p) = nI (valN t n p))
theorem x3_split12 {t : Nat → Nat} {n : Nat} : ∀ (m i : Nat) (M : Mem), i ≤ n → n - i < m → TPC M t n → STK M t n i → ∃ M1, fX3_split_L12 m (nI i) M = some ((), M1) ∧ TOK M1 t n ∧ SmT M M1 ∧ M1 33 7 = M 33 7 := by
  intro m
  induction m with
  | zero => intro i M _ h; omega
  | succ m ih =>
    intro i M hi hm hT hS
    have hn := hT.2.2.1
    rw [fX3_split_L12, hT.1]
    by_cases e : i = n
    · subst e
      have hrk := rk_le t i i
      have t0 : tyN t i i = 0 := ty_0.mpr (Nat.le_refl _)
      have hbg := x3_begin (M := M) (y := 0) (k := rkN t i i) (p := i) hS.1 (by omega) (by decide) (by decide)
      refine ⟨wr (wr (wr (wr M 43 (rkN t i i) (nI 0)) 44 (rkN t i i) (nI i)) 46 (rkN t i i) 0) 33 6 (nI (rkN t i i + 1)), ?_, ⟨by rw [wr_app, if_pos rfl, if_pos rfl], fun p hp => ?_⟩, (((SmT.wr (c := 43) (by omega)).tr (SmT.wr (c := 44) (by omega))).tr (SmT.wr (c := 46) (by omega))).tr (SmT.wr (c := 33) (by omega)), by rw [wr_app, if_pos rfl, if_neg (by decide), wr_n _ _ _ _ (by decide), wr_n _ _ _ _ (by decide), wr_n _ _ _ _ (by decide)]⟩
      · rw [if_pos (by rw [lit_le (by omega) (by omega)]; exact Nat.le_refl _)]
        exact (congrArg (fun z => bd z _) hbg).trans (bde _ _)
      · by_cases c : p = i
        · subst c
          refine ⟨?_, ?_, fun z => by rw [t0] at z; omega⟩
          · rw [wr_n _ 33 _ _ (by decide), wr_n _ 46 _ _ (by decide), wr_n _ 44 _ _ (by decide), wr_app, if_pos rfl, if_pos rfl, t0]
          · rw [wr_n _ 33 _ _ (by decide), wr_n _ 46 _ _ (by decide), wr_app, if_pos rfl, if_pos rfl]
        · have hb := hp.resolve_left c
          have hpi := (bg_t.mp hb).1
          have hne : rkN t i p ≠ rkN t i i := fun z => by have := rk_lt hb hpi; omega
          obtain ⟨z1, z2, z3⟩ := hS.2 p hpi hb
          refine ⟨?_, ?_, fun z => ?_⟩
          · rw [wr_n _ 33 _ _ (by decide), wr_n _ 46 _ _ (by decide), wr_n _ 44 _ _ (by decide), wr_app, if_pos rfl, if_neg hne]; exact z1
          · rw [wr_n _ 33 _ _ (by decide), wr_n _ 46 _ _ (by decide), wr_app, if_pos rfl, if_neg hne, wr_n _ 43 _ _ (by decide)]; exact z2
          · obtain ⟨z4, z5⟩ := z3 z
            have el := (en_ok (t := t) hpi).2.1
            rw [Nat.min_eq_left el] at z4 z5
            refine ⟨?_, ?_⟩
            · rw [wr_n _ 33 _ _ (by decide), wr_n _ 46 _ _ (by decide), wr_n _ 44 _ _ (by decide), wr_n _ 43 _ _ (by decide)]; exact z4
            · rw [wr_n _ 33 _ _ (by decide), wr_app, if_pos rfl, if_neg hne, wr_n _ 44 _ _ (by decide), wr_n _ 43 _ _ (by decide)]; exact z5
    · obtain ⟨M1, e1, s1, f1, g1⟩ := STK.one (k12 := fX3_split_L12 m) hT hS (by omega)
      obtain ⟨M2, e2, s2, f2, g2⟩ := ih (i + 1) M1 (by omega) (by omega) (hT.t f1) s1
      refine ⟨M2, ?_, s2, f1.tr f2, g2.trans g1⟩
      rw [if_neg (by rw [lit_le (by omega) (by omega)]; omega), e1, e2]
theorem x3_split {M : Mem} {t : Nat → Nat} {n : Nat} (hT : TPC M t n) : ∃ M1, fX3_split M = some ((), M1) ∧ TOK M1 t n ∧ SmT M M1 ∧ M1 33 7 = 0 := by
  have f0 : SmT M (wr (wr M 33 6 0) 33 7 0) := (SmT.wr (by omega)).tr (SmT.wr (by omega))
  obtain ⟨M1, e1, t1, s1, g1⟩ := x3_split12 fu 0 (wr (wr M 33 6 0) 33 7 0) (Nat.zero_le _) (by have := hT.2.2.1; show _ < 2000; omega) (hT.t f0) ⟨by rw [wr_app, if_pos rfl, if_neg (by decide), wr_app, if_pos rfl, if_pos rfl]; rfl, fun p h => by omega⟩
  refine ⟨M1, ?_, t1, f0.tr s1, g1.trans (by rw [wr_app, if_pos rfl, if_pos rfl])⟩
  unfold fX3_split
  rw [wme, wme]
  exact e1

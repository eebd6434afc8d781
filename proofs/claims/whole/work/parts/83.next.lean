/-! texts: the reference's next token -/
def TPR (M : Mem) (t : Nat → Nat) (n : Nat) : Prop := M 57 15 = nI n ∧ (∀ i, i < n → M 66 i = nI (t i)) ∧ n ≤ 120 ∧ ∀ i, t i < 256
theorem x8_byte {M : Mem} {t : Nat → Nat} {n i : Nat} (hT : TPR M t n) (hi : i ≤ n) : fX8_byteAt (nI i) M = some (if i = n then -1 else nI (t i), M) := by
  obtain ⟨h1, h2, h3, h4⟩ := hT
  unfold fX8_byteAt
  rw [h1]
  by_cases e : i = n
  · rw [if_pos (by rw [lit_le (by omega) (by omega)]; omega), if_pos e]
  · rw [if_neg (by rw [lit_le (by omega) (by omega)]; omega), if_neg e, ck_in (by omega) (by decide), ix_nI (by omega), h2 i (by omega)]
/-- only the reader's fields (and the row of items) -/
def SmX (M M1 : Mem) : Prop := (∀ k, k ≠ 57 → k ≠ 68 → M1 k = M k) ∧ ∀ j, (j < 16 ∨ 24 < j) → M1 57 j = M 57 j
theorem SmX.rf {M : Mem} : SmX M M := ⟨fun _ _ _ => rfl, fun _ _ => rfl⟩
theorem SmX.tr {M M1 M2 : Mem} (h1 : SmX M M1) (h2 : SmX M1 M2) : SmX M M2 := ⟨fun k a b => (h2.1 k a b).trans (h1.1 k a b), fun j a => (h2.2 j a).trans (h1.2 j a)⟩
theorem SmX.w7 {M : Mem} {j : Nat} {v : Int32} (h : 16 ≤ j ∧ j ≤ 24) : SmX M (wr M 57 j v) := ⟨fun k a _ => wr_n _ _ _ _ a, fun i hi => by rw [wr_app, if_pos rfl, if_neg (by omega)]⟩
theorem SmX.w68 {M : Mem} {j : Nat} {v : Int32} : SmX M (wr M 68 j v) := ⟨fun k _ a => wr_n _ _ _ _ a, fun i hi => by rw [wr_n _ _ _ _ (by decide)]⟩
theorem SmX.fr {M M1 : Mem} (h : SmX M M1) : FR M M1 := ⟨fun k hk => by
  by_cases c : k = 57
  · omega
  · exact h.1 k c (by omega), h.2 3 (by omega), h.2 15 (by omega)⟩
theorem TPR.x {M M1 : Mem} {t : Nat → Nat} {n : Nat} (h : TPR M t n) (f : SmX M M1) : TPR M1 t n := by
  obtain ⟨h1, h2, h3, h4⟩ := h
  exact ⟨by rw [f.2 15 (by omega)]; exact h1, fun i hi => by rw [f.1 66 (by decide) (by decide)]; exact h2 i hi, h3, h4⟩
/-- only the token's four fields -/
def SmN (M M1 : Mem) : Prop := (∀ k, k ≠ 57 → M1 k = M k) ∧ ∀ j, (j < 16 ∨ 19 < j) → M1 57 j = M 57 j
theorem SmN.rf {M : Mem} : SmN M M := ⟨fun _ _ => rfl, fun _ _ => rfl⟩
theorem SmN.tr {M M1 M2 : Mem} (h1 : SmN M M1) (h2 : SmN M1 M2) : SmN M M2 := ⟨fun k a => (h2.1 k a).trans (h1.1 k a), fun j a => (h2.2 j a).trans (h1.2 j a)⟩
theorem SmN.wr {M : Mem} {j : Nat} {v : Int32} (h : 16 ≤ j ∧ j ≤ 19) : SmN M (wr M 57 j v) := ⟨fun k a => wr_n _ _ _ _ a, fun i hi => by rw [wr_app, if_pos rfl, if_neg (by omega)]⟩
theorem SmN.x {M M1 : Mem} (h : SmN M M1) : SmX M M1 := ⟨fun k a _ => h.1 k a, fun j hj => h.2 j (by omega)⟩
/-- the kind of a token, as the reference has it -/
def soN (t : Nat → Nat) (n p : Nat) : Nat := if tyN t n p = 5 then 3 else tyN t n p
/-- the reference stands at a token -/
def RPT (M : Mem) (t : Nat → Nat) (n p : Nat) : Prop := tkP t n p ∧ M 57 16 = nI p ∧ M 57 17 = nI (eN t n p) ∧ M 57 18 = nI (soN t n p) ∧ (tyN t n p = 2 → M 57 19 = nI (valN t n p))
theorem RPT.fr {M M1 : Mem} {t : Nat → Nat} {n p : Nat} (h : RPT M t n p) (f : ∀ j, 16 ≤ j → j ≤ 19 → M1 57 j = M 57 j) : RPT M1 t n p := by
  obtain ⟨h0, h1, h2, h3, h4⟩ := h
  exact ⟨h0, by rw [f 16 (by omega) (by omega)]; exact h1, by rw [f 17 (by omega) (by omega)]; exact h2, by rw [f 18 (by omega) (by omega)]; exact h3, fun q => by rw [f 19 (by omega) (by omega)]; exact h4 q⟩
theorem tk_le {t : Nat → Nat} {n p : Nat} (h : tkP t n p) : p ≤ n := by
  rcases h with h | h
  · omega
  · have := (bg_t.mp h).1; omega
theorem x8_withinL {lo hi i n : Nat} (t : Nat → Nat) (M : Mem) (hl : lo < 2 ^ 31) (hh : hi < 2 ^ 31) (ht : t i < 256) (h0 : 0 < lo) : fX8_within (if i = n then -1 else nI (t i)) (nI lo) (nI hi) M = some (bI (decide (i ≠ n ∧ lo ≤ t i ∧ t i ≤ hi)), M) := by
  unfold fX8_within
  by_cases e : i = n
  · have hm : (-1 : Int32) < nI lo := by rw [Int32.lt_iff_toInt_lt, nI_toInt hl]; show (-1 : Int) < _; omega
    rw [if_pos e, if_pos hm, ck_b0, decide_eq_false (fun q => q.1 e)]; rfl
  · rw [if_neg e]
    by_cases a : t i < lo
    · rw [if_pos (by rw [lit_lt (by omega) hl]; exact a), ck_b0, decide_eq_false (fun q => by omega)]; rfl
    · rw [if_neg (by rw [lit_lt (by omega) hl]; exact a)]
      by_cases b : hi < t i
      · rw [if_pos (by rw [lit_lt hh (by omega)]; exact b), ck_b0, decide_eq_false (fun q => by omega)]; rfl
      · rw [if_neg (by rw [lit_lt hh (by omega)]; exact b), ck_b1, decide_eq_true ⟨e, by omega, by omega⟩]; rfl
theorem cl_1 (c : Nat) : ctyN c = 1 ↔ 97 ≤ c ∧ c ≤ 122 := by
  unfold ctyN
  repeat' split
  all_goals omega
theorem cl_2 (c : Nat) : ctyN c = 2 ↔ 48 ≤ c ∧ c ≤ 57 := by
  unfold ctyN
  repeat' split
  all_goals omega
theorem cl_4 (c : Nat) : ctyN c = 4 ↔ c = 32 := by
  unfold ctyN
  repeat' split
  all_goals omega
theorem cl_3 (c : Nat) : ctyN c = 3 ↔ c = 59 := by
  unfold ctyN
  repeat' split
  all_goals omega
theorem ty_k {t : Nat → Nat} {n i k : Nat} (hk : k ≠ 0) : tyN t n i = k ↔ i < n ∧ ctyN (t i) = k := by
  unfold tyN
  split
  · simp [*]
  · constructor
    · intro h; exact absurd h.symm hk
    · intro h; omega
/-- a word's end -/
theorem x8_n84 {t : Nat → Nat} {n p : Nat} (hp : p < n) (h1 : tyN t n p = 1) : ∀ (m e : Nat) (M : Mem), p ≤ e → e ≤ enN t n p → enN t n p - e < m → TPR M t n → M 57 17 = nI e → ∃ M1, fX8_next_L84 m M = some ((), M1) ∧ M1 57 17 = nI (enN t n p) ∧ SmN M M1 ∧ (∀ j, j ≠ 17 → M1 57 j = M 57 j) := by
  obtain ⟨a1, a2, a3, a4⟩ := en_ok (t := t) hp
  intro m
  induction m with
  | zero => intro e M _ _ h; omega
  | succ m ih =>
    intro e M h2 h3 h4 hT h17
    have hn := hT.2.2.1
    rw [fX8_next_L84, h17, x8_byte hT (by omega), bde, show (97 : Int32) = nI 97 from rfl, show (122 : Int32) = nI 122 from rfl, x8_withinL t M (by decide) (by decide) (hT.2.2.2 e) (by decide), bde]
    by_cases c : e = enN t n p
    · have hf : ¬ (e ≠ n ∧ 97 ≤ t e ∧ t e ≤ 122) := fun q => by
        rcases a3 with z | z
        · omega
        · apply z
          rw [h1, ty_k (by decide), ← c]
          exact ⟨by omega, (cl_1 _).mpr q.2⟩
      rw [decide_eq_false hf, ifF]
      exact ⟨M, rfl, by rw [h17, c], SmN.rf, fun _ _ => rfl⟩
    · have hy := a4 e h2 (by omega)
      rw [h1, ty_k (by decide), cl_1] at hy
      obtain ⟨M1, e1, g1, s1, k1⟩ := ih (e + 1) (wr M 57 17 (nI (e + 1))) (by omega) (by omega) (by omega) (hT.x (SmX.w7 (by omega))) (by rw [wr_app, if_pos rfl, if_pos rfl])
      refine ⟨M1, ?_, g1, (SmN.wr (by omega)).tr s1, fun j hj => by rw [k1 j hj, wr_app, if_pos rfl, if_neg hj]⟩
      rw [decide_eq_true ⟨by omega, hy.2⟩, ifT, h17, ad1, wme, e1]
/-- a number's end -/
theorem x8_n131 {t : Nat → Nat} {n p : Nat} (hp : p < n) (h1 : tyN t n p = 2) : ∀ (m e : Nat) (M : Mem), p ≤ e → e ≤ enN t n p → enN t n p - e < m → TPR M t n → M 57 17 = nI e → M 57 19 = nI (vaN t p (e - p)) → ∃ M1, fX8_next_L131 m M = some ((), M1) ∧ M1 57 17 = nI (enN t n p) ∧ M1 57 19 = nI (valN t n p) ∧ SmN M M1 ∧ (∀ j, j ≠ 17 → j ≠ 19 → M1 57 j = M 57 j) := by
  obtain ⟨a1, a2, a3, a4⟩ := en_ok (t := t) hp
  intro m
  induction m with
  | zero => intro e M _ _ h; omega
  | succ m ih =>
    intro e M h2 h3 h4 hT h17 h19
    have hn := hT.2.2.1
    have hv := va_le t p (e - p)
    rw [fX8_next_L131, h17, x8_byte hT (by omega), bde, show (48 : Int32) = nI 48 from rfl, show (57 : Int32) = nI 57 from rfl, x8_withinL t M (by decide) (by decide) (hT.2.2.2 e) (by decide), bde]
    by_cases c : e = enN t n p
    · have hf : ¬ (e ≠ n ∧ 48 ≤ t e ∧ t e ≤ 57) := fun q => by
        rcases a3 with z | z
        · omega
        · apply z
          rw [h1, ty_k (by decide), ← c]
          exact ⟨by omega, (cl_2 _).mpr q.2⟩
      rw [decide_eq_false hf, ifF]
      exact ⟨M, rfl, by rw [h17, c], by rw [h19, c]; rfl, SmN.rf, fun _ _ _ => rfl⟩
    · have hy := a4 e h2 (by omega)
      rw [h1, ty_k (by decide), cl_2] at hy
      have ht := hT.2.2.2 e
      have hva : vaN t p (e + 1 - p) = min 100000 (10 * vaN t p (e - p) + t e - 48) := by
        rw [show e + 1 - p = (e - p) + 1 by omega]
        show min (10 * vaN t p (e - p) + t (p + (e - p)) - 48) 100000 = _
        rw [show p + (e - p) = e by omega, Nat.min_comm]
      obtain ⟨M1, e1, g1, v1, s1, k1⟩ := ih (e + 1) (wr (wr M 57 19 (nI (vaN t p (e + 1 - p)))) 57 17 (nI (e + 1))) (by omega) (by omega) (by omega) ((hT.x (SmX.w7 (by omega))).x (SmX.w7 (by omega))) (by rw [wr_app, if_pos rfl, if_pos rfl]) (by rw [wr_app, if_pos rfl, if_neg (by decide), wr_app, if_pos rfl, if_pos rfl])
      refine ⟨M1, ?_, g1, v1, ((SmN.wr (by omega)).tr (SmN.wr (by omega))).tr s1, fun j hj hj2 => by rw [k1 j hj hj2, wr_app, if_pos rfl, if_neg hj, wr_app, if_pos rfl, if_neg hj2]⟩
      rw [decide_eq_true ⟨by omega, hy.2⟩, ifT, h17, x8_byte hT (by omega), bde, if_neg (by omega), h19, mu10 _, nI_add, pk_sub (by omega), show (100000 : Int32) = nI 100000 from rfl, imin_nI (by decide) (by omega), ← hva, wme, wr_app, if_pos rfl, if_neg (by decide), h17, ad1, wme, e1]
theorem x8_n8 {t : Nat → Nat} {n : Nat} : ∀ (m b : Nat) (M : Mem), b ≤ n → n - b < m → cutP t n b → TPR M t n → M 57 16 = nI b → ∃ M1, fX8_next_L8 m M = some ((), M1) ∧ RPT M1 t n (fsN t n b) ∧ SmN M M1 := by
  intro m
  induction m with
  | zero => intro b M _ h; omega
  | succ m ih =>
    intro b M hb hm hc hT h16
    have hn := hT.2.2.1
    have h256 := hT.2.2.2 b
    rw [fX8_next_L8, h16, x8_byte hT hb, bde]
    rcases fs_cut hb hc with ⟨c1, c2, c3, c4⟩ | ⟨c1, c2⟩
    · rw [ty_k (by decide), cl_4] at c1
      obtain ⟨M1, e1, r1, s1⟩ := ih (b + 1) (wr M 57 16 (nI (b + 1))) (by omega) (by omega) c3 (hT.x (SmX.w7 (by omega))) (by rw [wr_app, if_pos rfl, if_pos rfl])
      refine ⟨M1, ?_, by rw [c2]; exact r1, (SmN.wr (by omega)).tr s1⟩
      rw [if_neg (show ¬ b = n by omega), if_pos (by rw [c1.2]; rfl), h16, ad1, wme, e1]
    · have hz : ¬ (if b = n then (-1 : Int32) else nI (t b)) = 32 := by
        by_cases e : b = n
        · rw [if_pos e]; decide
        · rw [if_neg e, q32 (by omega)]
          exact fun q => c1 ((ty_k (by decide)).mpr ⟨by omega, (cl_4 _).mpr q⟩)
      have hTk : tkP t n b := by
        have := (fs_ok t hb).2.2.1
        rw [c2] at this; exact this
      rw [if_neg hz, h16, x8_byte hT hb, bde, h16, wme, wme, c2]
      have f2 : SmN M (wr (wr M 57 17 (nI b)) 57 19 0) := (SmN.wr (by omega)).tr (SmN.wr (by omega))
      have g16 : (wr (wr M 57 17 (nI b)) 57 19 0) 57 16 = nI b := by rw [wr_app, if_pos rfl, if_neg (by decide), wr_app, if_pos rfl, if_neg (by decide)]; exact h16
      have g17 : (wr (wr M 57 17 (nI b)) 57 19 0) 57 17 = nI b := by rw [wr_app, if_pos rfl, if_neg (by decide), wr_app, if_pos rfl, if_pos rfl]
      have g19 : (wr (wr M 57 17 (nI b)) 57 19 0) 57 19 = 0 := by rw [wr_app, if_pos rfl, if_pos rfl]
      generalize wr (wr M 57 17 (nI b)) 57 19 0 = M7 at f2 g16 g17 g19
      have hT7 := hT.x f2.x
      by_cases e : b = n
      · have t0 : tyN t n b = 0 := ty_0.mpr (by omega)
        have hso : soN t n b = 0 := by unfold soN; rw [t0]; rfl
        have hen : eN t n b = b := by unfold eN; rw [if_pos (by omega)]; omega
        refine ⟨wr M7 57 18 0, ?_, ⟨hTk, by rw [wr_app, if_pos rfl, if_neg (by decide)]; exact g16, by rw [wr_app, if_pos rfl, if_neg (by decide), hen]; exact g17, by rw [wr_app, if_pos rfl, if_pos rfl, hso]; rfl, fun q => by rw [t0] at q; omega⟩, f2.tr (SmN.wr (by omega))⟩
        rw [if_pos e, if_neg (by decide), wme]
      · have hbn : b < n := by omega
        have htb : tyN t n b = ctyN (t b) := by unfold tyN; rw [if_pos hbn]
        have w1 := x8_withinL (lo := 97) (hi := 122) (i := b) (n := n) t M7 (by decide) (by decide) h256 (by decide)
        have w2 := x8_withinL (lo := 48) (hi := 57) (i := b) (n := n) t M7 (by decide) (by decide) h256 (by decide)
        rw [if_neg e] at w1 w2
        rw [if_neg e, if_pos (by rw [ge0 (by omega)]; omega), show (97 : Int32) = nI 97 from rfl, show (122 : Int32) = nI 122 from rfl, show (48 : Int32) = nI 48 from rfl, show (57 : Int32) = nI 57 from rfl, w1, bde]
        by_cases k1 : ctyN (t b) = 1
        · have hd := (cl_1 _).mp k1
          obtain ⟨M9, e9, q17, s9, r9⟩ := x8_n84 hbn (by rw [htb]; exact k1) fu b (wr M7 57 18 1) (Nat.le_refl _) (by have := (en_ok (t := t) hbn).1; omega) (by have := (en_ok (t := t) hbn).2.1; show _ < 2000; omega) (hT7.x (SmX.w7 (by omega))) (by rw [wr_app, if_pos rfl, if_neg (by decide)]; exact g17)
          refine ⟨M9, ?_, ⟨hTk, by rw [r9 16 (by decide), wr_app, if_pos rfl, if_neg (by decide)]; exact g16, ?_, ?_, fun q => by rw [htb, k1] at q; omega⟩, (f2.tr (SmN.wr (by omega))).tr s9⟩
          · rw [decide_eq_true ⟨e, hd⟩, ifT, wme, e9]
          · rw [q17]; unfold eN; rw [if_neg (by omega), if_pos (Or.inl (by rw [htb]; exact k1))]
          · rw [r9 18 (by decide), wr_app, if_pos rfl, if_pos rfl]; unfold soN; rw [htb, k1]; rfl
        · rw [decide_eq_false (fun q => k1 ((cl_1 _).mpr q.2)), ifF, w2, bde]
          by_cases k2 : ctyN (t b) = 2
          · have hd := (cl_2 _).mp k2
            obtain ⟨M9, e9, q17, v9, s9, r9⟩ := x8_n131 hbn (by rw [htb]; exact k2) fu b (wr M7 57 18 2) (Nat.le_refl _) (by have := (en_ok (t := t) hbn).1; omega) (by have := (en_ok (t := t) hbn).2.1; show _ < 2000; omega) (hT7.x (SmX.w7 (by omega))) (by rw [wr_app, if_pos rfl, if_neg (by decide)]; exact g17) (by rw [wr_app, if_pos rfl, if_neg (by decide), g19, Nat.sub_self]; rfl)
            refine ⟨M9, ?_, ⟨hTk, by rw [r9 16 (by decide) (by decide), wr_app, if_pos rfl, if_neg (by decide)]; exact g16, ?_, ?_, fun _ => v9⟩, (f2.tr (SmN.wr (by omega))).tr s9⟩
            · rw [decide_eq_true ⟨e, hd⟩, ifT, wme, e9]
            · rw [q17]; unfold eN; rw [if_neg (by omega), if_pos (Or.inr (by rw [htb]; exact k2))]
            · rw [r9 18 (by decide) (by decide), wr_app, if_pos rfl, if_pos rfl]; unfold soN; rw [htb, k2]; rfl
          · have h35 : soN t n b = 3 := by
              have h4 := c1
              have hge := cl_ge (t b)
              unfold soN
              rw [htb] at h4 ⊢
              split <;> omega
            refine ⟨wr (wr M7 57 18 3) 57 17 (nI (b + 1)), ?_, ⟨hTk, by rw [wr_app, if_pos rfl, if_neg (by decide), wr_app, if_pos rfl, if_neg (by decide)]; exact g16, ?_, ?_, fun q => by rw [htb] at q; exact absurd q k2⟩, (f2.tr (SmN.wr (by omega))).tr (SmN.wr (by omega))⟩
            · rw [decide_eq_false (fun q => k2 ((cl_2 _).mpr q.2)), ifF, wme, wr_app, if_pos rfl, if_neg (by decide), g17, ad1, wme]
            · rw [wr_app, if_pos rfl, if_pos rfl]; unfold eN; rw [if_neg (by omega), if_neg (by rw [htb]; omega)]
            · rw [wr_app, if_pos rfl, if_neg (by decide), wr_app, if_pos rfl, if_pos rfl, h35]; rfl
theorem x8_nextC {M : Mem} {t : Nat → Nat} {n e : Nat} (hT : TPR M t n) (he : e ≤ n) (hc : cutP t n e) (h17 : M 57 17 = nI e) : ∃ M1, fX8_next M = some ((), M1) ∧ RPT M1 t n (fsN t n e) ∧ SmN M M1 := by
  obtain ⟨M1, e1, r1, s1⟩ := x8_n8 fu e (wr M 57 16 (nI e)) he (by have := hT.2.2.1; show _ < 2000; omega) hc (hT.x (SmX.w7 (by omega))) (by rw [wr_app, if_pos rfl, if_pos rfl])
  refine ⟨M1, ?_, r1, (SmN.wr (by omega)).tr s1⟩
  unfold fX8_next
  rw [h17, wme, e1]
theorem eN_le {t : Nat → Nat} {n p : Nat} (h : p ≤ n) : eN t n p ≤ n := by
  unfold eN
  by_cases c : n ≤ p
  · rw [if_pos c]; exact Nat.le_refl _
  · rw [if_neg c]
    split
    · exact (en_ok (t := t) (show p < n by omega)).2.1
    · omega
/-- from a token to the next one; from the end to the end -/
def nx2 (t : Nat → Nat) (n p : Nat) : Nat := fsN t n (eN t n p)
theorem x8_nextT {M : Mem} {t : Nat → Nat} {n p : Nat} (hT : TPR M t n) (h : RPT M t n p) : ∃ M1, fX8_next M = some ((), M1) ∧ RPT M1 t n (nx2 t n p) ∧ SmN M M1 := x8_nextC hT (eN_le (tk_le h.1)) (cut_e h.1) h.2.2.1

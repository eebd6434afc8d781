/-! pairings: the class's tables -/
theorem mI_leM {a b : Nat} (ha : a < 2 ^ 30) (hb : b < 2 ^ 30) : (mI a ≤ mI b) = (a ≤ b) := by
  apply propext
  rw [Int32.le_iff_toInt_le, mI_toInt ha, mI_toInt hb]
  omega
theorem mI_eqM {a b : Nat} (ha : a < 2 ^ 30) (hb : b < 2 ^ 30) : (mI a = mI b) = (a = b) := by
  apply propext
  constructor
  · intro e
    have := congrArg Int32.toInt e
    rw [mI_toInt ha, mI_toInt hb] at this
    omega
  · intro e; rw [e]
/-- only the entry s of the tables changes -/
def FrP (M M1 : Mem) (s : Nat) : Prop := (∀ q, q ≠ 31 → q ≠ 32 → M1 q = M q) ∧ (∀ t, t ≠ s → M1 31 t = M 31 t ∧ M1 32 t = M 32 t)
theorem FrP.rf {M : Mem} {s : Nat} : FrP M M s := ⟨fun _ _ _ => rfl, fun _ _ => ⟨rfl, rfl⟩⟩
theorem FrP.tr {M M1 M2 : Mem} {s : Nat} (h1 : FrP M M1 s) (h2 : FrP M1 M2 s) : FrP M M2 s := ⟨fun q a b => (h2.1 q a b).trans (h1.1 q a b), fun t a => ⟨((h2.2 t a).1).trans (h1.2 t a).1, ((h2.2 t a).2).trans (h1.2 t a).2⟩⟩
theorem FrP.w31 {M : Mem} {s : Nat} {x : Int32} : FrP M (wr M 31 s x) s := ⟨fun q a _ => wr_n _ _ _ _ a, fun t a => ⟨by rw [wr_app, if_pos rfl, if_neg a], by rw [wr_n _ _ _ _ (by omega)]⟩⟩
theorem FrP.w32 {M : Mem} {s : Nat} {x : Int32} : FrP M (wr M 32 s x) s := ⟨fun q _ b => wr_n _ _ _ _ b, fun t a => ⟨by rw [wr_n _ _ _ _ (by omega)], by rw [wr_app, if_pos rfl, if_neg a]⟩⟩
theorem TBL.fr {M M1 : Mem} {f : Nat → Nat × Nat} {s : Nat} (h : TBL M f s) (g : FrP M M1 s) : TBL M1 f s := fun t ht => by
  obtain ⟨a, b⟩ := g.2 t (by omega)
  rw [a, b]
  exact h t ht
theorem VAL.fr {M M1 : Mem} {v : Nat → Nat → Nat} {n : Nat} (h : VAL M v n) (g : M1 30 = M 30) : VAL M1 v n := fun p q a b => by rw [g]; exact h p q a b
theorem x2_ws21 {v : Nat → Nat → Nat} {n s : Nat} (hv : VB v) (hn : n ≤ 8) (hs : s < 2 ^ n) (h0 : s ≠ 0) : ∀ (m k : Nat) (M : Mem), k ≤ 8 → 8 - k < m → VAL M v n → TBL M (bcP v) s → M 31 s = mI (stpP v (bcP v) s k).1 → M 32 s = nI (stpP v (bcP v) s k).2 →
    ∃ M1, fX2_weighSet_L21 m (nI s) (nI (lsN s)) (nI k) M = some ((), M1) ∧ FrP M M1 s ∧ M1 31 s = mI (stpP v (bcP v) s 8).1 ∧ M1 32 s = nI (stpP v (bcP v) s 8).2 := by
  have h256 := p256 hs hn
  obtain ⟨l1, l2, l3⟩ := ls_ok s h256 h0
  have hbc : ∀ t, t < s → (bcP v t).1 ≤ 100 * t + 1 := fun t ht => bc_le hv (t + 1) t (by omega) (by omega)
  intro m
  induction m with
  | zero => intro k M _ h2; omega
  | succ m ih =>
    intro k M hk hm hV hT h31 h32
    by_cases e : k = 8
    · subst e
      exact ⟨M, by rw [fX2_weighSet_L21, if_pos (by decide)], FrP.rf, h31, h32⟩
    · have hw := x2_worth (o := k) hv hV hn hs l1 (by omega) hT
      have hwl := wrt_le (o := k) hv h256 l1 hbc
      have hsl := stp_le hv h256 h0 hbc k
      have hst : stpP v (bcP v) s (k + 1) = (if (stpP v (bcP v) s k).1 < wrtN v (bcP v) s (lsN s) k then (wrtN v (bcP v) s (lsN s) k, (bcP v (wo s (lsN s) k)).2) else if wrtN v (bcP v) s (lsN s) k ≠ 0 ∧ wrtN v (bcP v) s (lsN s) k = (stpP v (bcP v) s k).1 then ((stpP v (bcP v) s k).1, (stpP v (bcP v) s k).2 + (bcP v (wo s (lsN s) k)).2) else stpP v (bcP v) s k) := rfl
      have hwo := wo_less (b := k) h256 l1
      have l99 : ∀ M', fX2_weighSet_L99 (fX2_weighSet_L21 m) (nI s) (nI (lsN s)) (nI k) M' = fX2_weighSet_L21 m (nI s) (nI (lsN s)) (nI (k + 1)) M' := by
        intro M'; unfold fX2_weighSet_L99; rw [bve, ad1]
      generalize hW : wrtN v (bcP v) s (lsN s) k = w at hw hwl hst
      -- one more is counted
      have l62 : ∀ (M' : Mem) (b c : Nat), b ≤ 100 * s → TBL M' (bcP v) s → M' 31 s = mI b → M' 32 s = nI c → w = b → w ≠ 0 → fX2_weighSet_L62 (fX2_weighSet_L21 m) (nI s) (nI (lsN s)) (nI k) (mI w) M' = fX2_weighSet_L21 m (nI s) (nI (lsN s)) (nI (k + 1)) (wr M' 32 s (nI (c + (bcP v (wo s (lsN s) k)).2))) := by
        intro M' b c hb hT' g1 g2 hwb hw0
        have t2 := (hT' _ hwo).2
        unfold fX2_weighSet_L62
        rw [if_neg (by rw [mI_m1 (by omega)]; exact hw0), ck_in h256 (by decide), ix_nI (by omega), g1, if_pos (by rw [hwb]), ck_in h256 (by decide), x2_without M' h256 l2 (by omega), bde, ck_in (wo_lt _ _ _) (by decide), ck_in h256 (by decide), ix_nI (show wo s (lsN s) k < 2 ^ 31 from Nat.lt_trans (wo_lt _ _ _) (by decide)), g2, t2, wme, nI_add, l99]
      rw [fX2_weighSet_L21, if_neg (by rw [show (8 : Int32) = nI 8 from rfl, lit_le (by omega) (by omega)]; omega), hw, bde, ck_in h256 (by decide), ix_nI (by omega), h31]
      have hle := mI_leM (a := w) (b := (stpP v (bcP v) s k).1) (by omega) (by omega)
      by_cases c : w ≤ (stpP v (bcP v) s k).1
      · rw [if_pos (by rw [hle]; exact c)]
        rw [if_neg (by omega)] at hst
        by_cases d : w ≠ 0 ∧ w = (stpP v (bcP v) s k).1
        · rw [if_pos d] at hst
          rw [l62 M _ _ hsl hT h31 h32 d.2 d.1]
          obtain ⟨M1, e1, f1, z1, z2⟩ := ih (k + 1) (wr M 32 s (nI ((stpP v (bcP v) s k).2 + (bcP v (wo s (lsN s) k)).2))) (by omega) (by omega) (hV.fr (wr_n _ _ _ _ (by omega))) (hT.fr FrP.w32) (by rw [hst, wr_n _ _ _ _ (by omega)]; exact h31) (by rw [hst, wr_app, if_pos rfl, if_pos rfl])
          exact ⟨M1, e1, FrP.w32.tr f1, z1, z2⟩
        · rw [if_neg d] at hst
          have hL : fX2_weighSet_L62 (fX2_weighSet_L21 m) (nI s) (nI (lsN s)) (nI k) (mI w) M = fX2_weighSet_L21 m (nI s) (nI (lsN s)) (nI (k + 1)) M := by
            unfold fX2_weighSet_L62
            by_cases z : w = 0
            · rw [if_pos (by rw [mI_m1 (by omega)]; exact z), l99]
            · rw [if_neg (by rw [mI_m1 (by omega)]; exact z), ck_in h256 (by decide), ix_nI (by omega), h31, if_neg (by rw [mI_eqM (by omega) (by omega)]; exact fun q => d ⟨z, q⟩), l99]
          rw [hL]
          exact ih (k + 1) M (by omega) (by omega) hV hT (by rw [hst]; exact h31) (by rw [hst]; exact h32)
      · rw [if_neg (by rw [hle]; exact c), ck_in h256 (by decide), wme, ck_in h256 (by decide), wme]
        rw [if_pos (by omega)] at hst
        have f0 : FrP M (wr (wr M 31 s (mI w)) 32 s (nI 0)) s := FrP.w31.tr FrP.w32
        have q1 : wr (wr M 31 s (mI w)) 32 s (nI 0) 31 s = mI w := by rw [wr_n _ _ _ _ (by omega), wr_app, if_pos rfl, if_pos rfl]
        have q2 : wr (wr M 31 s (mI w)) 32 s (nI 0) 32 s = nI 0 := by rw [wr_app, if_pos rfl, if_pos rfl]
        have hl := l62 (wr (wr M 31 s (mI w)) 32 s (nI 0)) w 0 hwl (hT.fr f0) q1 q2 rfl (by omega)
        rw [Nat.zero_add] at hl
        obtain ⟨M1, e1, f1, z1, z2⟩ := ih (k + 1) (wr (wr (wr M 31 s (mI w)) 32 s (nI 0)) 32 s (nI (bcP v (wo s (lsN s) k)).2)) (by omega) (by omega) (((hV.fr (M1 := wr M 31 s (mI w)) (wr_n _ _ _ _ (by omega))).fr (M1 := wr (wr M 31 s (mI w)) 32 s (nI 0)) (wr_n _ _ _ _ (by omega))).fr (wr_n _ _ _ _ (by omega))) ((hT.fr f0).fr FrP.w32) (by rw [hst, wr_n _ _ _ _ (by omega)]; exact q1) (by rw [hst, wr_app, if_pos rfl, if_pos rfl])
        exact ⟨M1, hl.trans e1, (f0.tr FrP.w32).tr f1, z1, z2⟩
theorem stp_low {v : Nat → Nat → Nat} {f : Nat → Nat × Nat} {s : Nat} (hs : s < 256) (h0 : s ≠ 0) : ∀ k, k ≤ lsN s → stpP v f s k = (0, 0) := by
  obtain ⟨l1, l2, l3⟩ := ls_ok s hs h0
  intro k
  induction k with
  | zero => intro _; rfl
  | succ k ih =>
    intro hk
    have hw : wrtN v f s (lsN s) k = 0 := by
      unfold wrtN
      rw [l3 k (by omega) (by omega), Bool.false_and, if_neg (by decide)]
    simp only [stpP]
    rw [hw, ih (by omega), if_neg (by show ¬ 0 < 0; omega), if_neg (fun q => q.1 rfl)]
theorem x2_weighSet {v : Nat → Nat → Nat} {n s : Nat} {M : Mem} (hv : VB v) (hn : n ≤ 8) (hs : s < 2 ^ n) (h0 : s ≠ 0) (hV : VAL M v n) (hT : TBL M (bcP v) s) : ∃ M1, fX2_weighSet (nI s) M = some ((), M1) ∧ FrP M M1 s ∧ TBL M1 (bcP v) (s + 1) := by
  have h256 := p256 hs hn
  obtain ⟨l1, l2, l3⟩ := ls_ok s h256 h0
  have f0 : FrP M (wr (wr M 31 s (mI 0)) 32 s (nI 0)) s := FrP.w31.tr FrP.w32
  have hz := stp_low (v := v) (f := bcP v) h256 h0 (lsN s) (Nat.le_refl _)
  obtain ⟨M1, e1, f1, z1, z2⟩ := x2_ws21 hv hn hs h0 fu (lsN s) (wr (wr M 31 s (mI 0)) 32 s (nI 0)) (by omega) (by show _ < 2000; omega) ((hV.fr (M1 := wr M 31 s (mI 0)) (wr_n _ _ _ _ (by omega))).fr (wr_n _ _ _ _ (by omega))) (hT.fr f0) (by rw [hz, wr_n _ _ _ _ (by omega), wr_app, if_pos rfl, if_pos rfl]) (by rw [hz, wr_app, if_pos rfl, if_pos rfl])
  refine ⟨M1, ?_, f0.tr f1, fun t ht => ?_⟩
  · unfold fX2_weighSet
    rw [x2_leastOf M h256 h0, bde, ck_in h256 (by decide), ix_nI (by omega), wme, ck_in h256 (by decide), wme]
    exact e1
  · by_cases e : t = s
    · rw [e, bc_s v h256 h0]; exact ⟨z1, z2⟩
    · exact (hT.fr (f0.tr f1)) t (by omega)

/-! fits, may: the class -/
theorem nI_all (x : Int32) : ∃ n, n < 2 ^ 32 ∧ x = nI n := ⟨x.toBitVec.toNat, x.toBitVec.isLt, Int32.toBitVec_inj.1 (by show x.toBitVec = BitVec.ofNat 32 x.toBitVec.toNat; simp)⟩
theorem x7_bitB {p : Nat} (x : Int32) (M : Mem) (hp : p < 32) : fX7_bit x (nI p) M = some (bI (bt x p), M) := by
  obtain ⟨n, hn, rfl⟩ := nI_all x
  unfold fX7_bit
  rw [ush_nI hp hn, and_1, tb_div, b_nI n hp]
/-- one's shade is as told -/
def shA (J : Lan) (l : Nat) (w : Nat → Int32) (p : Nat) : Bool := decide (∀ k, k < l → gH J + k < 16 → hasN (hrsN k J) p (gH J + k) = bt (w k) p)
theorem sh_t {J : Lan} {l : Nat} {w : Nat → Int32} {p : Nat} : shA J l w p = true ↔ ∀ k, k < l → gH J + k < 16 → hasN (hrsN k J) p (gH J + k) = bt (w k) p := decide_eq_true_iff
theorem bI_inj {a b : Bool} (h : bI a = bI b) : a = b := by
  cases a <;> cases b <;> first | rfl | exact absurd h (by decide)
theorem x4_iS5 {M : Mem} {J : Lan} {d l p : Nat} {w : Nat → Int32} (hR : RSt M J) (hW : WF J) (hl : l ≤ 40) (h2 : M d 2 = nI l) (hv : ∀ i, i < 40 → M (d + 1) i = w i) (hp : p < gN J) : ∀ (n k : Nat), gH J + k ≤ 16 → 16 - (gH J + k) < n → (∀ j, j < k → j < l → hasN (hrsN j J) p (gH J + j) = bt (w j) p) → fX4_isShadeOf_L5 d n (nI p) (nI (gH J + k)) M = some (bI (shA J l w p), M) := by
  have hn8 := hW.1
  obtain ⟨r1, r2, r3, r4⟩ := hR
  intro n
  induction n with
  | zero => intro k _ h; omega
  | succ n ih =>
    intro k hk hn hj
    rw [fX4_isShadeOf_L5]
    by_cases e : 16 ≤ gH J + k
    · have : shA J l w p = true := sh_t.mpr (fun j h1 h2 => hj j (by omega) h1)
      rw [if_pos (by rw [ge16 (by omega)]; exact e), ck_b1, this]; rfl
    · have es : nI (gH J + k) - nI (gH J) = nI k := by rw [pk_sub (by omega)]; congr 1; omega
      rw [if_neg (by rw [ge16 (by omega)]; exact e), r3, es, h2]
      by_cases c : l ≤ k
      · have : shA J l w p = true := sh_t.mpr (fun j h1 h2 => hj j (by omega) h1)
        rw [if_pos (by rw [lit_le (by omega) (by omega)]; exact c), ck_b1, this]; rfl
      · have hv1 := havA_lt hW (gH J + k)
        have ht := havA_tb (L := J) (h := gH J + k) hp
        rw [Nat.add_sub_cancel_left] at ht
        rw [if_neg (by rw [lit_le (by omega) (by omega)]; exact c), ck_in (by omega) (by decide), ix_nI (by omega), r2 _ (by omega) (by omega), x7_bit M (by omega) (by omega), bde, ht, r3, es, ck_in (by omega) (by decide), ix_nI (by omega), hv k (by omega), x7_bitB _ _ (by omega), bde]
        by_cases z : hasN (hrsN k J) p (gH J + k) = bt (w k) p
        · rw [z, if_pos rfl, bve, ad1]
          exact ih (k + 1) (by omega) (by omega) (fun j h1 h2 => by
            by_cases q : j = k
            · rw [q]; exact z
            · exact hj j (by omega) h2)
        · have : shA J l w p = false := by
            cases hb : shA J l w p
            · rfl
            · exact absurd (sh_t.mp hb k (by omega) (by omega)) z
          rw [if_neg (fun q => z (bI_inj q)), ck_b0, this]; rfl
theorem x4_isShade {M : Mem} {J : Lan} {d l p : Nat} {w : Nat → Int32} (hR : RSt M J) (hW : WF J) (hl : l ≤ 40) (h2 : M d 2 = nI l) (hv : ∀ i, i < 40 → M (d + 1) i = w i) (hp : p < gN J) : fX4_isShadeOf d (nI p) M = some (bI (shA J l w p), M) := by
  have hh := hW.2.1
  unfold fX4_isShadeOf
  rw [hR.2.2.1, bve]
  exact x4_iS5 hR hW hl h2 hv hp fu 0 (by omega) (by show _ < 2000; omega) (fun j h _ => by omega)
/-- nobody is told who isn't there -/
noncomputable def tkB (L : Lan) (l : Nat) (w : Nat → Int32) : Bool := @decide (∀ k, k < l → gH L + k < 16 → ∀ i, i < 32 → gN L ≤ i → bt (w k) i = false) (Classical.propDecidable _)
theorem tk_t {L : Lan} {l : Nat} {w : Nat → Int32} : tkB L l w = true ↔ ∀ k, k < l → gH L + k < 16 → ∀ i, i < 32 → gN L ≤ i → bt (w k) i = false := @decide_eq_true_iff _ (Classical.propDecidable _)
theorem and_out (x : Int32) (n : Nat) : (x &&& (nI (2 ^ n - 1) ^^^ (-1)) = 0) ↔ ∀ i, i < 32 → n ≤ i → bt x i = false := by
  have b0 : ∀ i, i < 32 → bt 0 i = false := fun i hi => by rw [nI_0', b_nI 0 hi, Nat.zero_testBit]
  constructor
  · intro h i hi hn
    have e : bt (x &&& (nI (2 ^ n - 1) ^^^ (-1))) i = false := by rw [h]; exact b0 i hi
    rw [b_and, b_not _ hi, b_nI _ hi, Nat.testBit_two_pow_sub_one, decide_eq_false (by omega)] at e
    simpa using e
  · intro h
    apply b_ext
    intro i hi
    rw [b0 i hi, b_and, b_not _ hi, b_nI _ hi, Nat.testBit_two_pow_sub_one]
    by_cases q : i < n
    · rw [decide_eq_true q]; simp
    · rw [h i hi (by omega)]; rfl
theorem x5_tl2 {M : Mem} {L : Lan} {d l : Nat} {w : Nat → Int32} (hW : WF L) (hl : l ≤ 40) (h2 : M d 2 = nI l) (hv : ∀ i, i < 40 → M (d + 1) i = w i) : ∀ (n k : Nat), gH L + k ≤ 16 → 16 - (gH L + k) < n → (∀ j, j < k → j < l → ∀ i, i < 32 → gN L ≤ i → bt (w j) i = false) → fX5_tellsSetsOf_L2 d n (nI (2 ^ gN L - 1)) (nI (16 - gH L)) (nI k) M = some (bI (tkB L l w), M) := by
  intro n
  induction n with
  | zero => intro k _ h; omega
  | succ n ih =>
    intro k hk hn hj
    rw [fX5_tellsSetsOf_L2, h2]
    by_cases c : l ≤ k
    · have : tkB L l w = true := tk_t.mpr (fun j h1 h2 => hj j (by omega) h1)
      rw [if_pos (by rw [lit_le (by omega) (by omega)]; exact c), ck_b1, this]; rfl
    · rw [if_neg (by rw [lit_le (by omega) (by omega)]; exact c)]
      by_cases e : 16 - gH L ≤ k
      · have : tkB L l w = true := tk_t.mpr (fun j h1 h2 => hj j (by omega) h1)
        rw [if_pos (by rw [lit_le (by omega) (by omega)]; exact e), ck_b1, this]; rfl
      · rw [if_neg (by rw [lit_le (by omega) (by omega)]; exact e), ck_in (by omega) (by decide), ix_nI (by omega), hv k (by omega)]
        by_cases z : w k &&& (nI (2 ^ gN L - 1) ^^^ (-1)) = 0
        · have z2 := (and_out _ _).mp z
          rw [if_pos z, bve, ad1]
          exact ih (k + 1) (by omega) (by omega) (fun j h1 h2 => by
            by_cases q : j = k
            · rw [q]; exact z2
            · exact hj j (by omega) h2)
        · have : tkB L l w = false := by
            cases hb : tkB L l w
            · rfl
            · exact absurd ((and_out _ _).mpr (tk_t.mp hb k (by omega) (by omega))) z
          rw [if_neg z, ck_b0, this]; rfl
/-- the land in which these two are mates (or this one has none) -/
def prL (L : Lan) (a b : Nat) : Lan := if a = b then sepL L a else joiL (sepL L a) a b
theorem prL_k {α : Type} (f : Lan → α) (hf : ∀ L g, f (sMt L g) = f L) (L : Lan) (a b : Nat) : f (prL L a b) = f L := by
  unfold prL
  split
  · exact sep_k f hf L a
  · exact (joi_k f hf _ a b).trans (sep_k f hf L a)
theorem wf_prL {L : Lan} (hW : WF L) {a b : Nat} (ha : a < gN L) (hb : b < gN L) : WF (prL L a b) := by
  unfold prL
  split
  · exact wf_sep hW ha
  · rename_i h
    exact wf_joi (wf_sep hW ha) (by rw [sep_N]; exact ha) (by rw [sep_N]; exact hb) h
/-- a pair's value: 1 if its shade is as told (what it brings, and one), else 0 -/
def vSh (L : Lan) (l : Nat) (w : Nat → Int32) (a b : Nat) : Nat := if (shA (prL L a b) l w a && shA (prL L a b) l w b) = true then 1 else 0
theorem vsh_01 (L : Lan) (l : Nat) (w : Nat → Int32) : ∀ p q, vSh L l w p q ≤ 1 := by
  intro p q
  unfold vSh
  split <;> omega
theorem vsh_VB (L : Lan) (l : Nat) (w : Nat → Int32) : VB (vSh L l w) := fun p q => Nat.le_trans (vsh_01 L l w p q) (by decide)
/-- the rest's cells and the values -/
def FrV (M M1 : Mem) : Prop := ∀ k, (k < 15 ∨ k = 29 ∨ 32 < k) → M1 k = M k
theorem FrV.rf {M : Mem} : FrV M M := fun _ _ => rfl
theorem FrV.tr {M M1 M2 : Mem} (h1 : FrV M M1) (h2 : FrV M1 M2) : FrV M M2 := fun k hk => (h2 k hk).trans (h1 k hk)
theorem FrV.fc {M M1 : Mem} (h : FrV M M1) : FC M M1 := fun k hk => h k (by omega)
theorem FrV.ofR {M M1 : Mem} (h : SmR M M1) : FrV M M1 := fun k hk => h k (by omega)
theorem x1_join2 {M : Mem} {b p q : Nat} {L : Lan} (hC : CLn M b (sepL L p)) (hW : WF L) (hp : p < gN L) (hq : q < gN L) : ∃ M1, fX1_join b (nI p) (nI q) M = some ((), M1) ∧ CLn M1 b (prL L p q) ∧ Sm b M M1 := by
  have hn := hW.1
  have w1 := wf_sep hW hp
  have n1 : gN (sepL L p) = gN L := sep_N L p
  by_cases c : p = q
  · subst c
    refine ⟨M, ?_, by unfold prL; rw [if_pos rfl]; exact hC, Sm.rf⟩
    unfold fX1_join
    rw [x1_areTwo hC w1, decide_eq_false (fun h => h rfl), Bool.and_false, bde, ifF]
  · have := x1_join hC w1 (p := p) (q := q) (by rw [n1]; exact hp) (by rw [n1]; exact hq) c
    unfold prL
    rw [if_neg c]
    exact this
theorem x7_ws41 {k28 : Int32 → Mem → Option (Int32 × Mem)} {L : Lan} {d l : Nat} {w : Nat → Int32} (hW : WF L) (hd : 46 < d) (hl : l ≤ 40) {p : Nat} (hp : p < gN L) : ∀ (m q : Nat) (M : Mem), p ≤ q → q ≤ gN L → gN L - q < m → CLn M 1 L → M d 2 = nI l → (∀ i, i < 40 → M (d + 1) i = w i) → (∀ a b, a ≤ b → b < gN L → (a < p ∨ (a = p ∧ b < q)) → M 30 (a * 8 + b) = mI (vSh L l w a b)) →
    ∃ M1, fX7_weighByShade_L41 d k28 m (nI p) (nI q) M = k28 (nI (p + 1)) M1 ∧ FrV M M1 ∧ (∀ a b, a ≤ b → b < gN L → a < p + 1 → M1 30 (a * 8 + b) = mI (vSh L l w a b)) := by
  have hn := hW.1
  intro m
  induction m with
  | zero => intro q M _ _ h; omega
  | succ m ih =>
    intro q M hpq hq hm hC h2 hv hV
    have h6 : M 1 6 = nI (gN L) := hC.2.2.2.2.2.2.1
    rw [fX7_weighByShade_L41, h6]
    by_cases e : q = gN L
    · refine ⟨M, ?_, FrV.rf, fun a b h1 h2 h3 => hV a b h1 h2 (by omega)⟩
      rw [if_pos (by rw [lit_le (by omega) (by omega)]; omega), bve, ad1]
    · have hqn : q < gN L := by omega
      have hP := wf_prL hW hp hqn
      have pN : gN (prL L p q) = gN L := prL_k gN (fun _ _ => rfl) L p q
      have pH : gH (prL L p q) = gH L := prL_k gH (fun _ _ => rfl) L p q
      have pr : rstN (prL L p q) = rstN L := by unfold rstN; rw [pH]
      obtain ⟨M1, e1, c1, b2, b3, s1⟩ := x4_begin hC hW (by decide)
      obtain ⟨M2, e2, c2, s2⟩ := x1_separate c1 hW hp
      obtain ⟨M3, e3, c3, s3⟩ := x1_join2 c2 hW hp hqn
      obtain ⟨M4, e4, c4, s4⟩ := x4_run c3 hP (by rw [s3 15 (by decide), s2 15 (by decide), pH]; exact b2) (by rw [s3 15 (by decide), s2 15 (by decide), pr]; exact b3)
      have f4 : SmR M M4 := ((s1.tr (SmR.of s2)).tr (SmR.of s3)).tr s4
      have g2 : M4 d 2 = nI l := by rw [f4 d (by omega)]; exact h2
      have gv : ∀ i, i < 40 → M4 (d + 1) i = w i := fun i hi => by rw [f4 (d + 1) (by omega)]; exact hv i hi
      have i1 := x4_isShade (p := p) c4 hP hl g2 gv (by rw [pN]; exact hp)
      have i2 := x4_isShade (p := q) c4 hP hl g2 gv (by rw [pN]; exact hqn)
      have f5 : FrV M (wr M4 30 (p * 8 + q) (mI (vSh L l w p q))) := (FrV.ofR f4).tr (fun k hk => wr_n _ _ _ _ (by omega))
      obtain ⟨M5, e5, s5, z5⟩ := ih (q + 1) (wr M4 30 (p * 8 + q) (mI (vSh L l w p q))) (by omega) (by omega) (by omega) (cl_same hC (fun k _ _ => f5 k (by omega))) (by rw [f5 d (by omega)]; exact h2) (fun i hi => by rw [f5 (d + 1) (by omega)]; exact hv i hi) (fun a b h1 h2 h3 => by
        rw [wr_app, if_pos rfl]
        by_cases y : a = p ∧ b = q
        · rw [if_pos (by omega), y.1, y.2]
        · rw [if_neg (by omega), f4 30 (by omega)]
          exact hV a b h1 h2 (by omega))
      have fin : ∀ x : Int32, x = mI (vSh L l w p q) → fX7_weighByShade_L128 d (fX7_weighByShade_L41 d k28 m) (nI p) (nI q) x (nI q) (nI p) M4 = k28 (nI (p + 1)) M5 := by
        intro x hx
        unfold fX7_weighByShade_L128
        rw [x2_value (by omega) (by omega), bde, bve, ad1, hx, e5]
      refine ⟨M5, ?_, f5.tr s5, z5⟩
      rw [if_neg (by rw [lit_le (by omega) (by omega)]; omega), e1, bde, e2, bde, e3, bde, e4, bde, i1, bde]
      unfold fX7_weighByShade_L127
      cases y1 : shA (prL L p q) l w p
      · rw [ifF]
        exact fin _ (by unfold vSh; rw [y1]; rfl)
      · rw [ifT, i2, bde]
        cases y2 : shA (prL L p q) l w q
        · rw [ifF]
          exact fin _ (by unfold vSh; rw [y1, y2]; rfl)
        · rw [ifT]
          exact fin _ (by unfold vSh; rw [y1, y2]; rfl)
theorem x7_ws28 {L : Lan} {d l : Nat} {w : Nat → Int32} (hW : WF L) (hd : 46 < d) (hl : l ≤ 40) : ∀ (m p : Nat) (M : Mem), p ≤ gN L → gN L - p < m → CLn M 1 L → M d 2 = nI l → (∀ i, i < 40 → M (d + 1) i = w i) → (∀ a b, a ≤ b → b < gN L → a < p → M 30 (a * 8 + b) = mI (vSh L l w a b)) →
    ∃ M1, fX7_weighByShade_L28 d m (nI p) M = some (1, M1) ∧ FrV M M1 ∧ VAL M1 (vSh L l w) (gN L) ∧ TBL M1 (bcP (vSh L l w)) (2 ^ gN L) := by
  have hn := hW.1
  intro m
  induction m with
  | zero => intro p M _ h; omega
  | succ m ih =>
    intro p M hp hm hC h2 hv hV
    have h6 : M 1 6 = nI (gN L) := hC.2.2.2.2.2.2.1
    rw [fX7_weighByShade_L28, h6]
    by_cases e : p = gN L
    · obtain ⟨M1, e1, f1, v1, t1⟩ := x2_weigh (v := vSh L l w) (M := M) (vsh_VB L l w) hn (fun a b h1 h2 => hV a b h1 h2 (by omega))
      refine ⟨M1, ?_, fun k hk => f1 k (by omega), v1, t1⟩
      rw [if_pos (by rw [lit_le (by omega) (by omega)]; omega), x1_everybody hC hW, bde, e1, bde, ck_b1]
    · have hpn : p < gN L := by omega
      obtain ⟨M1, e1, f1, z1⟩ := x7_ws41 (k28 := fX7_weighByShade_L28 d m) hW hd hl hpn fu p M (Nat.le_refl _) (by omega) (by show _ < 2000; omega) hC h2 hv (fun a b h1 h2 h3 => hV a b h1 h2 (by omega))
      obtain ⟨M2, e2, f2, v2, t2⟩ := ih (p + 1) M1 (by omega) (by omega) (cl_same hC (fun k _ _ => f1 k (by omega))) (by rw [f1 d (by omega)]; exact h2) (fun i hi => by rw [f1 (d + 1) (by omega)]; exact hv i hi) z1
      refine ⟨M2, ?_, f1.tr f2, v2, t2⟩
      rw [if_neg (by rw [lit_le (by omega) (by omega)]; omega), e1, e2]
theorem x7_weighS {L : Lan} {M : Mem} {d l : Nat} {w : Nat → Int32} (hW : WF L) (hd : 46 < d) (hl : l ≤ 40) (hC : CLn M 1 L) (h2 : M d 2 = nI l) (hv : ∀ i, i < 40 → M (d + 1) i = w i) : ∃ M1, fX7_weighByShade d M = some (bI (tkB L l w), M1) ∧ FrV M M1 ∧ (tkB L l w = true → VAL M1 (vSh L l w) (gN L) ∧ TBL M1 (bcP (vSh L l w)) (2 ^ gN L)) := by
  have hn := hW.1
  have hh := hW.2.1
  have h8 : M 1 8 = nI (gH L) := hC.2.2.2.2.2.2.2.2.1
  have hs : (16 : Int32) - nI (gH L) = nI (16 - gH L) := pk_sub (a := 16) hh
  have ht := x5_tl2 hW hl h2 hv fu 0 (by omega) (by show _ < 2000; omega) (fun j h _ => by omega)
  cases hk : tkB L l w
  · refine ⟨M, ?_, FrV.rf, fun h => by cases h⟩
    unfold fX7_weighByShade fX5_tellsSetsOf
    rw [x1_everybody hC hW, bde, h8, hs, nI_0', ht, hk, bde]
    exact (if_pos rfl).trans ck_b0
  · obtain ⟨M1, e1, f1, v1, t1⟩ := x7_ws28 hW hd hl fu 0 M (Nat.zero_le _) (by show _ < 2000; omega) hC h2 hv (fun a b _ _ h => by omega)
    refine ⟨M1, ?_, f1, fun _ => ⟨v1, t1⟩⟩
    unfold fX7_weighByShade fX5_tellsSetsOf
    rw [x1_everybody hC hW, bde, h8, hs, nI_0', ht, hk, bde]
    exact (if_neg (by decide)).trans e1
/-- whom a person may have -/
def myN (v : Nat → Nat → Nat) (s x : Nat) : Nat := stN (fun o => decide (wrtN v (bcP v) s x o ≠ 0)) 8
theorem x2_mo16 {M : Mem} {v : Nat → Nat → Nat} {n s x : Nat} (hv : VB v) (hV : VAL M v n) (hn : n ≤ 8) (hs : s < 2 ^ n) (hx : s.testBit x = true) (hT : TBL M (bcP v) (2 ^ n)) : ∀ (m k : Nat), k ≤ 8 → 8 - k < m → fX2_matesOf_L16 m (nI x) (nI (stN (fun o => decide (wrtN v (bcP v) s x o ≠ 0)) k)) (nI s) (nI k) M = some (nI (myN v s x), M) := by
  have h256 := p256 hs hn
  have x8 := tb_lt8 h256 hx
  have hbc : ∀ t, t < s → (bcP v t).1 ≤ 100 * t + 1 := fun t ht => bc_le hv (t + 1) t (by omega) (by omega)
  intro m
  induction m with
  | zero => intro k _ h; omega
  | succ m ih =>
    intro k hk hm
    rw [fX2_matesOf_L16]
    by_cases e : k = 8
    · subst e; rw [if_pos (by decide)]; rfl
    · have hi := ih (k + 1) (by omega) (by omega)
      have hw := x2_worth (o := k) hv hV hn hs hx (by omega) (fun t ht => hT t (by omega))
      have hwl := wrt_le (o := k) hv h256 hx hbc
      have hwi : fX7_isWithin (nI x) 7 M = some (bI true, M) := by rw [show (7 : Int32) = nI 7 from rfl, x7_isWithin (k := 7) (nI x) M (by decide), pIn_t (by omega) (by decide)]
      rw [if_neg (by rw [show (8 : Int32) = nI 8 from rfl, lit_le (by omega) (by omega)]; omega), hwi, bde, ifT, hw, bde]
      unfold fX2_matesOf_L52
      by_cases c : wrtN v (bcP v) s x k = 0
      · rw [if_pos (by rw [mI_m1 (by omega)]; exact c), bve, ad1, ← hi, st_n (by rw [decide_eq_false (fun q => q c)])]
      · rw [if_neg (by rw [mI_m1 (by omega)]; exact c), st_s (by omega) (by rw [decide_eq_true c]), bve, bve, ad1, hi]
theorem x7_fits {S : Sta} {M : Mem} (hW : WFS S) (h : AC M S) {s : Nat} (hs : s < 4) (e : tSb S s ≠ 0) : ∃ M1, fX7_fits (nI s) M = some (nI (if tkB (tLa S) (tSl S s) (tSn S s) = true then (bcP (vSh (tLa S) (tSl S s) (tSn S s)) (2 ^ gN (tLa S) - 1)).2 else 0), M1) ∧ FC M M1 := by
  have hn := hW.1.1
  have h2 : 2 ^ gN (tLa S) ≤ 256 := by have := Nat.pow_le_pow_right (n := 2) (by decide) hn; simpa using this
  have hpp : 0 < 2 ^ gN (tLa S) := Nat.two_pow_pos _
  have hix : ix (nI s) = s := ix_nI (by omega)
  obtain ⟨g1, g2, g3⟩ := h.2.2.2.2.2.1 s hs
  have hl := (hW.2.2.2.2 s hs).2
  obtain ⟨M1, e1, f1, t1⟩ := x7_weighS hW.1 (d := 48 + 2 * s) (by omega) hl h.1 g2 g3
  have c1 : CLn M1 1 (tLa S) := cl_same h.1 (fun k _ _ => f1 k (by omega))
  refine ⟨M1, ?_, f1.fc⟩
  unfold fX7_fits fX2_waysOf
  rw [x7_lackOf h hW, pIn_t hs (by decide), if_neg (by decide), hix, if_neg e, bde, if_pos rfl, ck_in hs (by decide), e1, bde]
  cases hk : tkB (tLa S) (tSl S s) (tSn S s)
  · rw [ifF]; rfl
  · obtain ⟨v2, t2⟩ := t1 hk
    rw [ifT, if_pos rfl, x1_everybody c1 hW.1, bde, x7_w255, pIn_t (by omega) (by decide), bde, ifT, ck_in (by omega) (by decide), ix_nI (by omega), (t2 _ (by omega)).2, bde]
theorem x7_may {S : Sta} {M : Mem} (hW : WFS S) (h : AC M S) {s x : Nat} (hs : s < 4) (e : tSb S s ≠ 0) (hx : x < gN (tLa S)) : ∃ M1, fX7_may (nI s) (nI x) M = some (nI (if tkB (tLa S) (tSl S s) (tSn S s) = true then myN (vSh (tLa S) (tSl S s) (tSn S s)) (2 ^ gN (tLa S) - 1) x else 0), M1) ∧ FC M M1 := by
  have hn := hW.1.1
  have h2 : 2 ^ gN (tLa S) ≤ 256 := by have := Nat.pow_le_pow_right (n := 2) (by decide) hn; simpa using this
  have hpp : 0 < 2 ^ gN (tLa S) := Nat.two_pow_pos _
  have hix : ix (nI s) = s := ix_nI (by omega)
  obtain ⟨g1, g2, g3⟩ := h.2.2.2.2.2.1 s hs
  have hl := (hW.2.2.2.2 s hs).2
  obtain ⟨M1, e1, f1, t1⟩ := x7_weighS hW.1 (d := 48 + 2 * s) (by omega) hl h.1 g2 g3
  have c1 : CLn M1 1 (tLa S) := cl_same h.1 (fun k _ _ => f1 k (by omega))
  have hand : nI (2 ^ gN (tLa S) - 1) &&& (256 - 1) = nI (2 ^ gN (tLa S) - 1) := by
    rw [show (256 - 1 : Int32) = nI (2 ^ 8 - 1) from rfl, nI_and, Nat.and_two_pow_sub_one_eq_mod, Nat.mod_eq_of_lt (by omega)]
  refine ⟨M1, ?_, f1.fc⟩
  unfold fX7_may fX2_matesOf
  rw [x7_lackOf h hW, pIn_t hs (by decide), if_neg (by decide), hix, if_neg e, bde, if_pos rfl, x1_isPerson h.1 hW.1, pIn_t hx (by omega), bde, ifT, ck_in hs (by decide), e1, bde]
  cases hk : tkB (tLa S) (tSl S s) (tSn S s)
  · rw [ifF]; rfl
  · obtain ⟨v2, t2⟩ := t1 hk
    have hr := x2_mo16 (x := x) (s := 2 ^ gN (tLa S) - 1) (vsh_VB (tLa S) (tSl S s) (tSn S s)) v2 hn (by omega) (by rw [Nat.testBit_two_pow_sub_one, decide_eq_true hx]) t2 fu 0 (by omega) (by show _ < 2000; omega)
    rw [ifT, if_pos rfl, x1_everybody c1 hW.1, bde, hand, bve]
    exact (congrArg (fun z => bd z _) hr).trans (bde _ _)

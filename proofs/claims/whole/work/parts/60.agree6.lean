/-! changes: the reference's table -/
theorem x8_mayHave {M : Mem} {L : Lan} (hC : RLn M 58 L) (hW : WF L) {p q h w : Nat} (hp : p < gN L) (hq : q < gN L) (hh : h < 16) (hw : w = 1 ∨ w = 2) : fX8_mayHave (nI p) (nI q) (nI h) (nI w) M = some (bI (decide ((gNd L p).testBit h = (gNd L q).testBit h) || (if w = 1 then (gNd L p).testBit h else !(gNd L p).testBit h)), M) := by
  have hn := hW.1
  have np := (hW.2.2.2.1 p (by omega)).2.2.2
  have nq := (hW.2.2.2.1 q (by omega)).2.2.2
  unfold fX8_mayHave
  rw [x8_Nd hC (by omega), bde, x8_has M (by omega) (by omega), bde, x8_Nd hC (by omega), bde, x8_has M (by omega) (by omega), bde]
  unfold fX8_mayHave_L44
  rcases hw with rfl | rfl
  · cases (gNd L p).testBit h <;> cases (gNd L q).testBit h <;> rfl
  · cases (gNd L p).testBit h <;> cases (gNd L q).testBit h <;> rfl
def RowF (M : Mem) (n0 n1 s : Nat → Bool) (h : Nat) : Prop := ∀ w, w < 3 → M 62 (3 * h + w) = nI (fewN n0 n1 s (16 - h) w)
theorem x8_chg {M : Mem} {n0 n1 s : Nat → Bool} {h q w : Nat} (hR : RowF M n0 n1 s (h + 1)) (hh : h < 16) (hq : q < 3) (hw : w = 1 ∨ w = 2) : fX8_changesWith (nI h) (nI q) (nI w) M = some (nI (costN (fewN n0 n1 s (15 - h) 1) (fewN n0 n1 s (15 - h) 2) q w), M) := by
  have r1 : M 62 (3 * (h + 1) + w) = nI (if w = 1 then fewN n0 n1 s (15 - h) 1 else fewN n0 n1 s (15 - h) 2) := by
    rcases hw with rfl | rfl
    · rw [hR 1 (by decide), show 16 - (h + 1) = 15 - h by omega]; rfl
    · rw [hR 2 (by decide), show 16 - (h + 1) = 15 - h by omega]; rfl
  have l14 : ∀ x : Nat, fX8_changesWith_L14 (nI h) (nI w) (nI x) M = some (nI (x + if w = 1 then fewN n0 n1 s (15 - h) 1 else fewN n0 n1 s (15 - h) 2), M) := by
    intro x
    unfold fX8_changesWith_L14
    rw [ad1, mu3, nI_add, ck_in (by omega) (by decide), ix_nI (by omega), r1, nI_add]
  have l9 : fX8_changesWith_L9 (nI h) (nI w) M = some (nI (0 + if w = 1 then fewN n0 n1 s (15 - h) 1 else fewN n0 n1 s (15 - h) 2), M) := l14 0
  have l1 : fX8_changesWith_L14 (nI h) (nI w) 1 M = some (nI (1 + if w = 1 then fewN n0 n1 s (15 - h) 1 else fewN n0 n1 s (15 - h) 2), M) := l14 1
  unfold fX8_changesWith costN
  rw [l9, l1]
  by_cases a : q = 0
  · rw [if_pos (by rw [a]; rfl), if_pos (Or.inl a)]
  · rw [if_neg (by rw [nI_0', lit_eq (by omega) (by omega)]; exact a)]
    by_cases b : q = w
    · rw [if_pos (by rw [b]), if_pos (Or.inr b)]
    · rw [if_neg (by rw [lit_eq (by omega) (by omega)]; exact b), if_neg (show ¬ (q = 0 ∨ q = w) by omega)]
theorem few_e (n0 n1 s : Nat → Bool) {h : Nat} (hh : h < 16) (hs : s h = true) (q : Nat) : fewN n0 n1 s (16 - h) q = (if n0 h = n1 h then min (costN (fewN n0 n1 s (15 - h) 1) (fewN n0 n1 s (15 - h) 2) q 1) (costN (fewN n0 n1 s (15 - h) 1) (fewN n0 n1 s (15 - h) 2) q 2) else if n0 h = true then costN (fewN n0 n1 s (15 - h) 1) (fewN n0 n1 s (15 - h) 2) q 1 else costN (fewN n0 n1 s (15 - h) 1) (fewN n0 n1 s (15 - h) 2) q 2) := by
  have e : 16 - h = (15 - h) + 1 := by omega
  have e2 : 15 - (15 - h) = h := by omega
  rw [e]
  simp only [fewN, e2, hs, if_true]
theorem cost_lt (n0 n1 s : Nat → Bool) (h q w : Nat) : costN (fewN n0 n1 s (15 - h) 1) (fewN n0 n1 s (15 - h) 2) q w < 100 := by
  obtain ⟨i1, i2, i3, i4, i5, i6, i7, i8⟩ := few_inv n0 n1 s (15 - h)
  unfold costN
  split <;> split <;> omega
theorem x8_fa76 {k39 : Int32 → Int32 → Int32 → Int32 → Mem → Option (Int32 × Mem)} {M : Mem} {L : Lan} {n p q h r : Nat} {s : Nat → Bool} (hC : RLn M 58 L) (hW : WF L) (hp : p < gN L) (hq : q < gN L) (hh : h < 16) (hr : r < 3) (hs : s h = true) (hl : (gL L).testBit h = true) (hR : RowF M (gNd L p).testBit (gNd L q).testBit s (h + 1)) :
    fX8_findAgreement_L76 k39 (n + 1 + 1 + 1) (nI p) (nI q) (nI h) (nI r) 1000000 1 M = fX8_findAgreement_L129 k39 (nI p) (nI q) (nI h) (nI r) (nI (fewN (gNd L p).testBit (gNd L q).testBit s (16 - h) r)) M := by
  have li : fX8_isLit (nI h) M = some (bI true, M) := by rw [← hl]; exact x8_isLit hC hW (by omega)
  have m1 := x8_mayHave (w := 1) hC hW hp hq hh (Or.inl rfl)
  have m2 := x8_mayHave (w := 2) hC hW hp hq hh (Or.inr rfl)
  have c1 := x8_chg (q := r) (w := 1) hR hh hr (Or.inl rfl)
  have c2 := x8_chg (q := r) (w := 2) hR hh hr (Or.inr rfl)
  have b1 := cost_lt (gNd L p).testBit (gNd L q).testBit s h r 1
  have b2 := cost_lt (gNd L p).testBit (gNd L q).testBit s h r 2
  rw [few_e _ _ _ hh hs]
  generalize hA : costN (fewN (gNd L p).testBit (gNd L q).testBit s (15 - h) 1) (fewN (gNd L p).testBit (gNd L q).testBit s (15 - h) 2) r 1 = A at c1 b1 ⊢
  generalize hB : costN (fewN (gNd L p).testBit (gNd L q).testBit s (15 - h) 1) (fewN (gNd L p).testBit (gNd L q).testBit s (15 - h) 2) r 2 = B at c2 b2 ⊢
  have step : ∀ (y5 : Nat) (m w : Nat) (al : Bool) (X : Nat), y5 < 2 ^ 30 → X < 100 → w = 1 ∨ w = 2 → fX8_mayHave (nI p) (nI q) (nI h) (nI w) M = some (bI al, M) → fX8_changesWith (nI h) (nI r) (nI w) M = some (nI X, M) → fX8_findAgreement_L76 k39 (m + 1) (nI p) (nI q) (nI h) (nI r) (nI y5) (nI w) M = fX8_findAgreement_L76 k39 m (nI p) (nI q) (nI h) (nI r) (nI (if al = true then min y5 X else y5)) (nI (w + 1)) M := by
    intro y5 m w al X hy hX hw hm hc
    rw [fX8_findAgreement_L76, if_neg (by rw [ge3 (by omega)]; omega), li, bde, ifT, hm, bde]
    cases al
    · rw [ifF, if_neg (by decide)]
      unfold fX8_findAgreement_L121
      rw [bve, ad1]
    · rw [ifT, if_pos rfl, hc, bde, imin_nI (by omega) (by omega)]
      unfold fX8_findAgreement_L121
      rw [bve, ad1]
  have s1 := step 1000000 (n + 1 + 1) 1 _ A (by decide) b1 (Or.inl rfl) m1 c1
  have s2 := fun y hy => step y (n + 1) 2 _ B hy b2 (Or.inr rfl) m2 c2
  have s1' : fX8_findAgreement_L76 k39 (n + 1 + 1 + 1) (nI p) (nI q) (nI h) (nI r) 1000000 1 M = _ := s1
  have hb : ∀ c : Bool, (if c = true then min 1000000 A else 1000000) < 2 ^ 30 := by
    intro c
    cases c
    · rw [if_neg (by decide)]; decide
    · rw [if_pos rfl]; omega
  rw [s1', s2 _ (hb _), fX8_findAgreement_L76, if_pos (by decide)]
  congr 1
  cases (gNd L p).testBit h <;> cases (gNd L q).testBit h <;> simp <;> congr 1 <;> omega

/-! the whole state, and how class and reference hold it -/
abbrev Sta : Type := Lan × Lan × Bool × (Nat → Nat) × Nat × (Nat → Nat) × (Nat → Nat) × (Nat → Nat → Int32) × (Nat → Int32)
def tLa (S : Sta) : Lan := S.1
def tKe (S : Sta) : Lan := S.2.1
def tKf (S : Sta) : Bool := S.2.2.1
def tTa (S : Sta) : Nat → Nat := S.2.2.2.1
def tTl (S : Sta) : Nat := S.2.2.2.2.1
def tSb (S : Sta) : Nat → Nat := S.2.2.2.2.2.1
def tSl (S : Sta) : Nat → Nat := S.2.2.2.2.2.2.1
def tSn (S : Sta) : Nat → Nat → Int32 := S.2.2.2.2.2.2.2.1
def tFn (S : Sta) : Nat → Int32 := S.2.2.2.2.2.2.2.2
def wLa (S : Sta) (v : Lan) : Sta := (v, tKe S, tKf S, tTa S, tTl S, tSb S, tSl S, tSn S, tFn S)
def wKe (S : Sta) (v : Lan) : Sta := (tLa S, v, tKf S, tTa S, tTl S, tSb S, tSl S, tSn S, tFn S)
def wKf (S : Sta) (v : Bool) : Sta := (tLa S, tKe S, v, tTa S, tTl S, tSb S, tSl S, tSn S, tFn S)
def wTa (S : Sta) (v : Nat → Nat) : Sta := (tLa S, tKe S, tKf S, v, tTl S, tSb S, tSl S, tSn S, tFn S)
def wTl (S : Sta) (v : Nat) : Sta := (tLa S, tKe S, tKf S, tTa S, v, tSb S, tSl S, tSn S, tFn S)
def wSb (S : Sta) (v : Nat → Nat) : Sta := (tLa S, tKe S, tKf S, tTa S, tTl S, v, tSl S, tSn S, tFn S)
def wSl (S : Sta) (v : Nat → Nat) : Sta := (tLa S, tKe S, tKf S, tTa S, tTl S, tSb S, v, tSn S, tFn S)
def wSn (S : Sta) (v : Nat → Nat → Int32) : Sta := (tLa S, tKe S, tKf S, tTa S, tTl S, tSb S, tSl S, v, tFn S)
def wFn (S : Sta) (v : Nat → Int32) : Sta := (tLa S, tKe S, tKf S, tTa S, tTl S, tSb S, tSl S, tSn S, v)
def WFS (S : Sta) : Prop := WF (tLa S) ∧ (tKf S = true → WF (tKe S)) ∧ tTl S ≤ 120 ∧ (∀ i, tTa S i < 256) ∧ (∀ s, s < 4 → (tSb S s = 0 ∨ tSb S s = 8 ∨ tSb S s = 16 ∨ tSb S s = 32) ∧ tSl S s ≤ 40)
/-- the class holds S -/
def AC (M : Mem) (S : Sta) : Prop :=
  CLn M 1 (tLa S) ∧ (tKf S = true → CLn M 8 (tKe S)) ∧ M 0 9 = bI (tKf S) ∧ (∀ i, i < tTl S → M 35 i = nI (tTa S i)) ∧ M 34 1 = nI (tTl S) ∧
  (∀ s, s < 4 → M (48 + 2 * s) 1 = nI (tSb S s) ∧ M (48 + 2 * s) 2 = nI (tSl S s) ∧ ∀ i, i < 40 → M (48 + 2 * s + 1) i = tSn S s i) ∧ (∀ f, f < 7 → M 56 f = tFn S f)
def fnS (S : Sta) : Int32 := tFn S 0 + tFn S 1 + tFn S 2 + tFn S 3 + tFn S 4 + tFn S 5 + tFn S 6
/-- the reference holds S -/
def AR (M : Mem) (S : Sta) : Prop :=
  RLn M 58 (tLa S) ∧ (tKf S = true → RLn M 59 (tKe S)) ∧ M 57 3 = bI (tKf S) ∧ (∀ i, i < tTl S → M 66 i = nI (tTa S i)) ∧ M 57 15 = nI (tTl S) ∧
  (∀ s, s < 4 → M 69 s = nI (tSb S s) ∧ M 70 s = nI (tSl S s) ∧ ∀ i, i < 40 → M 71 (40 * s + i) = tSn S s i) ∧ (∀ f, f < 7 → M 61 (f + 1) = tFn S f) ∧ M 61 0 = fnS S
/-- the class's own changing cells; all else stays -/
def FC (M M' : Mem) : Prop := ∀ k, (k < 15 ∨ k = 34 ∨ k = 35 ∨ 46 < k) → M' k = M k
theorem FC.rf {M : Mem} : FC M M := fun _ _ => rfl
theorem FC.tr {M M1 M2 : Mem} (h1 : FC M M1) (h2 : FC M1 M2) : FC M M2 := fun k hk => (h2 k hk).trans (h1 k hk)
theorem FC.ofR {M M1 : Mem} (h : SmR M M1) : FC M M1 := fun k hk => h k (by omega)
theorem AC.fc {M M1 : Mem} {S : Sta} (h : AC M S) (f : FC M M1) : AC M1 S := by
  obtain ⟨h1, h2, h3, h4, h5, h6, h7⟩ := h
  refine ⟨cl_same h1 (fun k _ _ => f k (by omega)), fun hk => cl_same (h2 hk) (fun k _ _ => f k (by omega)), by rw [f 0 (by omega)]; exact h3, fun i hi => by rw [f 35 (by omega)]; exact h4 i hi, by rw [f 34 (by omega)]; exact h5, fun s hs => ?_, fun q hq => by rw [f 56 (by omega)]; exact h7 q hq⟩
  obtain ⟨g1, g2, g3⟩ := h6 s hs
  exact ⟨by rw [f _ (by omega)]; exact g1, by rw [f _ (by omega)]; exact g2, fun i hi => by rw [f _ (by omega)]; exact g3 i hi⟩
theorem AC.hi {M M1 : Mem} {S : Sta} (h : AC M S) (f : ∀ k, k < 57 → M1 k = M k) : AC M1 S := by
  obtain ⟨h1, h2, h3, h4, h5, h6, h7⟩ := h
  refine ⟨cl_same h1 (fun k _ _ => f k (by omega)), fun hk => cl_same (h2 hk) (fun k _ _ => f k (by omega)), by rw [f 0 (by omega)]; exact h3, fun i hi => by rw [f 35 (by omega)]; exact h4 i hi, by rw [f 34 (by omega)]; exact h5, fun s hs => ?_, fun q hq => by rw [f 56 (by omega)]; exact h7 q hq⟩
  obtain ⟨g1, g2, g3⟩ := h6 s hs
  exact ⟨by rw [f _ (by omega)]; exact g1, by rw [f _ (by omega)]; exact g2, fun i hi => by rw [f _ (by omega)]; exact g3 i hi⟩
theorem AR.lo {M M1 : Mem} {S : Sta} (h : AR M S) (f : ∀ k, 57 ≤ k → M1 k = M k) : AR M1 S := by
  obtain ⟨h1, h2, h3, h4, h5, h6, h7, h8⟩ := h
  refine ⟨rl_same h1 (f 58 (by omega)), fun hk => rl_same (h2 hk) (f 59 (by omega)), by rw [f 57 (by omega)]; exact h3, fun i hi => by rw [f 66 (by omega)]; exact h4 i hi, by rw [f 57 (by omega)]; exact h5, fun s hs => ?_, fun q hq => by rw [f 61 (by omega)]; exact h7 q hq, by rw [f 61 (by omega)]; exact h8⟩
  obtain ⟨g1, g2, g3⟩ := h6 s hs
  exact ⟨by rw [f _ (by omega)]; exact g1, by rw [f _ (by omega)]; exact g2, fun i hi => by rw [f _ (by omega)]; exact g3 i hi⟩
theorem AR.fr {M M1 : Mem} {S : Sta} (h : AR M S) (f : FR M M1) (hL : RLn M1 58 (tLa S)) : AR M1 S := by
  obtain ⟨h1, h2, h3, h4, h5, h6, h7, h8⟩ := h
  refine ⟨hL, fun hk => rl_same (h2 hk) (f.1 59 (by omega)), by rw [f.2.1]; exact h3, fun i hi => by rw [f.1 66 (by omega)]; exact h4 i hi, by rw [f.2.2]; exact h5, fun s hs => ?_, fun q hq => by rw [f.1 61 (by omega)]; exact h7 q hq, by rw [f.1 61 (by omega)]; exact h8⟩
  obtain ⟨g1, g2, g3⟩ := h6 s hs
  exact ⟨by rw [f.1 _ (by omega)]; exact g1, by rw [f.1 _ (by omega)]; exact g2, fun i hi => by rw [f.1 _ (by omega)]; exact g3 i hi⟩
/-- the class, resp. the reference, answers r and goes from S to S' -/
def OC (f : Mem → Option (Int32 × Mem)) (S : Sta) (r : Int32) (S' : Sta) : Prop := ∀ M, AC M S → ∃ M1, f M = some (r, M1) ∧ AC M1 S' ∧ ∀ k, 57 ≤ k → M1 k = M k
def OR (f : Mem → Option (Int32 × Mem)) (S : Sta) (r : Int32) (S' : Sta) : Prop := ∀ M, AR M S → ∃ M1, f M = some (r, M1) ∧ AR M1 S' ∧ ∀ k, k < 57 → M1 k = M k
/-- both answer alike -/
def Two (f g : Mem → Option (Int32 × Mem)) (S : Sta) : Prop := ∃ (r : Int32) (S' : Sta), OC f S r S' ∧ OR g S r S' ∧ WFS S'
/-- a finding -/
def uF (f : Nat → Int32) (i : Nat) : Nat → Int32 := fun j => if j = i then f j + 1 else f j
def fdS (S : Sta) (i : Nat) : Sta := wFn S (uF (tFn S) i)
def low (i : Nat) : Int32 := -1000001 - nI i
theorem wfs_fd {S : Sta} (h : WFS S) (i : Nat) : WFS (fdS S i) := h
theorem x7_found {M : Mem} {S : Sta} (h : AC M S) {i : Nat} (hi : i < 7) : ∃ M1, fX7_found (nI i) M = some (low i, M1) ∧ AC M1 (fdS S i) ∧ ∀ k, 57 ≤ k → M1 k = M k := by
  obtain ⟨h1, h2, h3, h4, h5, h6, h7⟩ := h
  refine ⟨wr M 56 i (M 56 i + 1), ?_, ⟨cl_same h1 (fun k _ _ => wr_n _ _ _ _ (by omega)), fun hk => cl_same (h2 hk) (fun k _ _ => wr_n _ _ _ _ (by omega)), by rw [wr_n _ _ _ _ (by omega)]; exact h3, fun j hj => by rw [wr_n _ _ _ _ (by omega)]; exact h4 j hj, by rw [wr_n _ _ _ _ (by omega)]; exact h5, fun s hs => ?_, fun q hq => ?_⟩, fun k hk => wr_n _ _ _ _ (by omega)⟩
  · unfold fX7_found
    simp (disch := omega) only [bde, bve, wme, ck_in, ck_b0, ck_b1, ck_bI, ix_nI, bI_0, bI_1, nI_1, lit_le, lit_lt, lit_eq, ↓reduceIte, ckl_4_56, ckl_0_56, ckl_3_56, ckl_1_56, ckl_5_56, ckl_2_56, ckl_1_2, ckl_0_2, ckl_0_256, ckl_0_8, ckl_33_34, ckl_32_34, ixl_0, ixl_1, ixl_2, ixl_3, ixl_4, ixl_5, ixl_8, ixl_10, ixl_32, ixl_33, ixl_40]
    rfl
  · obtain ⟨g1, g2, g3⟩ := h6 s hs
    exact ⟨by rw [wr_n _ _ _ _ (by omega)]; exact g1, by rw [wr_n _ _ _ _ (by omega)]; exact g2, fun j hj => by rw [wr_n _ _ _ _ (by omega)]; exact g3 j hj⟩
  · rw [wr_app, if_pos rfl]
    show _ = uF (tFn S) i q
    unfold uF
    by_cases e : q = i
    · rw [if_pos e, if_pos e, h7 i hi, e]
    · rw [if_neg e, if_neg e, h7 q hq]
theorem low_ix (i : Nat) : (-1000001 : Int32) - low i + 1 = nI (i + 1) := by
  unfold low
  rw [← nI_1]
  generalize nI i = x
  grind
theorem fnS_uF (S : Sta) {i : Nat} (hi : i < 7) : fnS (fdS S i) = fnS S + 1 := by
  show uF (tFn S) i 0 + uF (tFn S) i 1 + uF (tFn S) i 2 + uF (tFn S) i 3 + uF (tFn S) i 4 + uF (tFn S) i 5 + uF (tFn S) i 6 = tFn S 0 + tFn S 1 + tFn S 2 + tFn S 3 + tFn S 4 + tFn S 5 + tFn S 6 + 1
  generalize tFn S = f
  rcases (show i = 0 ∨ i = 1 ∨ i = 2 ∨ i = 3 ∨ i = 4 ∨ i = 5 ∨ i = 6 by omega) with rfl | rfl | rfl | rfl | rfl | rfl | rfl
  all_goals
    simp [uF]
    try grind
theorem x8_finding {M : Mem} {S : Sta} (h : AR M S) {i : Nat} (hi : i < 7) : ∃ M1, fX8_finding (low i) M = some (low i, M1) ∧ AR M1 (fdS S i) ∧ ∀ k, k < 57 → M1 k = M k := by
  obtain ⟨h1, h2, h3, h4, h5, h6, h7, h8⟩ := h
  refine ⟨wr (wr M 61 (i + 1) (M 61 (i + 1) + 1)) 61 0 (M 61 0 + 1), ?_, ⟨rl_same h1 (by rw [wr_n _ _ _ _ (by omega), wr_n _ _ _ _ (by omega)]), fun hk => rl_same (h2 hk) (by rw [wr_n _ _ _ _ (by omega), wr_n _ _ _ _ (by omega)]), by rw [wr_n _ _ _ _ (by omega), wr_n _ _ _ _ (by omega)]; exact h3, fun j hj => by rw [wr_n _ _ _ _ (by omega), wr_n _ _ _ _ (by omega)]; exact h4 j hj, by rw [wr_n _ _ _ _ (by omega), wr_n _ _ _ _ (by omega)]; exact h5, fun s hs => ?_, fun q hq => ?_, ?_⟩, fun k hk => by rw [wr_n _ _ _ _ (by omega), wr_n _ _ _ _ (by omega)]⟩
  · unfold fX8_finding
    rw [low_ix]
    simp (disch := omega) only [bde, bve, wme, ck_in, ck_b0, ck_b1, ck_bI, ix_nI, bI_0, bI_1, nI_1, lit_le, lit_lt, lit_eq, ↓reduceIte, ckl_4_56, ckl_0_56, ckl_3_56, ckl_1_56, ckl_5_56, ckl_2_56, ckl_1_2, ckl_0_2, ckl_0_256, ckl_0_8, ckl_33_34, ckl_32_34, ixl_0, ixl_1, ixl_2, ixl_3, ixl_4, ixl_5, ixl_8, ixl_10, ixl_32, ixl_33, ixl_40]
    rw [wr_app, if_pos rfl, if_neg (by omega)]
  · obtain ⟨g1, g2, g3⟩ := h6 s hs
    exact ⟨by rw [wr_n _ _ _ _ (by omega), wr_n _ _ _ _ (by omega)]; exact g1, by rw [wr_n _ _ _ _ (by omega), wr_n _ _ _ _ (by omega)]; exact g2, fun j hj => by rw [wr_n _ _ _ _ (by omega), wr_n _ _ _ _ (by omega)]; exact g3 j hj⟩
  · rw [wr_app, if_pos rfl, if_neg (by omega), wr_app, if_pos rfl]
    show _ = uF (tFn S) i q
    unfold uF
    by_cases e : q = i
    · rw [if_pos (by omega), if_pos e, h7 i hi, e]
    · rw [if_neg (by omega), if_neg e, h7 q hq]
  · rw [wr_app, if_pos rfl, if_pos rfl, h8, fnS_uF S hi]
/-- both find the same -/
theorem two_fd {S : Sta} (hW : WFS S) {i : Nat} (hi : i < 7) {f g : Mem → Option (Int32 × Mem)} (hf : ∀ M, AC M S → f M = fX7_found (nI i) M) (hg : ∀ M, AR M S → g M = fX8_finding (low i) M) : Two f g S :=
  ⟨low i, fdS S i, fun M h => by rw [hf M h]; exact x7_found h hi, fun M h => by rw [hg M h]; exact x8_finding h hi, wfs_fd hW i⟩
theorem rt_fd7 (x : Int32) (M : Mem) : (bd (fX7_found x M) fun r M1 => some (r, M1)) = fX7_found x M := by
  cases fX7_found x M with
  | none => rfl
  | some q => rfl
theorem rt_fd8 (x : Int32) (M : Mem) : (bd (fX8_finding x M) fun r M1 => some (r, M1)) = fX8_finding x M := by
  cases fX8_finding x M with
  | none => rfl
  | some q => rfl

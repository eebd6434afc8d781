/-! texts: tokens of a tape -/
def ctyN (c : Nat) : Nat := if 97 ≤ c ∧ c ≤ 122 then 1 else if 48 ≤ c ∧ c ≤ 57 then 2 else if c = 32 then 4 else if c = 59 then 3 else 5
theorem cl_ge (c : Nat) : 1 ≤ ctyN c ∧ ctyN c ≤ 5 := by
  unfold ctyN
  repeat' split
  all_goals omega
/-- the type of a byte; 0: behind the tape's end -/
def tyN (t : Nat → Nat) (n i : Nat) : Nat := if i < n then ctyN (t i) else 0
theorem ty_le (t : Nat → Nat) (n i : Nat) : tyN t n i ≤ 5 := by
  have := cl_ge (t i)
  unfold tyN
  split <;> omega
theorem ty_0 {t : Nat → Nat} {n i : Nat} : tyN t n i = 0 ↔ n ≤ i := by
  have := cl_ge (t i)
  unfold tyN
  split <;> omega
def runB (t : Nat → Nat) (n i : Nat) : Bool := decide (tyN t n i = 1 ∨ tyN t n i = 2)
/-- a token begins here -/
def bgB (t : Nat → Nat) (n i : Nat) : Bool := decide (i < n ∧ tyN t n i ≠ 4 ∧ ¬ ((tyN t n i = 1 ∨ tyN t n i = 2) ∧ 0 < i ∧ tyN t n (i - 1) = tyN t n i))
theorem bg_t {t : Nat → Nat} {n i : Nat} : bgB t n i = true ↔ (i < n ∧ tyN t n i ≠ 4 ∧ ¬ ((tyN t n i = 1 ∨ tyN t n i = 2) ∧ 0 < i ∧ tyN t n (i - 1) = tyN t n i)) := decide_eq_true_iff
def fsF (t : Nat → Nat) (n : Nat) : Nat → Nat → Nat
  | 0, q => q
  | f + 1, q => if bgB t n q = true then q else fsF t n f (q + 1)
/-- the first token from here on; n: none -/
def fsN (t : Nat → Nat) (n e : Nat) : Nat := fsF t n (n - e) e
theorem fs_spec {t : Nat → Nat} {n : Nat} : ∀ f e, e + f = n → e ≤ fsF t n f e ∧ fsF t n f e ≤ n ∧ (fsF t n f e = n ∨ bgB t n (fsF t n f e) = true) ∧ ∀ q, e ≤ q → q < fsF t n f e → bgB t n q = false := by
  intro f
  induction f with
  | zero =>
    intro e h
    exact ⟨Nat.le_refl _, by show e ≤ n; omega, Or.inl (by show e = n; omega), fun q h1 h2 => by have : q < e := h2; omega⟩
  | succ f ih =>
    intro e h
    simp only [fsF]
    cases hb : bgB t n e
    · rw [if_neg (by decide)]
      obtain ⟨a1, a2, a3, a4⟩ := ih (e + 1) (by omega)
      refine ⟨by omega, a2, a3, fun q h1 h2 => ?_⟩
      by_cases c : q = e
      · rw [c]; exact hb
      · exact a4 q (by omega) h2
    · rw [if_pos rfl]
      exact ⟨Nat.le_refl _, by omega, Or.inr hb, fun q h1 h2 => by omega⟩
theorem fs_ok (t : Nat → Nat) {n e : Nat} (h : e ≤ n) : e ≤ fsN t n e ∧ fsN t n e ≤ n ∧ (fsN t n e = n ∨ bgB t n (fsN t n e) = true) ∧ ∀ q, e ≤ q → q < fsN t n e → bgB t n q = false := fs_spec (n - e) e (by omega)
theorem fs_eq {t : Nat → Nat} {n e q : Nat} (h1 : e ≤ q) (h2 : q ≤ n) (h3 : q = n ∨ bgB t n q = true) (h4 : ∀ r, e ≤ r → r < q → bgB t n r = false) : fsN t n e = q := by
  obtain ⟨a1, a2, a3, a4⟩ := fs_ok t (e := e) (n := n) (by omega)
  rcases Nat.lt_trichotomy (fsN t n e) q with c | c | c
  · rcases a3 with z | z
    · omega
    · rw [h4 _ a1 c] at z; cases z
  · exact c
  · rcases h3 with z | z
    · omega
    · rw [a4 q h1 c] at z; cases z
/-- the next token -/
def nxN (t : Nat → Nat) (n p : Nat) : Nat := fsN t n (p + 1)
/-- how many tokens begin ahead -/
def rkN (t : Nat → Nat) (n p : Nat) : Nat := cnN (bgB t n) p
theorem rk_le (t : Nat → Nat) (n p : Nat) : rkN t n p ≤ p := cnN_le _ _
theorem rk_s (t : Nat → Nat) (n p : Nat) : rkN t n (p + 1) = rkN t n p + if bgB t n p = true then 1 else 0 := rfl
theorem rk_mono (t : Nat → Nat) (n : Nat) {p : Nat} : ∀ d, rkN t n p ≤ rkN t n (p + d) := by
  intro d
  induction d with
  | zero => exact Nat.le_refl _
  | succ d ih =>
    have := rk_s t n (p + d)
    show rkN t n p ≤ rkN t n (p + d + 1)
    split at this <;> omega
theorem rk_le2 (t : Nat → Nat) {n p q : Nat} (h : p ≤ q) : rkN t n p ≤ rkN t n q := by
  have := rk_mono t n (p := p) (q - p)
  rw [show p + (q - p) = q by omega] at this
  exact this
theorem rk_lt {t : Nat → Nat} {n p q : Nat} (hb : bgB t n p = true) (h : p < q) : rkN t n p < rkN t n q := by
  have h1 := rk_s t n p
  rw [hb, if_pos rfl] at h1
  have h2 := rk_le2 t (n := n) (p := p + 1) (q := q) h
  omega
theorem rk_gap {t : Nat → Nat} {n p : Nat} : ∀ d, (∀ r, p ≤ r → r < p + d → bgB t n r = false) → rkN t n (p + d) = rkN t n p := by
  intro d
  induction d with
  | zero => intro _; rfl
  | succ d ih =>
    intro h
    show rkN t n (p + d + 1) = _
    rw [rk_s, h (p + d) (by omega) (by omega), if_neg (by decide), Nat.add_zero]
    exact ih (fun r h1 h2 => h r h1 (by omega))
theorem rk_fs {t : Nat → Nat} {n e : Nat} (h : e ≤ n) : rkN t n (fsN t n e) = rkN t n e := by
  obtain ⟨a1, a2, a3, a4⟩ := fs_ok t (n := n) h
  have := rk_gap (t := t) (n := n) (p := e) (fsN t n e - e) (fun r h1 h2 => a4 r h1 (by omega))
  rw [show e + (fsN t n e - e) = fsN t n e by omega] at this
  exact this
theorem rk_nx {t : Nat → Nat} {n p : Nat} (hb : bgB t n p = true) : rkN t n (nxN t n p) = rkN t n p + 1 := by
  have hp := (bg_t.mp hb).1
  unfold nxN
  rw [rk_fs (by omega), rk_s, hb, if_pos rfl]
theorem rk_inj {t : Nat → Nat} {n p q : Nat} (hp : bgB t n p = true) (hq : bgB t n q = true) (h : rkN t n p = rkN t n q) : p = q := by
  rcases Nat.lt_trichotomy p q with c | c | c
  · have := rk_lt hp c; omega
  · exact c
  · have := rk_lt hq c; omega
theorem nx_gt {t : Nat → Nat} {n p : Nat} (hp : p < n) : p < nxN t n p ∧ nxN t n p ≤ n ∧ (nxN t n p = n ∨ bgB t n (nxN t n p) = true) := by
  obtain ⟨a1, a2, a3, -⟩ := fs_ok t (n := n) (e := p + 1) (by omega)
  exact ⟨a1, a2, a3⟩
def reF (t : Nat → Nat) (n y : Nat) : Nat → Nat → Nat
  | 0, q => q
  | f + 1, q => if tyN t n q = y then reF t n y f (q + 1) else q
/-- the end of a run -/
def enN (t : Nat → Nat) (n p : Nat) : Nat := reF t n (tyN t n p) (n - (p + 1)) (p + 1)
theorem re_spec {t : Nat → Nat} {n y : Nat} : ∀ f e, e + f = n → e ≤ reF t n y f e ∧ reF t n y f e ≤ n ∧ (reF t n y f e = n ∨ tyN t n (reF t n y f e) ≠ y) ∧ ∀ q, e ≤ q → q < reF t n y f e → tyN t n q = y := by
  intro f
  induction f with
  | zero =>
    intro e h
    exact ⟨Nat.le_refl _, by show e ≤ n; omega, Or.inl (by show e = n; omega), fun q h1 h2 => by have : q < e := h2; omega⟩
  | succ f ih =>
    intro e h
    simp only [reF]
    by_cases hb : tyN t n e = y
    · rw [if_pos hb]
      obtain ⟨a1, a2, a3, a4⟩ := ih (e + 1) (by omega)
      refine ⟨by omega, a2, a3, fun q h1 h2 => ?_⟩
      by_cases c : q = e
      · rw [c]; exact hb
      · exact a4 q (by omega) h2
    · rw [if_neg hb]
      exact ⟨Nat.le_refl _, by omega, Or.inr hb, fun q h1 h2 => by omega⟩
theorem en_ok {t : Nat → Nat} {n p : Nat} (h : p < n) : p < enN t n p ∧ enN t n p ≤ n ∧ (enN t n p = n ∨ tyN t n (enN t n p) ≠ tyN t n p) ∧ ∀ q, p ≤ q → q < enN t n p → tyN t n q = tyN t n p := by
  obtain ⟨a1, a2, a3, a4⟩ := re_spec (t := t) (n := n) (y := tyN t n p) (n - (p + 1)) (p + 1) (by omega)
  refine ⟨a1, a2, a3, fun q h1 h2 => ?_⟩
  by_cases c : q = p
  · rw [c]
  · exact a4 q (by omega) h2
theorem en_eq {t : Nat → Nat} {n p q : Nat} (h0 : p < n) (h1 : p < q) (h2 : q ≤ n) (h3 : q = n ∨ tyN t n q ≠ tyN t n p) (h4 : ∀ r, p ≤ r → r < q → tyN t n r = tyN t n p) : enN t n p = q := by
  obtain ⟨a1, a2, a3, a4⟩ := en_ok (t := t) h0
  rcases Nat.lt_trichotomy (enN t n p) q with c | c | c
  · rcases a3 with z | z
    · omega
    · exact absurd (h4 _ (by omega) c) z
  · exact c
  · rcases h3 with z | z
    · omega
    · exact absurd (a4 q (by omega) c) z
/-- what a run of digits tells so far -/
def vaN (t : Nat → Nat) (b : Nat) : Nat → Nat
  | 0 => 0
  | k + 1 => min (10 * vaN t b k + t (b + k) - 48) 100000
theorem va_le (t : Nat → Nat) (b k : Nat) : vaN t b k ≤ 100000 := by
  cases k with
  | zero => exact Nat.zero_le _
  | succ k => exact Nat.min_le_right _ _
def valN (t : Nat → Nat) (n p : Nat) : Nat := vaN t p (enN t n p - p)
/-- where the text goes on behind a token -/
def eN (t : Nat → Nat) (n p : Nat) : Nat := if n ≤ p then n else if tyN t n p = 1 ∨ tyN t n p = 2 then enN t n p else p + 1
theorem nx_e {t : Nat → Nat} {n p : Nat} (hb : bgB t n p = true) : fsN t n (eN t n p) = nxN t n p := by
  obtain ⟨hp, h4, hr⟩ := bg_t.mp hb
  unfold eN
  rw [if_neg (by omega)]
  by_cases c : tyN t n p = 1 ∨ tyN t n p = 2
  · rw [if_pos c]
    obtain ⟨a1, a2, a3, a4⟩ := en_ok (t := t) hp
    obtain ⟨b1, b2, b3, b4⟩ := fs_ok t a2
    unfold nxN
    refine (fs_eq (by omega) b2 b3 (fun r h1 h2 => ?_)).symm
    by_cases d : r < enN t n p
    · cases hz : bgB t n r
      · rfl
      · have e1 := a4 r (by omega) d
        have e2 := a4 (r - 1) (by omega) (by omega)
        exact absurd ⟨by rw [e1]; exact c, by omega, by rw [e1, e2]⟩ (bg_t.mp hz).2.2
    · exact b4 r (by omega) h2
  · rw [if_neg c]; rfl
/-- no run goes over this place -/
def cutP (t : Nat → Nat) (n e : Nat) : Prop := e = 0 ∨ ¬ ((tyN t n e = 1 ∨ tyN t n e = 2) ∧ tyN t n (e - 1) = tyN t n e)
theorem cut_e {t : Nat → Nat} {n p : Nat} (h : p = n ∨ bgB t n p = true) : cutP t n (eN t n p) := by
  unfold eN
  by_cases c0 : n ≤ p
  · rw [if_pos c0]
    refine Or.inr (fun q => ?_)
    have := (ty_0 (t := t)).mpr (show n ≤ n from Nat.le_refl n)
    omega
  · rw [if_neg c0]
    have hp : p < n := by omega
    by_cases c : tyN t n p = 1 ∨ tyN t n p = 2
    · rw [if_pos c]
      obtain ⟨a1, a2, a3, a4⟩ := en_ok (t := t) hp
      refine Or.inr (fun q => ?_)
      have e2 := a4 (enN t n p - 1) (by omega) (by omega)
      rcases a3 with z | z
      · have := (ty_0 (t := t)).mpr (show n ≤ enN t n p by omega)
        omega
      · exact z (by rw [← q.2, e2])
    · rw [if_neg c]
      refine Or.inr (fun q => ?_)
      rw [Nat.add_sub_cancel] at q
      exact c (by rw [q.2]; exact q.1)
/-- from a cut on: blanks, then a token or the end -/
theorem fs_cut {t : Nat → Nat} {n e : Nat} (h : e ≤ n) (hc : cutP t n e) : (tyN t n e = 4 ∧ fsN t n e = fsN t n (e + 1) ∧ cutP t n (e + 1) ∧ e < n) ∨ (tyN t n e ≠ 4 ∧ fsN t n e = e) := by
  by_cases c : tyN t n e = 4
  · have hn : e < n := by
      rcases Nat.lt_or_ge e n with q | q
      · exact q
      · have := (ty_0 (t := t)).mpr q; omega
    obtain ⟨b1, b2, b3, b4⟩ := fs_ok t (n := n) (e := e + 1) (by omega)
    refine Or.inl ⟨c, fs_eq (by omega) b2 b3 (fun r h1 h2 => ?_), Or.inr (fun q => ?_), hn⟩
    · by_cases d : r = e
      · cases hz : bgB t n r
        · rfl
        · exact absurd (by rw [d]; exact c) (bg_t.mp hz).2.1
      · exact b4 r (by omega) h2
    · rw [Nat.add_sub_cancel] at q
      omega
  · refine Or.inr ⟨c, fs_eq (Nat.le_refl _) h ?_ (fun r h1 h2 => by omega)⟩
    by_cases d : e = n
    · exact Or.inl d
    · refine Or.inr (bg_t.mpr ⟨by omega, c, fun q => ?_⟩)
      rcases hc with z | z
      · omega
      · exact z ⟨q.1, q.2.2⟩
/-- the run that a byte is in -/
theorem runEx {t : Nat → Nat} {n : Nat} : ∀ i, i < n → (tyN t n i = 1 ∨ tyN t n i = 2) → ∃ p, p ≤ i ∧ bgB t n p = true ∧ (∀ q, p ≤ q → q ≤ i → tyN t n q = tyN t n i) ∧ rkN t n (i + 1) = rkN t n p + 1 := by
  intro i
  induction i with
  | zero =>
    intro h hr
    have hb : bgB t n 0 = true := bg_t.mpr ⟨h, by omega, fun q => by omega⟩
    exact ⟨0, Nat.le_refl _, hb, fun q _ h2 => by rw [show q = 0 by omega], by rw [rk_s, hb, if_pos rfl]⟩
  | succ i ih =>
    intro h hr
    cases hb : bgB t n (i + 1)
    · have hp : tyN t n i = tyN t n (i + 1) := by
        by_cases z : tyN t n i = tyN t n (i + 1)
        · exact z
        · have : bgB t n (i + 1) = true := bg_t.mpr ⟨h, by omega, fun q => z (by have := q.2.2; rwa [Nat.add_sub_cancel] at this)⟩
          rw [hb] at this; cases this
      obtain ⟨p, p1, p2, p3, p4⟩ := ih (by omega) (by rw [hp]; exact hr)
      refine ⟨p, by omega, p2, fun q h1 h2 => ?_, ?_⟩
      · by_cases c : q = i + 1
        · rw [c]
        · rw [p3 q h1 (by omega), hp]
      · rw [rk_s, hb, if_neg (by decide), Nat.add_zero]; exact p4
    · exact ⟨i + 1, Nat.le_refl _, hb, fun q h1 h2 => by rw [show q = i + 1 by omega], by rw [rk_s, hb, if_pos rfl]⟩

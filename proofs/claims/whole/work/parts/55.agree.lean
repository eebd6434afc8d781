/-! agreements: the fewest changes among those who meet the most -/
def costN (f1 f2 p w : Nat) : Nat := (if p = 0 ∨ p = w then 0 else 1) + (if w = 1 then f1 else f2)
/-- fewest changes over the last k hours, q had it before -/
def fewN (n0 n1 s : Nat → Bool) : Nat → Nat → Nat
  | 0, _ => 0
  | k + 1, q => if s (15 - k) = true then (if n0 (15 - k) = n1 (15 - k) then min (costN (fewN n0 n1 s k 1) (fewN n0 n1 s k 2) q 1) (costN (fewN n0 n1 s k 1) (fewN n0 n1 s k 2) q 2) else if n0 (15 - k) = true then costN (fewN n0 n1 s k 1) (fewN n0 n1 s k 2) q 1 else costN (fewN n0 n1 s k 1) (fewN n0 n1 s k 2) q 2) else fewN n0 n1 s k q
def hun (b : Bool) : Nat := if b = true then 100 else 0
/-- the class's worth over the last k hours, side t had it before -/
def behN (n0 n1 s : Nat → Bool) : Nat → Nat → Nat
  | 0, _ => 0
  | k + 1, t => if s (15 - k) = true then (if t = 0 then max (hun (n0 (15 - k)) + behN n0 n1 s k 0) (hun (n1 (15 - k)) + behN n0 n1 s k 1 - 1) else max (hun (n1 (15 - k)) + behN n0 n1 s k 1) (hun (n0 (15 - k)) + behN n0 n1 s k 0 - 1)) else behN n0 n1 s k t
def metN (n0 n1 s : Nat → Bool) : Nat → Nat
  | 0 => 0
  | k + 1 => metN n0 n1 s k + if (s (15 - k) && (n0 (15 - k) || n1 (15 - k))) = true then 1 else 0
theorem few_inv (n0 n1 s : Nat → Bool) : ∀ k, behN n0 n1 s k 0 + fewN n0 n1 s k 1 = 100 * metN n0 n1 s k ∧ behN n0 n1 s k 1 + fewN n0 n1 s k 2 = 100 * metN n0 n1 s k ∧ fewN n0 n1 s k 1 ≤ fewN n0 n1 s k 2 + 1 ∧ fewN n0 n1 s k 2 ≤ fewN n0 n1 s k 1 + 1 ∧ fewN n0 n1 s k 0 ≤ k ∧ fewN n0 n1 s k 1 ≤ k ∧ fewN n0 n1 s k 2 ≤ k ∧ metN n0 n1 s k ≤ k := by
  intro k
  induction k with
  | zero => exact ⟨rfl, rfl, by show 0 ≤ 0 + 1; omega, by show 0 ≤ 0 + 1; omega, Nat.le_refl _, Nat.le_refl _, Nat.le_refl _, Nat.le_refl _⟩
  | succ k ih =>
    obtain ⟨i1, i2, i3, i4, i5, i6, i7, i8⟩ := ih
    simp only [behN, fewN, metN, costN, hun]
    cases s (15 - k) <;> cases n0 (15 - k) <;> cases n1 (15 - k) <;> simp <;> omega
/-- side 1 is taken -/
def pickN (n0 n1 s : Nat → Bool) (h p : Nat) : Bool := decide (hun (n0 h) + behN n0 n1 s (15 - h) 0 + (if p = 1 then 1 else 0) < hun (n1 h) + behN n0 n1 s (15 - h) 1 + (if p = 2 then 1 else 0))
theorem pick_ref (n0 n1 s : Nat → Bool) {h p : Nat} (hh : h < 16) (hp : p < 3) (hs : s h = true) : pickN n0 n1 s h p = false ↔ ((n0 h = n1 h ∨ n0 h = true) ∧ costN (fewN n0 n1 s (15 - h) 1) (fewN n0 n1 s (15 - h) 2) p 1 = fewN n0 n1 s (16 - h) p) := by
  obtain ⟨i1, i2, i3, i4, i5, i6, i7, i8⟩ := few_inv n0 n1 s (15 - h)
  have e : 16 - h = (15 - h) + 1 := by omega
  have e2 : 15 - (15 - h) = h := by omega
  rw [e]
  simp only [fewN, pickN, costN, hun, e2, hs, decide_eq_false_iff_not, if_true]
  cases n0 h <;> cases n1 h <;> simp <;> rcases (show p = 0 ∨ p = 1 ∨ p = 2 by omega) with rfl | rfl | rfl <;> simp <;> omega
theorem pick_need (n0 n1 s : Nat → Bool) {h p : Nat} (hh : h < 16) (hs : s h = true) : ((n0 h && !pickN n0 n1 s h p) || (n1 h && pickN n0 n1 s h p)) = (n0 h || n1 h) := by
  obtain ⟨i1, i2, i3, i4, i5, i6, i7, i8⟩ := few_inv n0 n1 s (15 - h)
  cases h0 : n0 h <;> cases h1 : n1 h
  · simp
  · have : pickN n0 n1 s h p = true := by
      simp only [pickN, hun, h0, h1, decide_eq_true_eq]
      simp
      split <;> split <;> omega
    simp [this]
  · have : pickN n0 n1 s h p = false := by
      simp only [pickN, hun, h0, h1, decide_eq_false_iff_not]
      simp
      split <;> split <;> omega
    simp [this]
  · cases pickN n0 n1 s h p <;> simp
/-- who had it last, before hour h -/
def pthN (n0 n1 s : Nat → Bool) : Nat → Nat
  | 0 => 0
  | h + 1 => if s h = true then (if pickN n0 n1 s h (pthN n0 n1 s h) = true then 2 else 1) else pthN n0 n1 s h
theorem pth_lt (n0 n1 s : Nat → Bool) (h : Nat) : pthN n0 n1 s h < 3 := by
  induction h with
  | zero => show 0 < 3; omega
  | succ h ih =>
    show (if s h = true then (if pickN n0 n1 s h (pthN n0 n1 s h) = true then 2 else 1) else pthN n0 n1 s h) < 3
    split
    · split <;> omega
    · exact ih
/-- one step of the path costs what the fewest say -/
theorem pick_few (n0 n1 s : Nat → Bool) {h p : Nat} (hh : h < 16) (hp : p < 3) (hs : s h = true) : fewN n0 n1 s (16 - h) p = costN (fewN n0 n1 s (15 - h) 1) (fewN n0 n1 s (15 - h) 2) p (if pickN n0 n1 s h p = true then 2 else 1) := by
  obtain ⟨i1, i2, i3, i4, i5, i6, i7, i8⟩ := few_inv n0 n1 s (15 - h)
  have e : 16 - h = (15 - h) + 1 := by omega
  have e2 : 15 - (15 - h) = h := by omega
  have r := pick_ref n0 n1 s hh hp hs
  rw [e] at r ⊢
  have ex : fewN n0 n1 s (15 - h + 1) p = (if n0 h = n1 h then min (costN (fewN n0 n1 s (15 - h) 1) (fewN n0 n1 s (15 - h) 2) p 1) (costN (fewN n0 n1 s (15 - h) 1) (fewN n0 n1 s (15 - h) 2) p 2) else if n0 h = true then costN (fewN n0 n1 s (15 - h) 1) (fewN n0 n1 s (15 - h) 2) p 1 else costN (fewN n0 n1 s (15 - h) 1) (fewN n0 n1 s (15 - h) 2) p 2) := by
    simp only [fewN, e2, hs, if_true]
  cases hk : pickN n0 n1 s h p
  · rw [if_neg (by decide)]
    exact (r.mp hk).2.symm
  · rw [if_pos rfl]
    have nr : ¬ ((n0 h = n1 h ∨ n0 h = true) ∧ costN (fewN n0 n1 s (15 - h) 1) (fewN n0 n1 s (15 - h) 2) p 1 = fewN n0 n1 s (15 - h + 1) p) := fun q => by
      have := r.mpr q
      rw [hk] at this
      cases this
    by_cases c : n0 h = n1 h
    · rw [ex, if_pos c] at nr ⊢
      generalize costN (fewN n0 n1 s (15 - h) 1) (fewN n0 n1 s (15 - h) 2) p 1 = A at nr ⊢
      generalize costN (fewN n0 n1 s (15 - h) 1) (fewN n0 n1 s (15 - h) 2) p 2 = B at nr ⊢
      have : A ≠ min A B := fun q => nr ⟨Or.inl c, q⟩
      omega
    · rw [ex, if_neg c] at nr ⊢
      by_cases d : n0 h = true
      · rw [if_pos d] at nr
        exact absurd ⟨Or.inr d, rfl⟩ nr
      · rw [if_neg d]
theorem few_dark (n0 n1 s : Nat → Bool) {h : Nat} (hh : h < 16) (hs : s h = false) (p : Nat) : fewN n0 n1 s (16 - h) p = fewN n0 n1 s (15 - h) p := by
  have e : 16 - h = (15 - h) + 1 := by omega
  have e2 : 15 - (15 - h) = h := by omega
  rw [e]
  simp only [fewN, e2, hs]
  simp
def h1N (n0 n1 s : Nat → Bool) (h : Nat) : Bool := s h && pickN n0 n1 s h (pthN n0 n1 s h)
def h0N (n0 n1 s : Nat → Bool) (h : Nat) : Bool := s h && !pickN n0 n1 s h (pthN n0 n1 s h)

/-! layer 2: numbers, sets, guards -/
def bI (b : Bool) : Int32 := if b = true then 1 else 0
def mI (m : Nat) : Int32 := nI m - 1
theorem bde {ρ α : Type} {k : ρ → Mem → Option α} (r : ρ) (M : Mem) : bd (some (r, M)) k = k r M := Eq.trans rfl rfl
theorem bve {α β : Type} (x : α) (k : α → β) : bv x k = k x := Eq.trans rfl rfl
theorem wme {β : Type} (M : Mem) (k : Mem → β) : wm M k = k M := Eq.trans rfl rfl
theorem ix_nI {n : Nat} (h : n < 2 ^ 31) : ix (nI n) = n := nI_clamp h
theorem ck_in {α : Type} {p n : Nat} {x : Option α} (h : p < n) (hn : n < 2 ^ 31) : ck (inb (nI p) n) x = x := ck_t (decide_eq_true (nI_in h hn))
theorem ck_bI {α : Type} {b : Bool} {x : Option α} : ck (isb (bI b)) x = x := by cases b <;> exact ck_t rfl
theorem ck_b0 {α : Type} {x : Option α} : ck (isb 0) x = x := ck_t rfl
theorem ck_b1 {α : Type} {x : Option α} : ck (isb 1) x = x := ck_t rfl
theorem bI_0 (b : Bool) : (bI b = 0) = (b = false) := by cases b <;> simp [bI]
theorem bI_1 (b : Bool) : (bI b = 1) = (b = true) := by cases b <;> simp [bI]
theorem bI_t : bI true = 1 := rfl
theorem bI_f : bI false = 0 := rfl
theorem wr_app (M : Mem) (b i : Nat) (v : Int32) (k j : Nat) : wr M b i v k j = if k = b then (if j = i then v else M k j) else M k j := by
  unfold wr
  by_cases h : k = b
  · subst h; simp [upd]
  · simp [h]
theorem wrow_app (M : Mem) (b : Nat) (f : Nat → Int32) (k j : Nat) : wrow M b f k j = if k = b then f j else M k j := by
  unfold wrow
  by_cases h : k = b
  · subst h; simp
  · simp [h]
theorem nI_le0 {n : Nat} (h : n < 2 ^ 31) : (nI n < 0) = False := eq_false (nI_pos h)
theorem lit_le {n h : Nat} (hn : n < 2 ^ 31) (hh : h < 2 ^ 31) : (nI n ≤ nI h) = (n ≤ h) := propext (nI_leI hn hh)
theorem lit_lt {n h : Nat} (hn : n < 2 ^ 31) (hh : h < 2 ^ 31) : (nI n < nI h) = (n < h) := propext (nI_ltI hn hh)
theorem lit_eq {n h : Nat} (hn : n < 2 ^ 31) (hh : h < 2 ^ 31) : (nI n = nI h) = (n = h) := propext (nI_eq hn hh)
theorem mI_m1 {m : Nat} (h : m < 2 ^ 31) : (mI m = -1) = (m = 0) := by
  apply propext
  constructor
  · intro e
    have e2 : nI m = nI 0 := by
      have : nI m - 1 + 1 = -1 + 1 := by rw [show nI m - 1 = -1 from e]
      rw [Int32.sub_add_cancel] at this
      rw [this]; rfl
    exact (nI_eq h (by decide)).mp e2
  · rintro rfl; rfl
theorem mI_s (j : Nat) : mI (j + 1) = nI j := nI_pred j
theorem mI_pos {m : Nat} (h : 0 < m) : mI m = nI (m - 1) := by
  obtain ⟨j, rfl⟩ : ∃ j, m = j + 1 := ⟨m - 1, by omega⟩
  exact mI_s j
theorem nI_and (a b : Nat) : nI a &&& nI b = nI (a &&& b) := by
  apply Int32.toBitVec_inj.1
  show BitVec.ofNat 32 a &&& BitVec.ofNat 32 b = BitVec.ofNat 32 (a &&& b)
  apply BitVec.eq_of_getLsbD_eq
  intro i hi
  simp [hi]
theorem nI_or (a b : Nat) : nI a ||| nI b = nI (a ||| b) := by
  apply Int32.toBitVec_inj.1
  show BitVec.ofNat 32 a ||| BitVec.ofNat 32 b = BitVec.ofNat 32 (a ||| b)
  apply BitVec.eq_of_getLsbD_eq
  intro i hi
  simp [hi]
theorem nI_xor (a b : Nat) : nI a ^^^ nI b = nI (a ^^^ b) := by
  apply Int32.toBitVec_inj.1
  show BitVec.ofNat 32 a ^^^ BitVec.ofNat 32 b = BitVec.ofNat 32 (a ^^^ b)
  apply BitVec.eq_of_getLsbD_eq
  intro i hi
  simp [hi]
theorem sh_l : ∀ n, n < 32 → ((nI n &&& 31).toBitVec.smod 32).toNat = n := by decide +kernel
theorem sh_u : ∀ n, n < 32 → (((nI n).toUInt32 &&& Int32.toUInt32 31).toBitVec % 32).toNat = n := by decide +kernel
theorem shl_nI {n k : Nat} (hk : k < 32) (h : n * 2 ^ k < 2 ^ 32) : shl (nI n) (nI k) = nI (n * 2 ^ k) := pk_shlN (nI k &&& 31) k (sh_l k hk) h
theorem shl_1 {k : Nat} (hk : k < 32) : shl 1 (nI k) = nI (2 ^ k) := by
  have h := shl_nI (n := 1) hk (by rw [Nat.one_mul]; exact Nat.pow_lt_pow_right (by decide) hk)
  rw [Nat.one_mul] at h
  exact h
theorem shr_nI {n k : Nat} (hk : k < 32) (h : n < 2 ^ 31) : shr (nI n) (nI k) = nI (n / 2 ^ k) := pk_shrN h (nI k &&& 31) k (sh_l k hk)
theorem ush_nI {n k : Nat} (hk : k < 32) (h : n < 2 ^ 32) : ush (nI n) (nI k) = nI (n / 2 ^ k) := pk_ushrN h (nI k) k (sh_u k hk)
theorem and_1 (n : Nat) : nI n &&& 1 = bI (n % 2 = 1) := by
  rw [show (1 : Int32) = nI 1 from rfl, nI_and, Nat.and_one_is_mod]
  rcases Nat.mod_two_eq_zero_or_one n with h | h <;> rw [h] <;> rfl
theorem tb_div (n k : Nat) : decide (n / 2 ^ k % 2 = 1) = n.testBit k := by
  rw [Nat.testBit_eq_decide_div_mod_eq]
theorem nI_0' : (0 : Int32) = nI 0 := rfl
theorem nI_1' : (1 : Int32) = nI 1 := rfl
/-- sets of the first n that hold f -/
def stN (f : Nat → Bool) : Nat → Nat
  | 0 => 0
  | n + 1 => stN f n + if f n = true then 2 ^ n else 0
/-- how many of the first n -/
def cnN (f : Nat → Bool) : Nat → Nat
  | 0 => 0
  | n + 1 => cnN f n + if f n = true then 1 else 0
theorem stN_lt (f : Nat → Bool) (n : Nat) : stN f n < 2 ^ n := by
  induction n with
  | zero => show 0 < 2 ^ 0; decide
  | succ n ih =>
    show stN f n + _ < 2 ^ (n + 1)
    rw [Nat.pow_succ]
    split <;> omega
theorem stN_tb (f : Nat → Bool) (n k : Nat) : (stN f n).testBit k = (decide (k < n) && f k) := by
  induction n with
  | zero => simp [stN]
  | succ n ih =>
    show (stN f n + (if f n = true then 2 ^ n else 0)).testBit k = _
    have hl := stN_lt f n
    by_cases hf : f n = true
    · rw [if_pos hf, Nat.add_comm]
      rcases Nat.lt_trichotomy k n with hk | hk | hk
      · rw [Nat.testBit_two_pow_add_gt hk, ih]
        simp [hk, Nat.lt_succ_of_lt hk]
      · subst hk
        rw [Nat.testBit_two_pow_add_eq, Nat.testBit_lt_two_pow hl]
        simp [hf]
      · have h2 : 2 ^ n + stN f n < 2 ^ k := by
          have : 2 ^ (n + 1) ≤ 2 ^ k := Nat.pow_le_pow_right (by decide) hk
          rw [Nat.pow_succ] at this
          omega
        rw [Nat.testBit_lt_two_pow h2]
        simp [show ¬ k < n + 1 by omega]
    · rw [if_neg hf, Nat.add_zero, ih]
      by_cases hk : k = n
      · subst hk; simp [hf]
      · have : decide (k < n + 1) = decide (k < n) := by congr 1; apply propext; omega
        rw [this]
theorem cnN_le (f : Nat → Bool) (n : Nat) : cnN f n ≤ n := by
  induction n with
  | zero => exact Nat.le_refl _
  | succ n ih =>
    show cnN f n + _ ≤ n + 1
    split <;> omega
theorem cnN_congr {f g : Nat → Bool} {n : Nat} (h : ∀ k, k < n → f k = g k) : cnN f n = cnN g n := by
  induction n with
  | zero => rfl
  | succ n ih =>
    show cnN f n + _ = cnN g n + _
    rw [ih (fun k hk => h k (by omega)), h n (by omega)]
theorem stN_congr {f g : Nat → Bool} {n : Nat} (h : ∀ k, k < n → f k = g k) : stN f n = stN g n := by
  induction n with
  | zero => rfl
  | succ n ih =>
    show stN f n + _ = stN g n + _
    rw [ih (fun k hk => h k (by omega)), h n (by omega)]
theorem q0 {k : Nat} (h : k < 2 ^ 31) : (nI k = 0) = (k = 0) := lit_eq (h := 0) h (by decide)
theorem le0 {k : Nat} (h : k < 2 ^ 31) : (nI k ≤ 0) = (k ≤ 0) := lit_le (h := 0) h (by decide)
theorem ge0 {k : Nat} (h : k < 2 ^ 31) : (0 ≤ nI k) = (0 ≤ k) := lit_le (n := 0) (by decide) h
theorem lt0 {k : Nat} (h : k < 2 ^ 31) : (nI k < 0) = (k < 0) := lit_lt (h := 0) h (by decide)
theorem gt0 {k : Nat} (h : k < 2 ^ 31) : (0 < nI k) = (0 < k) := lit_lt (n := 0) (by decide) h
theorem q1 {k : Nat} (h : k < 2 ^ 31) : (nI k = 1) = (k = 1) := lit_eq (h := 1) h (by decide)
theorem le1 {k : Nat} (h : k < 2 ^ 31) : (nI k ≤ 1) = (k ≤ 1) := lit_le (h := 1) h (by decide)
theorem ge1 {k : Nat} (h : k < 2 ^ 31) : (1 ≤ nI k) = (1 ≤ k) := lit_le (n := 1) (by decide) h
theorem lt1 {k : Nat} (h : k < 2 ^ 31) : (nI k < 1) = (k < 1) := lit_lt (h := 1) h (by decide)
theorem gt1 {k : Nat} (h : k < 2 ^ 31) : (1 < nI k) = (1 < k) := lit_lt (n := 1) (by decide) h
theorem q2 {k : Nat} (h : k < 2 ^ 31) : (nI k = 2) = (k = 2) := lit_eq (h := 2) h (by decide)
theorem le2 {k : Nat} (h : k < 2 ^ 31) : (nI k ≤ 2) = (k ≤ 2) := lit_le (h := 2) h (by decide)
theorem ge2 {k : Nat} (h : k < 2 ^ 31) : (2 ≤ nI k) = (2 ≤ k) := lit_le (n := 2) (by decide) h
theorem lt2 {k : Nat} (h : k < 2 ^ 31) : (nI k < 2) = (k < 2) := lit_lt (h := 2) h (by decide)
theorem gt2 {k : Nat} (h : k < 2 ^ 31) : (2 < nI k) = (2 < k) := lit_lt (n := 2) (by decide) h
theorem q3 {k : Nat} (h : k < 2 ^ 31) : (nI k = 3) = (k = 3) := lit_eq (h := 3) h (by decide)
theorem le3 {k : Nat} (h : k < 2 ^ 31) : (nI k ≤ 3) = (k ≤ 3) := lit_le (h := 3) h (by decide)
theorem ge3 {k : Nat} (h : k < 2 ^ 31) : (3 ≤ nI k) = (3 ≤ k) := lit_le (n := 3) (by decide) h
theorem lt3 {k : Nat} (h : k < 2 ^ 31) : (nI k < 3) = (k < 3) := lit_lt (h := 3) h (by decide)
theorem gt3 {k : Nat} (h : k < 2 ^ 31) : (3 < nI k) = (3 < k) := lit_lt (n := 3) (by decide) h
theorem q4 {k : Nat} (h : k < 2 ^ 31) : (nI k = 4) = (k = 4) := lit_eq (h := 4) h (by decide)
theorem le4 {k : Nat} (h : k < 2 ^ 31) : (nI k ≤ 4) = (k ≤ 4) := lit_le (h := 4) h (by decide)
theorem ge4 {k : Nat} (h : k < 2 ^ 31) : (4 ≤ nI k) = (4 ≤ k) := lit_le (n := 4) (by decide) h
theorem lt4 {k : Nat} (h : k < 2 ^ 31) : (nI k < 4) = (k < 4) := lit_lt (h := 4) h (by decide)
theorem gt4 {k : Nat} (h : k < 2 ^ 31) : (4 < nI k) = (4 < k) := lit_lt (n := 4) (by decide) h
theorem q5 {k : Nat} (h : k < 2 ^ 31) : (nI k = 5) = (k = 5) := lit_eq (h := 5) h (by decide)
theorem le5 {k : Nat} (h : k < 2 ^ 31) : (nI k ≤ 5) = (k ≤ 5) := lit_le (h := 5) h (by decide)
theorem ge5 {k : Nat} (h : k < 2 ^ 31) : (5 ≤ nI k) = (5 ≤ k) := lit_le (n := 5) (by decide) h
theorem lt5 {k : Nat} (h : k < 2 ^ 31) : (nI k < 5) = (k < 5) := lit_lt (h := 5) h (by decide)
theorem gt5 {k : Nat} (h : k < 2 ^ 31) : (5 < nI k) = (5 < k) := lit_lt (n := 5) (by decide) h
theorem q6 {k : Nat} (h : k < 2 ^ 31) : (nI k = 6) = (k = 6) := lit_eq (h := 6) h (by decide)
theorem le6 {k : Nat} (h : k < 2 ^ 31) : (nI k ≤ 6) = (k ≤ 6) := lit_le (h := 6) h (by decide)
theorem ge6 {k : Nat} (h : k < 2 ^ 31) : (6 ≤ nI k) = (6 ≤ k) := lit_le (n := 6) (by decide) h
theorem lt6 {k : Nat} (h : k < 2 ^ 31) : (nI k < 6) = (k < 6) := lit_lt (h := 6) h (by decide)
theorem gt6 {k : Nat} (h : k < 2 ^ 31) : (6 < nI k) = (6 < k) := lit_lt (n := 6) (by decide) h
theorem q7 {k : Nat} (h : k < 2 ^ 31) : (nI k = 7) = (k = 7) := lit_eq (h := 7) h (by decide)
theorem le7 {k : Nat} (h : k < 2 ^ 31) : (nI k ≤ 7) = (k ≤ 7) := lit_le (h := 7) h (by decide)
theorem ge7 {k : Nat} (h : k < 2 ^ 31) : (7 ≤ nI k) = (7 ≤ k) := lit_le (n := 7) (by decide) h
theorem lt7 {k : Nat} (h : k < 2 ^ 31) : (nI k < 7) = (k < 7) := lit_lt (h := 7) h (by decide)
theorem gt7 {k : Nat} (h : k < 2 ^ 31) : (7 < nI k) = (7 < k) := lit_lt (n := 7) (by decide) h
theorem q8 {k : Nat} (h : k < 2 ^ 31) : (nI k = 8) = (k = 8) := lit_eq (h := 8) h (by decide)
theorem le8 {k : Nat} (h : k < 2 ^ 31) : (nI k ≤ 8) = (k ≤ 8) := lit_le (h := 8) h (by decide)
theorem ge8 {k : Nat} (h : k < 2 ^ 31) : (8 ≤ nI k) = (8 ≤ k) := lit_le (n := 8) (by decide) h
theorem lt8 {k : Nat} (h : k < 2 ^ 31) : (nI k < 8) = (k < 8) := lit_lt (h := 8) h (by decide)
theorem gt8 {k : Nat} (h : k < 2 ^ 31) : (8 < nI k) = (8 < k) := lit_lt (n := 8) (by decide) h
theorem q9 {k : Nat} (h : k < 2 ^ 31) : (nI k = 9) = (k = 9) := lit_eq (h := 9) h (by decide)
theorem le9 {k : Nat} (h : k < 2 ^ 31) : (nI k ≤ 9) = (k ≤ 9) := lit_le (h := 9) h (by decide)
theorem ge9 {k : Nat} (h : k < 2 ^ 31) : (9 ≤ nI k) = (9 ≤ k) := lit_le (n := 9) (by decide) h
theorem lt9 {k : Nat} (h : k < 2 ^ 31) : (nI k < 9) = (k < 9) := lit_lt (h := 9) h (by decide)
theorem gt9 {k : Nat} (h : k < 2 ^ 31) : (9 < nI k) = (9 < k) := lit_lt (n := 9) (by decide) h
theorem q10 {k : Nat} (h : k < 2 ^ 31) : (nI k = 10) = (k = 10) := lit_eq (h := 10) h (by decide)
theorem le10 {k : Nat} (h : k < 2 ^ 31) : (nI k ≤ 10) = (k ≤ 10) := lit_le (h := 10) h (by decide)
theorem ge10 {k : Nat} (h : k < 2 ^ 31) : (10 ≤ nI k) = (10 ≤ k) := lit_le (n := 10) (by decide) h
theorem lt10 {k : Nat} (h : k < 2 ^ 31) : (nI k < 10) = (k < 10) := lit_lt (h := 10) h (by decide)
theorem gt10 {k : Nat} (h : k < 2 ^ 31) : (10 < nI k) = (10 < k) := lit_lt (n := 10) (by decide) h
theorem q12 {k : Nat} (h : k < 2 ^ 31) : (nI k = 12) = (k = 12) := lit_eq (h := 12) h (by decide)
theorem le12 {k : Nat} (h : k < 2 ^ 31) : (nI k ≤ 12) = (k ≤ 12) := lit_le (h := 12) h (by decide)
theorem ge12 {k : Nat} (h : k < 2 ^ 31) : (12 ≤ nI k) = (12 ≤ k) := lit_le (n := 12) (by decide) h
theorem lt12 {k : Nat} (h : k < 2 ^ 31) : (nI k < 12) = (k < 12) := lit_lt (h := 12) h (by decide)
theorem gt12 {k : Nat} (h : k < 2 ^ 31) : (12 < nI k) = (12 < k) := lit_lt (n := 12) (by decide) h
theorem q15 {k : Nat} (h : k < 2 ^ 31) : (nI k = 15) = (k = 15) := lit_eq (h := 15) h (by decide)
theorem le15 {k : Nat} (h : k < 2 ^ 31) : (nI k ≤ 15) = (k ≤ 15) := lit_le (h := 15) h (by decide)
theorem ge15 {k : Nat} (h : k < 2 ^ 31) : (15 ≤ nI k) = (15 ≤ k) := lit_le (n := 15) (by decide) h
theorem lt15 {k : Nat} (h : k < 2 ^ 31) : (nI k < 15) = (k < 15) := lit_lt (h := 15) h (by decide)
theorem gt15 {k : Nat} (h : k < 2 ^ 31) : (15 < nI k) = (15 < k) := lit_lt (n := 15) (by decide) h
theorem q16 {k : Nat} (h : k < 2 ^ 31) : (nI k = 16) = (k = 16) := lit_eq (h := 16) h (by decide)
theorem le16 {k : Nat} (h : k < 2 ^ 31) : (nI k ≤ 16) = (k ≤ 16) := lit_le (h := 16) h (by decide)
theorem ge16 {k : Nat} (h : k < 2 ^ 31) : (16 ≤ nI k) = (16 ≤ k) := lit_le (n := 16) (by decide) h
theorem lt16 {k : Nat} (h : k < 2 ^ 31) : (nI k < 16) = (k < 16) := lit_lt (h := 16) h (by decide)
theorem gt16 {k : Nat} (h : k < 2 ^ 31) : (16 < nI k) = (16 < k) := lit_lt (n := 16) (by decide) h
theorem q20 {k : Nat} (h : k < 2 ^ 31) : (nI k = 20) = (k = 20) := lit_eq (h := 20) h (by decide)
theorem le20 {k : Nat} (h : k < 2 ^ 31) : (nI k ≤ 20) = (k ≤ 20) := lit_le (h := 20) h (by decide)
theorem ge20 {k : Nat} (h : k < 2 ^ 31) : (20 ≤ nI k) = (20 ≤ k) := lit_le (n := 20) (by decide) h
theorem lt20 {k : Nat} (h : k < 2 ^ 31) : (nI k < 20) = (k < 20) := lit_lt (h := 20) h (by decide)
theorem gt20 {k : Nat} (h : k < 2 ^ 31) : (20 < nI k) = (20 < k) := lit_lt (n := 20) (by decide) h
theorem q40 {k : Nat} (h : k < 2 ^ 31) : (nI k = 40) = (k = 40) := lit_eq (h := 40) h (by decide)
theorem le40 {k : Nat} (h : k < 2 ^ 31) : (nI k ≤ 40) = (k ≤ 40) := lit_le (h := 40) h (by decide)
theorem ge40 {k : Nat} (h : k < 2 ^ 31) : (40 ≤ nI k) = (40 ≤ k) := lit_le (n := 40) (by decide) h
theorem lt40 {k : Nat} (h : k < 2 ^ 31) : (nI k < 40) = (k < 40) := lit_lt (h := 40) h (by decide)
theorem gt40 {k : Nat} (h : k < 2 ^ 31) : (40 < nI k) = (40 < k) := lit_lt (n := 40) (by decide) h
theorem q50 {k : Nat} (h : k < 2 ^ 31) : (nI k = 50) = (k = 50) := lit_eq (h := 50) h (by decide)
theorem le50 {k : Nat} (h : k < 2 ^ 31) : (nI k ≤ 50) = (k ≤ 50) := lit_le (h := 50) h (by decide)
theorem ge50 {k : Nat} (h : k < 2 ^ 31) : (50 ≤ nI k) = (50 ≤ k) := lit_le (n := 50) (by decide) h
theorem lt50 {k : Nat} (h : k < 2 ^ 31) : (nI k < 50) = (k < 50) := lit_lt (h := 50) h (by decide)
theorem gt50 {k : Nat} (h : k < 2 ^ 31) : (50 < nI k) = (50 < k) := lit_lt (n := 50) (by decide) h
theorem q56 {k : Nat} (h : k < 2 ^ 31) : (nI k = 56) = (k = 56) := lit_eq (h := 56) h (by decide)
theorem le56 {k : Nat} (h : k < 2 ^ 31) : (nI k ≤ 56) = (k ≤ 56) := lit_le (h := 56) h (by decide)
theorem ge56 {k : Nat} (h : k < 2 ^ 31) : (56 ≤ nI k) = (56 ≤ k) := lit_le (n := 56) (by decide) h
theorem lt56 {k : Nat} (h : k < 2 ^ 31) : (nI k < 56) = (k < 56) := lit_lt (h := 56) h (by decide)
theorem gt56 {k : Nat} (h : k < 2 ^ 31) : (56 < nI k) = (56 < k) := lit_lt (n := 56) (by decide) h
theorem q99 {k : Nat} (h : k < 2 ^ 31) : (nI k = 99) = (k = 99) := lit_eq (h := 99) h (by decide)
theorem le99 {k : Nat} (h : k < 2 ^ 31) : (nI k ≤ 99) = (k ≤ 99) := lit_le (h := 99) h (by decide)
theorem ge99 {k : Nat} (h : k < 2 ^ 31) : (99 ≤ nI k) = (99 ≤ k) := lit_le (n := 99) (by decide) h
theorem lt99 {k : Nat} (h : k < 2 ^ 31) : (nI k < 99) = (k < 99) := lit_lt (h := 99) h (by decide)
theorem gt99 {k : Nat} (h : k < 2 ^ 31) : (99 < nI k) = (99 < k) := lit_lt (n := 99) (by decide) h
theorem q120 {k : Nat} (h : k < 2 ^ 31) : (nI k = 120) = (k = 120) := lit_eq (h := 120) h (by decide)
theorem le120 {k : Nat} (h : k < 2 ^ 31) : (nI k ≤ 120) = (k ≤ 120) := lit_le (h := 120) h (by decide)
theorem ge120 {k : Nat} (h : k < 2 ^ 31) : (120 ≤ nI k) = (120 ≤ k) := lit_le (n := 120) (by decide) h
theorem lt120 {k : Nat} (h : k < 2 ^ 31) : (nI k < 120) = (k < 120) := lit_lt (h := 120) h (by decide)
theorem gt120 {k : Nat} (h : k < 2 ^ 31) : (120 < nI k) = (120 < k) := lit_lt (n := 120) (by decide) h
theorem q121 {k : Nat} (h : k < 2 ^ 31) : (nI k = 121) = (k = 121) := lit_eq (h := 121) h (by decide)
theorem le121 {k : Nat} (h : k < 2 ^ 31) : (nI k ≤ 121) = (k ≤ 121) := lit_le (h := 121) h (by decide)
theorem ge121 {k : Nat} (h : k < 2 ^ 31) : (121 ≤ nI k) = (121 ≤ k) := lit_le (n := 121) (by decide) h
theorem lt121 {k : Nat} (h : k < 2 ^ 31) : (nI k < 121) = (k < 121) := lit_lt (h := 121) h (by decide)
theorem gt121 {k : Nat} (h : k < 2 ^ 31) : (121 < nI k) = (121 < k) := lit_lt (n := 121) (by decide) h
theorem q97 {k : Nat} (h : k < 2 ^ 31) : (nI k = 97) = (k = 97) := lit_eq (h := 97) h (by decide)
theorem le97 {k : Nat} (h : k < 2 ^ 31) : (nI k ≤ 97) = (k ≤ 97) := lit_le (h := 97) h (by decide)
theorem ge97 {k : Nat} (h : k < 2 ^ 31) : (97 ≤ nI k) = (97 ≤ k) := lit_le (n := 97) (by decide) h
theorem lt97 {k : Nat} (h : k < 2 ^ 31) : (nI k < 97) = (k < 97) := lit_lt (h := 97) h (by decide)
theorem gt97 {k : Nat} (h : k < 2 ^ 31) : (97 < nI k) = (97 < k) := lit_lt (n := 97) (by decide) h
theorem q122 {k : Nat} (h : k < 2 ^ 31) : (nI k = 122) = (k = 122) := lit_eq (h := 122) h (by decide)
theorem le122 {k : Nat} (h : k < 2 ^ 31) : (nI k ≤ 122) = (k ≤ 122) := lit_le (h := 122) h (by decide)
theorem ge122 {k : Nat} (h : k < 2 ^ 31) : (122 ≤ nI k) = (122 ≤ k) := lit_le (n := 122) (by decide) h
theorem lt122 {k : Nat} (h : k < 2 ^ 31) : (nI k < 122) = (k < 122) := lit_lt (h := 122) h (by decide)
theorem gt122 {k : Nat} (h : k < 2 ^ 31) : (122 < nI k) = (122 < k) := lit_lt (n := 122) (by decide) h
theorem q48 {k : Nat} (h : k < 2 ^ 31) : (nI k = 48) = (k = 48) := lit_eq (h := 48) h (by decide)
theorem le48 {k : Nat} (h : k < 2 ^ 31) : (nI k ≤ 48) = (k ≤ 48) := lit_le (h := 48) h (by decide)
theorem ge48 {k : Nat} (h : k < 2 ^ 31) : (48 ≤ nI k) = (48 ≤ k) := lit_le (n := 48) (by decide) h
theorem lt48 {k : Nat} (h : k < 2 ^ 31) : (nI k < 48) = (k < 48) := lit_lt (h := 48) h (by decide)
theorem gt48 {k : Nat} (h : k < 2 ^ 31) : (48 < nI k) = (48 < k) := lit_lt (n := 48) (by decide) h
theorem q57 {k : Nat} (h : k < 2 ^ 31) : (nI k = 57) = (k = 57) := lit_eq (h := 57) h (by decide)
theorem le57 {k : Nat} (h : k < 2 ^ 31) : (nI k ≤ 57) = (k ≤ 57) := lit_le (h := 57) h (by decide)
theorem ge57 {k : Nat} (h : k < 2 ^ 31) : (57 ≤ nI k) = (57 ≤ k) := lit_le (n := 57) (by decide) h
theorem lt57 {k : Nat} (h : k < 2 ^ 31) : (nI k < 57) = (k < 57) := lit_lt (h := 57) h (by decide)
theorem gt57 {k : Nat} (h : k < 2 ^ 31) : (57 < nI k) = (57 < k) := lit_lt (n := 57) (by decide) h
theorem q32 {k : Nat} (h : k < 2 ^ 31) : (nI k = 32) = (k = 32) := lit_eq (h := 32) h (by decide)
theorem le32 {k : Nat} (h : k < 2 ^ 31) : (nI k ≤ 32) = (k ≤ 32) := lit_le (h := 32) h (by decide)
theorem ge32 {k : Nat} (h : k < 2 ^ 31) : (32 ≤ nI k) = (32 ≤ k) := lit_le (n := 32) (by decide) h
theorem lt32 {k : Nat} (h : k < 2 ^ 31) : (nI k < 32) = (k < 32) := lit_lt (h := 32) h (by decide)
theorem gt32 {k : Nat} (h : k < 2 ^ 31) : (32 < nI k) = (32 < k) := lit_lt (n := 32) (by decide) h
theorem q59 {k : Nat} (h : k < 2 ^ 31) : (nI k = 59) = (k = 59) := lit_eq (h := 59) h (by decide)
theorem le59 {k : Nat} (h : k < 2 ^ 31) : (nI k ≤ 59) = (k ≤ 59) := lit_le (h := 59) h (by decide)
theorem ge59 {k : Nat} (h : k < 2 ^ 31) : (59 ≤ nI k) = (59 ≤ k) := lit_le (n := 59) (by decide) h
theorem lt59 {k : Nat} (h : k < 2 ^ 31) : (nI k < 59) = (k < 59) := lit_lt (h := 59) h (by decide)
theorem gt59 {k : Nat} (h : k < 2 ^ 31) : (59 < nI k) = (59 < k) := lit_lt (n := 59) (by decide) h
theorem q65535 {k : Nat} (h : k < 2 ^ 31) : (nI k = 65535) = (k = 65535) := lit_eq (h := 65535) h (by decide)
theorem le65535 {k : Nat} (h : k < 2 ^ 31) : (nI k ≤ 65535) = (k ≤ 65535) := lit_le (h := 65535) h (by decide)
theorem ge65535 {k : Nat} (h : k < 2 ^ 31) : (65535 ≤ nI k) = (65535 ≤ k) := lit_le (n := 65535) (by decide) h
theorem lt65535 {k : Nat} (h : k < 2 ^ 31) : (nI k < 65535) = (k < 65535) := lit_lt (h := 65535) h (by decide)
theorem gt65535 {k : Nat} (h : k < 2 ^ 31) : (65535 < nI k) = (65535 < k) := lit_lt (n := 65535) (by decide) h
theorem q99999 {k : Nat} (h : k < 2 ^ 31) : (nI k = 99999) = (k = 99999) := lit_eq (h := 99999) h (by decide)
theorem le99999 {k : Nat} (h : k < 2 ^ 31) : (nI k ≤ 99999) = (k ≤ 99999) := lit_le (h := 99999) h (by decide)
theorem ge99999 {k : Nat} (h : k < 2 ^ 31) : (99999 ≤ nI k) = (99999 ≤ k) := lit_le (n := 99999) (by decide) h
theorem lt99999 {k : Nat} (h : k < 2 ^ 31) : (nI k < 99999) = (k < 99999) := lit_lt (h := 99999) h (by decide)
theorem gt99999 {k : Nat} (h : k < 2 ^ 31) : (99999 < nI k) = (99999 < k) := lit_lt (n := 99999) (by decide) h
theorem q100000 {k : Nat} (h : k < 2 ^ 31) : (nI k = 100000) = (k = 100000) := lit_eq (h := 100000) h (by decide)
theorem le100000 {k : Nat} (h : k < 2 ^ 31) : (nI k ≤ 100000) = (k ≤ 100000) := lit_le (h := 100000) h (by decide)
theorem ge100000 {k : Nat} (h : k < 2 ^ 31) : (100000 ≤ nI k) = (100000 ≤ k) := lit_le (n := 100000) (by decide) h
theorem lt100000 {k : Nat} (h : k < 2 ^ 31) : (nI k < 100000) = (k < 100000) := lit_lt (h := 100000) h (by decide)
theorem gt100000 {k : Nat} (h : k < 2 ^ 31) : (100000 < nI k) = (100000 < k) := lit_lt (n := 100000) (by decide) h
theorem q90000 {k : Nat} (h : k < 2 ^ 31) : (nI k = 90000) = (k = 90000) := lit_eq (h := 90000) h (by decide)
theorem le90000 {k : Nat} (h : k < 2 ^ 31) : (nI k ≤ 90000) = (k ≤ 90000) := lit_le (h := 90000) h (by decide)
theorem ge90000 {k : Nat} (h : k < 2 ^ 31) : (90000 ≤ nI k) = (90000 ≤ k) := lit_le (n := 90000) (by decide) h
theorem lt90000 {k : Nat} (h : k < 2 ^ 31) : (nI k < 90000) = (k < 90000) := lit_lt (h := 90000) h (by decide)
theorem gt90000 {k : Nat} (h : k < 2 ^ 31) : (90000 < nI k) = (90000 < k) := lit_lt (n := 90000) (by decide) h
theorem q1000000 {k : Nat} (h : k < 2 ^ 31) : (nI k = 1000000) = (k = 1000000) := lit_eq (h := 1000000) h (by decide)
theorem le1000000 {k : Nat} (h : k < 2 ^ 31) : (nI k ≤ 1000000) = (k ≤ 1000000) := lit_le (h := 1000000) h (by decide)
theorem ge1000000 {k : Nat} (h : k < 2 ^ 31) : (1000000 ≤ nI k) = (1000000 ≤ k) := lit_le (n := 1000000) (by decide) h
theorem lt1000000 {k : Nat} (h : k < 2 ^ 31) : (nI k < 1000000) = (k < 1000000) := lit_lt (h := 1000000) h (by decide)
theorem gt1000000 {k : Nat} (h : k < 2 ^ 31) : (1000000 < nI k) = (1000000 < k) := lit_lt (n := 1000000) (by decide) h
theorem ad1 (k : Nat) : nI k + 1 = nI (k + 1) := nI_add k 1
theorem da1 (k : Nat) : 1 + nI k = nI (1 + k) := nI_add 1 k
theorem mu1 (k : Nat) : 1 * nI k = nI (1 * k) := pk_mul 1 k
theorem ad2 (k : Nat) : nI k + 2 = nI (k + 2) := nI_add k 2
theorem da2 (k : Nat) : 2 + nI k = nI (2 + k) := nI_add 2 k
theorem mu2 (k : Nat) : 2 * nI k = nI (2 * k) := pk_mul 2 k
theorem ad3 (k : Nat) : nI k + 3 = nI (k + 3) := nI_add k 3
theorem da3 (k : Nat) : 3 + nI k = nI (3 + k) := nI_add 3 k
theorem mu3 (k : Nat) : 3 * nI k = nI (3 * k) := pk_mul 3 k
theorem ad4 (k : Nat) : nI k + 4 = nI (k + 4) := nI_add k 4
theorem da4 (k : Nat) : 4 + nI k = nI (4 + k) := nI_add 4 k
theorem mu4 (k : Nat) : 4 * nI k = nI (4 * k) := pk_mul 4 k
theorem ad5 (k : Nat) : nI k + 5 = nI (k + 5) := nI_add k 5
theorem da5 (k : Nat) : 5 + nI k = nI (5 + k) := nI_add 5 k
theorem mu5 (k : Nat) : 5 * nI k = nI (5 * k) := pk_mul 5 k
theorem ad8 (k : Nat) : nI k + 8 = nI (k + 8) := nI_add k 8
theorem da8 (k : Nat) : 8 + nI k = nI (8 + k) := nI_add 8 k
theorem mu8 (k : Nat) : 8 * nI k = nI (8 * k) := pk_mul 8 k
theorem ad10 (k : Nat) : nI k + 10 = nI (k + 10) := nI_add k 10
theorem da10 (k : Nat) : 10 + nI k = nI (10 + k) := nI_add 10 k
theorem mu10 (k : Nat) : 10 * nI k = nI (10 * k) := pk_mul 10 k
theorem ad16 (k : Nat) : nI k + 16 = nI (k + 16) := nI_add k 16
theorem da16 (k : Nat) : 16 + nI k = nI (16 + k) := nI_add 16 k
theorem mu16 (k : Nat) : 16 * nI k = nI (16 * k) := pk_mul 16 k
theorem mu40 (k : Nat) : 40 * nI k = nI (40 * k) := pk_mul 40 k
theorem ckl_4_56 {α : Type} {x : Option α} : ck (inb 4 56) x = x := ck_t (by decide)
theorem ckl_0_56 {α : Type} {x : Option α} : ck (inb 0 56) x = x := ck_t (by decide)
theorem ckl_3_56 {α : Type} {x : Option α} : ck (inb 3 56) x = x := ck_t (by decide)
theorem ckl_1_56 {α : Type} {x : Option α} : ck (inb 1 56) x = x := ck_t (by decide)
theorem ckl_5_56 {α : Type} {x : Option α} : ck (inb 5 56) x = x := ck_t (by decide)
theorem ckl_2_56 {α : Type} {x : Option α} : ck (inb 2 56) x = x := ck_t (by decide)
theorem ckl_1_2 {α : Type} {x : Option α} : ck (inb 1 2) x = x := ck_t (by decide)
theorem ckl_0_2 {α : Type} {x : Option α} : ck (inb 0 2) x = x := ck_t (by decide)
theorem ckl_0_256 {α : Type} {x : Option α} : ck (inb 0 256) x = x := ck_t (by decide)
theorem ckl_0_8 {α : Type} {x : Option α} : ck (inb 0 8) x = x := ck_t (by decide)
theorem ckl_33_34 {α : Type} {x : Option α} : ck (inb 33 34) x = x := ck_t (by decide)
theorem ckl_32_34 {α : Type} {x : Option α} : ck (inb 32 34) x = x := ck_t (by decide)
theorem ixl_0 : ix 0 = 0 := by decide
theorem ixl_1 : ix 1 = 1 := by decide
theorem ixl_2 : ix 2 = 2 := by decide
theorem ixl_3 : ix 3 = 3 := by decide
theorem ixl_4 : ix 4 = 4 := by decide
theorem ixl_5 : ix 5 = 5 := by decide
theorem ixl_8 : ix 8 = 8 := by decide
theorem ixl_10 : ix 10 = 10 := by decide
theorem ixl_32 : ix 32 = 32 := by decide
theorem ixl_33 : ix 33 = 33 := by decide
theorem ixl_40 : ix 40 = 40 := by decide
theorem sb1 {k : Nat} (h : 0 < k) : nI k - 1 = nI (k - 1) := pk_sub (b := 1) h
theorem irm_2 {a : Nat} (h : a < 2 ^ 31) : irm (nI a) 2 = nI (a % 2) := pk_rem (d := 2) h (by decide) (by decide)
theorem div_2 {a : Nat} (h : a < 2 ^ 31) : nI a / 2 = nI (a / 2) := pk_div (d := 2) h (by decide) (by decide)
theorem imax_nI {a b : Nat} (ha : a < 2 ^ 31) (hb : b < 2 ^ 31) : imax (nI a) (nI b) = nI (max a b) := by
  unfold imax
  by_cases h : a < b
  · rw [if_pos (by rw [lit_lt ha hb]; exact h), Nat.max_eq_right (Nat.le_of_lt h)]
  · rw [if_neg (by rw [lit_lt ha hb]; exact h), Nat.max_eq_left (Nat.not_lt.mp h)]
theorem imin_nI {a b : Nat} (ha : a < 2 ^ 31) (hb : b < 2 ^ 31) : imin (nI a) (nI b) = nI (min a b) := by
  unfold imin
  by_cases h : b < a
  · rw [if_pos (by rw [lit_lt hb ha]; exact h), Nat.min_eq_right (Nat.le_of_lt h)]
  · rw [if_neg (by rw [lit_lt hb ha]; exact h), Nat.min_eq_left (Nat.not_lt.mp h)]
theorem nI_inj {a b : Nat} (ha : a < 2 ^ 31) (hb : b < 2 ^ 31) (h : nI a = nI b) : a = b := (nI_eq ha hb).mp h
/-- an index is good, or bad -/
theorem in_or {n : Nat} (x : Int32) (hn : n < 2 ^ 31) : (∃ i : Nat, i < n ∧ x = nI i) ∨ (x < 0 ∨ (¬ x < 0 ∧ ¬ x < nI n ∧ nI n ≤ x)) := by
  by_cases h0 : x < 0
  · exact Or.inr (Or.inl h0)
  · obtain ⟨j, hj, rfl⟩ := nI_of h0
    by_cases h1 : j < n
    · exact Or.inl ⟨j, h1, rfl⟩
    · refine Or.inr (Or.inr ⟨h0, ?_, ?_⟩)
      · rw [lit_lt hj hn]; exact h1
      · rw [lit_le hn hj]; omega

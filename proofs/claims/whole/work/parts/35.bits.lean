/-! ints by their bits; how many bits -/
def bt (x : Int32) (i : Nat) : Bool := x.toBitVec.getLsbD i
theorem b_ext {x y : Int32} (h : ∀ i, i < 32 → bt x i = bt y i) : x = y := Int32.toBitVec_inj.mp (BitVec.eq_of_getLsbD_eq (fun i hi => h i hi))
theorem b_or (x y : Int32) (i : Nat) : bt (x ||| y) i = (bt x i || bt y i) := by unfold bt; rw [Int32.toBitVec_or, BitVec.getLsbD_or]
theorem b_and (x y : Int32) (i : Nat) : bt (x &&& y) i = (bt x i && bt y i) := by unfold bt; rw [Int32.toBitVec_and, BitVec.getLsbD_and]
theorem b_xor (x y : Int32) (i : Nat) : bt (x ^^^ y) i = (bt x i ^^ bt y i) := by unfold bt; rw [Int32.toBitVec_xor, BitVec.getLsbD_xor]
theorem b_m1 : ∀ i, i < 32 → bt (-1) i = true := by decide +kernel
theorem b_nI (n : Nat) {i : Nat} (h : i < 32) : bt (nI n) i = n.testBit i := by
  show (BitVec.ofNat 32 n).getLsbD i = _
  rw [BitVec.getLsbD_ofNat]
  simp [h]
theorem b_not (x : Int32) {i : Nat} (h : i < 32) : bt (x ^^^ (-1)) i = !bt x i := by
  rw [b_xor, b_m1 i h]
  cases bt x i <;> rfl
/-- an int is a set, if its bits are those of the set -/
theorem b_st {x : Int32} {f : Nat → Bool} {n : Nat} (h : ∀ i, i < 32 → bt x i = (decide (i < n) && f i)) : x = nI (stN f n) := b_ext (fun i hi => by rw [h i hi, b_nI _ hi, stN_tb])
theorem tb_hi {a i : Nat} (h : a < 65536) (hi : 16 ≤ i) : a.testBit i = false := Nat.testBit_lt_two_pow (Nat.lt_of_lt_of_le h (by have := Nat.pow_le_pow_right (n := 2) (by decide) hi; simpa using this))
theorem st_of {a : Nat} (h : a < 65536) : stN a.testBit 16 = a := by
  apply Nat.eq_of_testBit_eq
  intro i
  rw [stN_tb]
  rcases Nat.lt_or_ge i 16 with q | q
  · simp [q]
  · rw [tb_hi h q]; simp
theorem rst_tb {h i : Nat} (hh : h ≤ 16) : (65536 - 2 ^ h).testBit i = (decide (h ≤ i) && decide (i < 16)) := by
  rcases Nat.lt_or_ge i 16 with q | q
  · have : ∀ h, h < 17 → ∀ i, i < 16 → (65536 - 2 ^ h).testBit i = (decide (h ≤ i) && decide (i < 16)) := by decide +kernel
    exact this h (by omega) i q
  · have : 0 < 2 ^ h := Nat.two_pow_pos h
    rw [tb_hi (by omega) q]
    simp [Nat.not_lt.mpr q]
/-- how many of the 16 lowest bits -/
def pcN (s : Nat) : Nat := cnN s.testBit 16
def pcF (s : Nat) : Nat := s % 2 + s / 2 % 2 + s / 4 % 2 + s / 8 % 2 + s / 16 % 2 + s / 32 % 2 + s / 64 % 2 + s / 128 % 2 + s / 256 % 2 + s / 512 % 2 + s / 1024 % 2 + s / 2048 % 2 + s / 4096 % 2 + s / 8192 % 2 + s / 16384 % 2 + s / 32768 % 2
theorem tbv (s k : Nat) : (if s.testBit k = true then 1 else 0) = s / 2 ^ k % 2 := by
  rw [← tb_div]
  rcases Nat.mod_two_eq_zero_or_one (s / 2 ^ k) with h | h <;> simp [h]
theorem pcN_F (s : Nat) : pcN s = pcF s := by
  unfold pcN pcF
  simp only [cnN, tbv]
  simp
theorem pcF_s : ∀ a, a < 256 → ∀ b, b < 256 → pcF (256 * a + b) = pcF a + pcF b := by
  intro a ha b hb
  unfold pcF
  omega
def sw1 (s : Nat) : Nat := s - ((s / 2) &&& 1431655765)
def sw2 (v : Nat) : Nat := (v &&& 858993459) + ((v / 4) &&& 858993459)
def sw3 (v : Nat) : Nat := (v + v / 16) &&& 252645135
def sw4 (v : Nat) : Nat := v + v / 256
def sw5 (v : Nat) : Nat := (v + v / 65536) &&& 63
theorem and_sp {c d m k : Nat} (hd : d < 256) (hk : k < 256) : (256 * c + d) &&& (256 * m + k) = 256 * (c &&& m) + (d &&& k) := by
  apply Nat.eq_of_testBit_eq
  intro i
  have hdk : d &&& k < 2 ^ 8 := Nat.lt_of_le_of_lt Nat.and_le_left hd
  rw [Nat.testBit_and, show 256 = 2 ^ 8 from rfl, Nat.testBit_two_pow_mul_add c hd, Nat.testBit_two_pow_mul_add m hk, Nat.testBit_two_pow_mul_add _ hdk, Nat.testBit_and, Nat.testBit_and]
  split <;> rfl
theorem sw1_a : ∀ r, r < 2 → ∀ b, b < 256 → (128 * r + b / 2) &&& 85 = (b / 2) &&& 85 := by decide +kernel
theorem sw1_b : ∀ a, a < 256 → (a / 2) &&& 5592405 = (a / 2) &&& 85 ∧ (a / 2) &&& 1431655765 = (a / 2) &&& 85 ∧ (a / 2) &&& 85 ≤ a := by decide +kernel
theorem sw1_s {a b : Nat} (ha : a < 256) (hb : b < 256) : sw1 (256 * a + b) = 256 * sw1 a + sw1 b := by
  unfold sw1
  obtain ⟨p1, p2, p3⟩ := sw1_b a ha
  obtain ⟨-, r2, r3⟩ := sw1_b b hb
  have e : (256 * a + b) / 2 = 256 * (a / 2) + (128 * (a % 2) + b / 2) := by omega
  rw [e, show (1431655765 : Nat) = 256 * 5592405 + 85 from rfl, and_sp (by omega) (by decide), sw1_a (a % 2) (by omega) b hb, p1, show (256 * 5592405 + 85 : Nat) = 1431655765 from rfl, p2, r2]
  omega
theorem sw1_lt : ∀ a, a < 256 → sw1 a < 256 := by decide +kernel
theorem sw2_a : ∀ r, r < 4 → ∀ b, b < 256 → (64 * r + b / 4) &&& 51 = (b / 4) &&& 51 := by decide +kernel
theorem sw2_b : ∀ a, a < 256 → a &&& 3355443 = a &&& 51 ∧ a &&& 858993459 = a &&& 51 ∧ (a / 4) &&& 3355443 = (a / 4) &&& 51 ∧ (a / 4) &&& 858993459 = (a / 4) &&& 51 := by decide +kernel
theorem sw2_s {a b : Nat} (ha : a < 256) (hb : b < 256) : sw2 (256 * a + b) = 256 * sw2 a + sw2 b := by
  unfold sw2
  obtain ⟨p1, p2, p3, p4⟩ := sw2_b a ha
  obtain ⟨-, r2, -, r4⟩ := sw2_b b hb
  have e : (256 * a + b) / 4 = 256 * (a / 4) + (64 * (a % 4) + b / 4) := by omega
  rw [e, show (858993459 : Nat) = 256 * 3355443 + 51 from rfl, and_sp hb (by decide), and_sp (by omega) (by decide), sw2_a (a % 4) (by omega) b hb, p1, p3, show (256 * 3355443 + 51 : Nat) = 858993459 from rfl, p2, p4, r2, r4]
  omega
theorem sw2_v : ∀ a, a < 256 → sw2 (sw1 a) % 16 ≤ 4 ∧ sw2 (sw1 a) / 16 ≤ 4 ∧ sw2 (sw1 a) % 16 + sw2 (sw1 a) / 16 = pcF a := by decide +kernel
theorem sw5_v : ∀ x, x < 5 → ∀ y, y < 5 → ∀ z, z < 5 → ∀ w, w < 5 → sw5 (sw4 (sw3 (256 * (16 * x + y) + (16 * z + w)))) = x + y + z + w := by decide +kernel
theorem sw_all {a b : Nat} (ha : a < 256) (hb : b < 256) : sw5 (sw4 (sw3 (sw2 (sw1 (256 * a + b))))) = pcF (256 * a + b) := by
  rw [sw1_s ha hb, sw2_s (sw1_lt a ha) (sw1_lt b hb), pcF_s a ha b hb]
  obtain ⟨p1, p2, p3⟩ := sw2_v a ha
  obtain ⟨r1, r2, r3⟩ := sw2_v b hb
  have e1 : sw2 (sw1 a) = 16 * (sw2 (sw1 a) / 16) + sw2 (sw1 a) % 16 := by omega
  have e2 : sw2 (sw1 b) = 16 * (sw2 (sw1 b) / 16) + sw2 (sw1 b) % 16 := by omega
  rw [e1, e2, sw5_v _ (by omega) _ (by omega) _ (by omega) _ (by omega)]
  omega
theorem bitCount {s : Nat} (M : Mem) (h : s < 65536) : fJ6_bitCount_0f7a4 (nI s) M = some (nI (pcN s), M) := by
  have e0 : sw5 (sw4 (sw3 (sw2 (sw1 s)))) = pcN s := by
    rw [pcN_F]
    have e := sw_all (a := s / 256) (b := s % 256) (by omega) (by omega)
    rw [show 256 * (s / 256) + s % 256 = s by omega] at e
    exact e
  have g1 : nI s - (ush (nI s) 1 &&& 1431655765) = nI (sw1 s) := by
    have hle : (s / 2 ^ 1) &&& 1431655765 ≤ s := Nat.le_trans Nat.and_le_left (Nat.div_le_self _ _)
    rw [show (1 : Int32) = nI 1 from rfl, show (1431655765 : Int32) = nI 1431655765 from rfl, ush_nI (by decide) (by omega), nI_and, pk_sub hle]
    rfl
  have l1 : sw1 s < 65536 := by unfold sw1; omega
  have g2 : (nI (sw1 s) &&& 858993459) + (ush (nI (sw1 s)) 2 &&& 858993459) = nI (sw2 (sw1 s)) := by
    rw [show (2 : Int32) = nI 2 from rfl, show (858993459 : Int32) = nI 858993459 from rfl, ush_nI (by decide) (by omega), nI_and, nI_and, nI_add]
    rfl
  have l2 : sw2 (sw1 s) < 131072 := by
    unfold sw2
    have a1 : sw1 s &&& 858993459 ≤ sw1 s := Nat.and_le_left
    have a2 : sw1 s / 4 &&& 858993459 ≤ sw1 s / 4 := Nat.and_le_left
    omega
  have g3 : (nI (sw2 (sw1 s)) + ush (nI (sw2 (sw1 s))) 4) &&& 252645135 = nI (sw3 (sw2 (sw1 s))) := by
    rw [show (4 : Int32) = nI 4 from rfl, show (252645135 : Int32) = nI 252645135 from rfl, ush_nI (by decide) (by omega), nI_add, nI_and]
    rfl
  have l3 : sw3 (sw2 (sw1 s)) < 262144 := by
    unfold sw3
    have a1 : (sw2 (sw1 s) + sw2 (sw1 s) / 16) &&& 252645135 ≤ sw2 (sw1 s) + sw2 (sw1 s) / 16 := Nat.and_le_left
    omega
  have g4 : nI (sw3 (sw2 (sw1 s))) + ush (nI (sw3 (sw2 (sw1 s)))) 8 = nI (sw4 (sw3 (sw2 (sw1 s)))) := by
    rw [show (8 : Int32) = nI 8 from rfl, ush_nI (by decide) (by omega), nI_add]
    rfl
  have l4 : sw4 (sw3 (sw2 (sw1 s))) < 2 ^ 31 := by unfold sw4; omega
  have g5 : (nI (sw4 (sw3 (sw2 (sw1 s)))) + ush (nI (sw4 (sw3 (sw2 (sw1 s))))) 16) &&& 63 = nI (sw5 (sw4 (sw3 (sw2 (sw1 s))))) := by
    rw [show (16 : Int32) = nI 16 from rfl, show (63 : Int32) = nI 63 from rfl, ush_nI (by decide) (by omega), nI_add, nI_and]
    rfl
  unfold fJ6_bitCount_0f7a4
  simp only [bve, g1, g2, g3, g4, g5, e0]
theorem bc8 {s : Nat} (h : s < 256) : pcN s % 2 = cnN s.testBit 8 % 2 := by
  have : ∀ s, s < 256 → pcN s % 2 = cnN s.testBit 8 % 2 := by decide +kernel
  exact this s h
/-- a set less its lowest one has one less -/
theorem pcR_low : ∀ (k s : Nat), s < 2 ^ k → 0 < s → cnN s.testBit k = cnN (s &&& (s - 1)).testBit k + 1 := by
  have split : ∀ (k s : Nat), cnN s.testBit (k + 1) = s % 2 + cnN (s / 2).testBit k := by
    intro k
    induction k with
    | zero => intro s; show 0 + _ = _ + 0; rw [tbv]; simp
    | succ k ih =>
      intro s
      show cnN s.testBit (k + 1) + _ = _ + (cnN (s / 2).testBit k + _)
      rw [ih, Nat.add_assoc]
      congr 1
      rw [tbv, tbv, Nat.div_div_eq_div_mul, Nat.pow_succ, Nat.mul_comm 2]
  intro k
  induction k with
  | zero => intro s h h0; omega
  | succ k ih =>
    intro s h h0
    rw [split, split]
    have ev : (s &&& (s - 1)) % 2 = 0 := by
      have h2 : (s &&& (s - 1)) % 2 = (s % 2) &&& ((s - 1) % 2) := by
        have := @Nat.and_mod_two_pow s (s - 1) 1
        simpa using this
      rw [h2]
      rcases Nat.mod_two_eq_zero_or_one s with q | q
      · rw [q]; simp
      · rw [show (s - 1) % 2 = 0 by omega]; simp
    have dv : (s &&& (s - 1)) / 2 = (s / 2) &&& ((s - 1) / 2) := by
      have := @Nat.and_div_two_pow s (s - 1) 1
      simpa using this
    rw [ev, dv]
    rcases Nat.mod_two_eq_zero_or_one s with q | q
    · rw [q, show (s - 1) / 2 = s / 2 - 1 by omega, ih (s / 2) (by rw [Nat.pow_succ] at h; omega) (by omega)]
      omega
    · rw [q, show (s - 1) / 2 = s / 2 by omega, Nat.and_self]
      omega
theorem x8_bits_L4 {M : Mem} : ∀ (n s c : Nat), s < 65536 → pcN s < n → c + pcN s < 2 ^ 31 → fX8_bits_L4 n (nI c) (nI s) M = some (nI (c + pcN s), M) := by
  intro n
  induction n with
  | zero => intro s c _ h; omega
  | succ n ih =>
    intro s c hs hp hc
    rw [fX8_bits_L4]
    rcases Nat.eq_zero_or_pos s with h0 | h0
    · subst h0
      rfl
    · have hl := pcR_low 16 s (by simpa using hs) h0
      have hle : s &&& (s - 1) ≤ s := Nat.and_le_left
      have hl2 : pcN s = pcN (s &&& (s - 1)) + 1 := hl
      rw [if_neg (by rw [q0 (by omega)]; omega)]
      simp only [bve]
      rw [sb1 h0, nI_and, nI_1, ih _ _ (by omega) (by omega) (by omega), hl2]
      rw [show c + 1 + pcN (s &&& (s - 1)) = c + (pcN (s &&& (s - 1)) + 1) by omega]
theorem pcN_le (s : Nat) : pcN s ≤ 16 := cnN_le _ _
theorem x8_bits {s : Nat} (M : Mem) (h : s < 65536) : fX8_bits (nI s) M = some (nI (pcN s), M) := by
  have := pcN_le s
  have e := x8_bits_L4 (M := M) fu s 0 h (by show _ < 2000; omega) (by omega)
  rw [Nat.zero_add] at e
  exact e

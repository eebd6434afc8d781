/-! texts: an item, as the document has it -/
abbrev Itm : Type := Nat × Nat × Nat × Nat
def apI (L : Lan) (x : Itm) : Lan := if x.1 = 10 then joiL L x.2.1 x.2.2.1 else if x.1 = 11 then sL L x.2.1 else if x.1 = 12 then sH L x.2.1 else comL L x.1 x.2.1 x.2.2.1 x.2.2.2
def okI (L : Lan) (x : Itm) : Prop := (x.1 = 10 ∧ x.2.1 < gN L ∧ x.2.2.1 < gN L ∧ x.2.1 ≠ x.2.2.1) ∨ (x.1 = 11 ∧ x.2.1 < 65536) ∨ (x.1 = 12 ∧ x.2.1 ≤ 16) ∨ (x.1 ≤ 6 ∧ gN L < 8 ∧ x.2.1 ≤ 99 ∧ x.2.2.1 ≤ 9 ∧ x.2.2.2 < 65536)
theorem wf_sH {L : Lan} (hW : WF L) {v : Nat} (hv : v ≤ 16) : WF (sH L v) := wf_H hW hv
theorem wf_api {L : Lan} (hW : WF L) {x : Itm} (hx : okI L x) : WF (apI L x) ∧ gN (apI L x) = if x.1 ≤ 6 then gN L + 1 else gN L := by
  unfold apI
  rcases hx with ⟨h1, h2, h3, h4⟩ | ⟨h1, h2⟩ | ⟨h1, h2⟩ | ⟨h1, h2, h3, h4, h5⟩
  · rw [if_pos h1, if_neg (by omega)]
    exact ⟨wf_joi hW h2 h3 h4, joi_k gN (fun _ _ => rfl) L _ _⟩
  · rw [if_neg (by omega), if_pos h1, if_neg (by omega)]
    exact ⟨wf_l hW h2, rfl⟩
  · rw [if_neg (by omega), if_neg (by omega), if_pos h1, if_neg (by omega)]
    exact ⟨wf_sH hW h2, rfl⟩
  · rw [if_neg (by omega), if_neg (by omega), if_neg (by omega), if_pos h1]
    exact ⟨wf_com hW h2 h1 h3 h4 h5, rfl⟩
/-- a number that may stand here -/
def nuB (t : Nat → Nat) (n p m : Nat) : Bool := decide (tyN t n p = 2 ∧ valN t n p < m)
theorem nu_t {t : Nat → Nat} {n p m : Nat} : nuB t n p m = true ↔ tyN t n p = 2 ∧ valN t n p < m := decide_eq_true_iff
/-- a trait: good, where one stands behind it (or at the fault), what it tells -/
def trP (t : Nat → Nat) (n k m d p : Nat) : Bool × Nat × Nat := if wdB t n p k = true then (if nuB t n (nxN t n p) m = true then (true, nxN t n (nxN t n p), valN t n (nxN t n p)) else (false, nxN t n p, 0)) else (true, p, d)
theorem tr_no {t : Nat → Nat} {n k m d p : Nat} (h : wdB t n p k = false) : trP t n k m d p = (true, p, d) := by unfold trP; rw [if_neg (by rw [h]; decide)]
theorem tr_ok {t : Nat → Nat} {n k m d p : Nat} (h : wdB t n p k = true) (h2 : nuB t n (nxN t n p) m = true) : trP t n k m d p = (true, nxN t n (nxN t n p), valN t n (nxN t n p)) := by unfold trP; rw [if_pos h, if_pos h2]
theorem tr_ba {t : Nat → Nat} {n k m d p : Nat} (h : wdB t n p k = true) (h2 : nuB t n (nxN t n p) m = false) : trP t n k m d p = (false, nxN t n p, 0) := by unfold trP; rw [if_pos h, if_neg (by rw [h2]; decide)]
/-- an item: good, where one stands behind it (or at the fault), what it tells -/
def pit (t : Nat → Nat) (n p pn : Nat) : Bool × Nat × Itm :=
  if kdN t n p ≠ 0 then
    if pn = 8 then (false, p, (0, 0, 0, 0)) else
    if (trP t n 7 100 0 (nxN t n p)).1 = false then (false, (trP t n 7 100 0 (nxN t n p)).2.1, (0, 0, 0, 0)) else
    if (trP t n 8 10 3 (trP t n 7 100 0 (nxN t n p)).2.1).1 = false then (false, (trP t n 8 10 3 (trP t n 7 100 0 (nxN t n p)).2.1).2.1, (0, 0, 0, 0)) else
    ((trP t n 9 65536 0 (trP t n 8 10 3 (trP t n 7 100 0 (nxN t n p)).2.1).2.1).1, (trP t n 9 65536 0 (trP t n 8 10 3 (trP t n 7 100 0 (nxN t n p)).2.1).2.1).2.1, (kdN t n p - 1, (trP t n 7 100 0 (nxN t n p)).2.2, (trP t n 8 10 3 (trP t n 7 100 0 (nxN t n p)).2.1).2.2, (trP t n 9 65536 0 (trP t n 8 10 3 (trP t n 7 100 0 (nxN t n p)).2.1).2.1).2.2))
  else if wdB t n p 10 = true then
    if nuB t n (nxN t n p) pn = false then (false, nxN t n p, (0, 0, 0, 0)) else
    if nuB t n (nxN t n (nxN t n p)) pn = false ∨ valN t n (nxN t n (nxN t n p)) = valN t n (nxN t n p) then (false, nxN t n (nxN t n p), (0, 0, 0, 0)) else
    (true, nxN t n (nxN t n (nxN t n p)), (10, valN t n (nxN t n p), valN t n (nxN t n (nxN t n p)), 0))
  else if wdB t n p 11 = true then
    (nuB t n (nxN t n p) 65536, if nuB t n (nxN t n p) 65536 = true then nxN t n (nxN t n p) else nxN t n p, (11, valN t n (nxN t n p), 0, 0))
  else if wdB t n p 12 = true then
    (nuB t n (nxN t n p) 17, if nuB t n (nxN t n p) 17 = true then nxN t n (nxN t n p) else nxN t n p, (12, valN t n (nxN t n p), 0, 0))
  else (false, p, (0, 0, 0, 0))
theorem wd_bg {t : Nat → Nat} {n p k : Nat} (hp : tkP t n p) (h : wdB t n p k = true) : p < n ∧ bgB t n p = true := by
  have h1 := (wd_t.mp h).1
  have hn : p < n := ((ty_k (by decide)).mp h1).1
  rcases hp with q | q
  · omega
  · exact ⟨hn, q⟩
theorem nu_bg {t : Nat → Nat} {n p m : Nat} (hp : tkP t n p) (h : nuB t n p m = true) : p < n ∧ bgB t n p = true := by
  have h1 := (nu_t.mp h).1
  have hn : p < n := ((ty_k (by decide)).mp h1).1
  rcases hp with q | q
  · omega
  · exact ⟨hn, q⟩
theorem nx_tk {t : Nat → Nat} {n p : Nat} (hp : p < n) : tkP t n (nxN t n p) := (nx_gt hp).2.2
theorem tr_tk {t : Nat → Nat} {n k m d p : Nat} (hp : tkP t n p) : tkP t n (trP t n k m d p).2.1 ∧ p ≤ (trP t n k m d p).2.1 := by
  cases h : wdB t n p k
  · rw [tr_no h]; exact ⟨hp, Nat.le_refl _⟩
  · have h1 := (wd_bg hp h).1
    have g1 := nx_gt (t := t) h1
    cases h2 : nuB t n (nxN t n p) m
    · rw [tr_ba h h2]; exact ⟨nx_tk h1, by show p ≤ nxN t n p; omega⟩
    · rw [tr_ok h h2]
      have h3 := (nu_bg (nx_tk h1) h2).1
      have g2 := nx_gt (t := t) h3
      exact ⟨nx_tk h3, by show p ≤ nxN t n (nxN t n p); omega⟩
theorem tr_le {t : Nat → Nat} {n k m d p : Nat} (hd : d < m) : (trP t n k m d p).1 = true → (trP t n k m d p).2.2 < m := by
  intro h
  cases h1 : wdB t n p k
  · rw [tr_no h1]; exact hd
  · cases h2 : nuB t n (nxN t n p) m
    · rw [tr_ba h1 h2] at h; cases h
    · rw [tr_ok h1 h2]; exact (nu_t.mp h2).2
theorem bt_f {b : Bool} (h : ¬ b = true) : b = false := by
  cases b
  · rfl
  · exact absurd rfl h
theorem bt_n {b : Bool} (h : ¬ b = false) : b = true := by
  cases b
  · exact absurd rfl h
  · rfl
theorem pit_ok {t : Nat → Nat} {n p : Nat} {L : Lan} (hp : tkP t n p) (hW : WF L) (h : (pit t n p (gN L)).1 = true) : okI L (pit t n p (gN L)).2.2 ∧ tkP t n (pit t n p (gN L)).2.1 ∧ p < (pit t n p (gN L)).2.1 := by
  have hn := hW.1
  unfold pit at h ⊢
  by_cases hk : kdN t n p ≠ 0
  · have hb := (wd_bg hp (kd_w hk)).1
    have g1 := nx_gt (t := t) hb
    have hk7 := kd_le t n p
    rw [if_pos hk] at h ⊢
    by_cases h8 : gN L = 8
    · rw [if_pos h8] at h; cases h
    · rw [if_neg h8] at h ⊢
      obtain ⟨t1, t2⟩ := tr_tk (k := 7) (m := 100) (d := 0) (nx_tk (t := t) hb)
      by_cases c1 : (trP t n 7 100 0 (nxN t n p)).1 = false
      · rw [if_pos c1] at h; cases h
      · rw [if_neg c1] at h ⊢
        obtain ⟨t3, t4⟩ := tr_tk (k := 8) (m := 10) (d := 3) t1
        by_cases c2 : (trP t n 8 10 3 (trP t n 7 100 0 (nxN t n p)).2.1).1 = false
        · rw [if_pos c2] at h; cases h
        · rw [if_neg c2] at h ⊢
          obtain ⟨t5, t6⟩ := tr_tk (k := 9) (m := 65536) (d := 0) t3
          have l1 := tr_le (t := t) (n := n) (k := 7) (m := 100) (d := 0) (p := nxN t n p) (by decide) (bt_n c1)
          have l2 := tr_le (t := t) (n := n) (k := 8) (m := 10) (d := 3) (p := (trP t n 7 100 0 (nxN t n p)).2.1) (by decide) (bt_n c2)
          have l3 := tr_le (t := t) (n := n) (k := 9) (m := 65536) (d := 0) (p := (trP t n 8 10 3 (trP t n 7 100 0 (nxN t n p)).2.1).2.1) (by decide) h
          refine ⟨Or.inr (Or.inr (Or.inr ⟨?_, ?_, ?_, ?_, ?_⟩)), t5, ?_⟩
          · show kdN t n p - 1 ≤ 6; omega
          · omega
          · show (trP t n 7 100 0 (nxN t n p)).2.2 ≤ 99; omega
          · show (trP t n 8 10 3 (trP t n 7 100 0 (nxN t n p)).2.1).2.2 ≤ 9; omega
          · exact l3
          · show p < (trP t n 9 65536 0 (trP t n 8 10 3 (trP t n 7 100 0 (nxN t n p)).2.1).2.1).2.1; omega
  · rw [if_neg hk] at h ⊢
    by_cases w10 : wdB t n p 10 = true
    · have hb := (wd_bg hp w10).1
      have g1 := nx_gt (t := t) hb
      rw [if_pos w10] at h ⊢
      by_cases c1 : nuB t n (nxN t n p) (gN L) = false
      · rw [if_pos c1] at h; cases h
      · rw [if_neg c1] at h ⊢
        have b1 := (nu_bg (nx_tk hb) (bt_n c1)).1
        have g2 := nx_gt (t := t) b1
        by_cases c2 : nuB t n (nxN t n (nxN t n p)) (gN L) = false ∨ valN t n (nxN t n (nxN t n p)) = valN t n (nxN t n p)
        · rw [if_pos c2] at h; cases h
        · rw [if_neg c2]
          have c3 : nuB t n (nxN t n (nxN t n p)) (gN L) = true := bt_n (fun z => c2 (Or.inl z))
          have b2 := (nu_bg (nx_tk b1) c3).1
          have g3 := nx_gt (t := t) b2
          exact ⟨Or.inl ⟨rfl, (nu_t.mp (bt_n c1)).2, (nu_t.mp c3).2, fun z => c2 (Or.inr z.symm)⟩, nx_tk b2, by show p < nxN t n (nxN t n (nxN t n p)); omega⟩
    · rw [if_neg w10] at h ⊢
      by_cases w11 : wdB t n p 11 = true
      · have hb := (wd_bg hp w11).1
        have g1 := nx_gt (t := t) hb
        rw [if_pos w11] at h ⊢
        have h : nuB t n (nxN t n p) 65536 = true := h
        have b1 := (nu_bg (nx_tk hb) h).1
        have g2 := nx_gt (t := t) b1
        rw [if_pos h]
        exact ⟨Or.inr (Or.inl ⟨rfl, (nu_t.mp h).2⟩), nx_tk b1, by show p < nxN t n (nxN t n p); omega⟩
      · rw [if_neg w11] at h ⊢
        by_cases w12 : wdB t n p 12 = true
        · have hb := (wd_bg hp w12).1
          have g1 := nx_gt (t := t) hb
          rw [if_pos w12] at h ⊢
          have h : nuB t n (nxN t n p) 17 = true := h
          have b1 := (nu_bg (nx_tk hb) h).1
          have g2 := nx_gt (t := t) b1
          rw [if_pos h]
          exact ⟨Or.inr (Or.inr (Or.inl ⟨rfl, by have := (nu_t.mp h).2; show valN t n (nxN t n p) ≤ 16; omega⟩)), nx_tk b1, by show p < nxN t n (nxN t n p); omega⟩
        · rw [if_neg w12] at h; cases h

/-! fits, may: the reference's look at a whole pairing -/
def seB (A : Lan) (l : Nat) (w : Nat → Int32) : Bool := decide (∀ k, k < l → gH A + k < 16 → w k = nI (havN (hrsN k A) (gH A + k)))
theorem se_t {A : Lan} {l : Nat} {w : Nat → Int32} : seB A l w = true ↔ ∀ k, k < l → gH A + k < 16 → w k = nI (havN (hrsN k A) (gH A + k)) := decide_eq_true_iff
theorem bl_eq {a b : Bool} (h : a = true ↔ b = true) : a = b := by
  cases a <;> cases b
  · rfl
  · exact absurd (h.mpr rfl) (by decide)
  · exact absurd (h.mp rfl) (by decide)
  · rfl
theorem x8_seen76 {A : Lan} {b : Bool} {M : Mem} (h60 : RLn M 60 A) : ∃ M1, fX8_isSeen_L76 (bI b) M = some (bI b, M1) ∧ RLn M1 58 A ∧ Sr M M1 := by
  obtain ⟨M1, e1, c1, s1⟩ := x8_copyRow (d1 := 60) (d2 := 58) (by decide) M
  refine ⟨M1, ?_, rl_copy h60 c1, s1⟩
  unfold fX8_isSeen_L76
  rw [e1, bde, ck_bI]
theorem x8_seen15 {A : Lan} {s l : Nat} {w : Nat → Int32} (hW : WFr A) (hs : s < 4) (hl : l ≤ 40) : ∀ (n k : Nat) (b : Bool) (M : Mem), gH A + k ≤ 16 → 16 - (gH A + k) < n → RLn M 58 (hrsN k A) → RLn M 60 A → M 70 s = nI l → (∀ i, i < 40 → M 71 (40 * s + i) = w i) → (b = true ↔ ∀ j, j < k → j < l → w j = nI (havN (hrsN j A) (gH A + j))) → ∃ M1, fX8_isSeen_L15 n (nI s) (bI b) (nI k) M = some (bI (seB A l w), M1) ∧ RLn M1 58 A ∧ Sr M M1 := by
  have hix : ix (nI s) = s := ix_nI (by omega)
  intro n
  induction n with
  | zero => intro k b M _ h; omega
  | succ n ih =>
    intro k b M hk hn hC h60 h70 hv hb
    rw [fX8_isSeen_L15, ck_in hs (by decide), hix, h70]
    have back : b = seB A l w → ∃ M1, fX8_isSeen_L76 (bI b) M = some (bI (seB A l w), M1) ∧ RLn M1 58 A ∧ Sr M M1 := fun q => by
      rw [← q]; exact x8_seen76 h60
    by_cases c : l ≤ k
    · rw [if_pos (by rw [lit_le (by omega) (by omega)]; exact c)]
      refine back (bl_eq ?_)
      rw [hb, se_t]
      exact ⟨fun h j h1 h2 => h j (by omega) h1, fun h j h1 h2 => h j h2 (by omega)⟩
    · rw [if_neg (by rw [lit_le (by omega) (by omega)]; exact c)]
      cases b
      · rw [ifF]
        refine back (bl_eq ?_)
        rw [hb, se_t]
        constructor
        · intro h; have := hb.mpr h; cases this
        · intro h j h1 h2; exact h j h2 (by omega)
      · have hb' := hb.mp rfl
        have hW2 : WFr (hrsN k A) := wf_hrs_r k A hW hk
        rw [if_neg (by decide), x8_isOver_r hC hW2, bde, hrs_H]
        by_cases o : gH A + k = 16
        · rw [decide_eq_true o, ifT]
          refine back (bl_eq ?_)
          rw [hb, se_t]
          exact ⟨fun h j h1 h2 => h j (by omega) h1, fun h j h1 h2 => h j h2 (by omega)⟩
        · have h0 : M 58 0 = nI (gH A + k) := by rw [← hrs_H]; exact hC.2.2.2.2.2.2.2.2.1
          have hw : fX8_whoHave (nI (gH A + k)) M = some (nI (havN (hrsN k A) (gH A + k)), M) := x8_whoHave_r hC hW2 (by omega)
          obtain ⟨M2, e2, c2, s2⟩ := x8_hour_r hC hW2 (by rw [hrs_H]; omega)
          rw [← hrs_s] at c2
          rw [decide_eq_false o, ifF, mu40, nI_add, ck_in (by omega) (by decide), ckl_0_56, ixl_0, h0, hw, bde, ix_nI (by omega), hv k (by omega)]
          have go : ∀ b2 : Bool, (b2 = true ↔ w k = nI (havN (hrsN k A) (gH A + k))) → ∃ M1, fX8_isSeen_L65 (fX8_isSeen_L15 n) (nI s) (nI k) (bI b2) M = some (bI (seB A l w), M1) ∧ RLn M1 58 A ∧ Sr M M1 := by
            intro b2 h2
            obtain ⟨M3, e3, c3, s3⟩ := ih (k + 1) b2 M2 (by omega) (by omega) c2 (rl_same h60 (s2 60 (by decide))) (by rw [s2 70 (by decide)]; exact h70) (fun i hi => by rw [s2 71 (by decide)]; exact hv i hi) (by
              rw [h2]
              constructor
              · intro h j h1 h2
                by_cases q : j = k
                · rw [q]; exact h
                · exact hb' j (by omega) h2
              · intro h; exact h k (by omega) (by omega))
            refine ⟨M3, ?_, c3, s2.tr s3⟩
            unfold fX8_isSeen_L65
            rw [e2, bde, bve, ad1, e3]
          by_cases z : w k = nI (havN (hrsN k A) (gH A + k))
          · rw [if_pos z]
            exact go true ⟨fun _ => z, fun _ => rfl⟩
          · rw [if_neg z]
            exact go false ⟨fun q => (by cases q), fun q => absurd q z⟩
theorem x8_isSeen {A : Lan} {s l : Nat} {w : Nat → Int32} {M : Mem} (hW : WFr A) (hs : s < 4) (hl : l ≤ 40) (hC : RLn M 58 A) (h70 : M 70 s = nI l) (hv : ∀ i, i < 40 → M 71 (40 * s + i) = w i) : ∃ M1, fX8_isSeen (nI s) M = some (bI (seB A l w), M1) ∧ RLn M1 58 A ∧ (∀ k, k ≠ 58 → k ≠ 60 → M1 k = M k) := by
  have hh := hW.2.1
  obtain ⟨M1, e1, c1, s1⟩ := x8_copyRow (d1 := 58) (d2 := 60) (by decide) M
  obtain ⟨M2, e2, c2, s2⟩ := x8_seen15 (w := w) hW hs hl fu 0 true M1 (by omega) (by show _ < 2000; omega) (rl_same hC (s1 58 (by decide))) (rl_copy hC c1) (by rw [s1 70 (by decide)]; exact h70) (fun i hi => by rw [s1 71 (by decide)]; exact hv i hi) ⟨fun _ j h => by omega, fun _ => rfl⟩
  refine ⟨M2, ?_, c2, fun k h1 h2 => by rw [s2 k h1, s1 k h2]⟩
  unfold fX8_isSeen
  rw [e1, bde]
  exact e2
theorem LOC.sha {A B : Lan} {x y l : Nat} {w : Nat → Int32} (h : LOC A B x y) : shA A l w x = shA B l w x := by
  apply bl_eq
  rw [sh_t, sh_t, ← h.1.2.2.2.2.1]
  constructor
  · intro q k h1 h2; rw [← (h.hrs k).has]; exact q k h1 h2
  · intro q k h1 h2; rw [(h.hrs k).has]; exact q k h1 h2
theorem pair_loc (L : Lan) {g : Nat → Nat} {a b : Nat} (h : (a = b ∧ g a = 0) ∨ (a ≠ b ∧ g a = b + 1 ∧ g b = a + 1)) : LOC (sMt L g) (prL L a b) a b := by
  refine ⟨⟨(prL_k gKd (fun _ _ => rfl) L a b).symm, (prL_k gSg (fun _ _ => rfl) L a b).symm, (prL_k gNd (fun _ _ => rfl) L a b).symm, (prL_k gN (fun _ _ => rfl) L a b).symm, (prL_k gH (fun _ _ => rfl) L a b).symm, (prL_k gL (fun _ _ => rfl) L a b).symm⟩, ?_, ?_, ?_⟩
  · rw [prL_k gSu (fun _ _ => rfl)]; rfl
  · rw [prL_k gSu (fun _ _ => rfl)]; rfl
  · rcases h with ⟨h1, h2⟩ | ⟨h1, h2, h3⟩
    · subst h1
      have e : gMt (prL L a a) a = 0 := by unfold prL; rw [if_pos rfl]; exact sep_self L a
      refine ⟨?_, ?_, Or.inl ⟨h2, rfl⟩⟩
      · rw [e]; exact h2
      · rw [e]; exact h2
    · obtain ⟨m1, m2⟩ := joi_mt (L := sepL L a) h1
      have e : prL L a b = joiL (sepL L a) a b := by unfold prL; rw [if_neg h1]
      refine ⟨?_, ?_, Or.inr ⟨h2, h3⟩⟩
      · rw [e, m1]; exact h2
      · rw [e, m2]; exact h3
/-- the mate; oneself, if one has none -/
def meN (g : Nat → Nat) (x : Nat) : Nat := if g x = 0 then x else g x - 1
theorem vsh_pair (L : Lan) {l : Nat} {w : Nat → Int32} {g : Nat → Nat} {x : Nat} (h : g x = 0 ∨ ∃ y, y ≠ x ∧ g x = y + 1 ∧ g y = x + 1) : vSh L l w (min x (meN g x)) (max x (meN g x)) ≠ 0 ↔ shA (sMt L g) l w x = true ∧ shA (sMt L g) l w (meN g x) = true := by
  have key : ∀ a b, LOC (sMt L g) (prL L a b) a b → (vSh L l w a b ≠ 0 ↔ shA (sMt L g) l w a = true ∧ shA (sMt L g) l w b = true) := by
    intro a b hl
    rw [hl.sha, hl.sym.sha]
    unfold vSh
    cases shA (prL L a b) l w a <;> cases shA (prL L a b) l w b <;> simp
  unfold meN
  rcases h with h | ⟨y, h1, h2, h3⟩
  · rw [if_pos h, Nat.min_self, Nat.max_self]
    exact key x x (pair_loc L (Or.inl ⟨rfl, h⟩))
  · rw [if_neg (by omega), h2, Nat.add_sub_cancel]
    rcases Nat.le_total x y with q | q
    · rw [Nat.min_eq_left q, Nat.max_eq_right q]
      exact key x y (pair_loc L (Or.inr ⟨fun e => h1 e.symm, h2, h3⟩))
    · rw [Nat.min_eq_right q, Nat.max_eq_left q, and_comm]
      exact key y x (pair_loc L (Or.inr ⟨h1, h3, h2⟩))
theorem w_hav {L : Lan} {x : Int32} {n h : Nat} (hn : gN L = n) (h8 : n ≤ 8) : (x = nI (havN L h)) ↔ ((∀ i, i < n → hasN L i h = bt x i) ∧ ∀ i, i < 32 → n ≤ i → bt x i = false) := by
  unfold havN
  rw [hn]
  constructor
  · rintro rfl
    refine ⟨fun i hi => ?_, fun i h1 h2 => ?_⟩
    · rw [b_nI _ (by omega), stN_tb, decide_eq_true hi, Bool.true_and]
    · rw [b_nI _ h1, stN_tb, decide_eq_false (by omega), Bool.false_and]
  · rintro ⟨h1, h2⟩
    apply b_st
    intro i hi
    by_cases q : i < n
    · rw [decide_eq_true q, Bool.true_and, h1 i q]
    · rw [decide_eq_false q, Bool.false_and, h2 i hi (by omega)]
theorem seen_leaf {L : Lan} (hW : WF L) {l : Nat} {w : Nat → Int32} {g : Nat → Nat} (hg : ∀ x, x < gN L → (g x = 0 ∨ ∃ y, y < gN L ∧ y ≠ x ∧ g x = y + 1 ∧ g y = x + 1)) : seB (sMt L g) l w = true ↔ (tkB L l w = true ∧ ∀ x, x < gN L → vSh L l w (min x (meN g x)) (max x (meN g x)) ≠ 0) := by
  have hn := hW.1
  have hN : ∀ k, gN (hrsN k (sMt L g)) = gN L := fun k => hrs_N k (sMt L g)
  have hp : ∀ x, x < gN L → (g x = 0 ∨ ∃ y, y ≠ x ∧ g x = y + 1 ∧ g y = x + 1) := fun x hx => by
    rcases hg x hx with h | ⟨y, h1, h2, h3, h4⟩
    · exact Or.inl h
    · exact Or.inr ⟨y, h2, h3, h4⟩
  have hm : ∀ x, x < gN L → meN g x < gN L := fun x hx => by
    unfold meN
    rcases hg x hx with h | ⟨y, h1, h2, h3, h4⟩
    · rw [if_pos h]; exact hx
    · rw [if_neg (by omega), h3]; omega
  rw [se_t, tk_t]
  constructor
  · intro h
    refine ⟨fun k h1 h2 => ((w_hav (hN k) hn).mp (h k h1 h2)).2, fun x hx => ?_⟩
    rw [vsh_pair L (hp x hx), sh_t, sh_t]
    exact ⟨fun k h1 h2 => ((w_hav (hN k) hn).mp (h k h1 h2)).1 x hx, fun k h1 h2 => ((w_hav (hN k) hn).mp (h k h1 h2)).1 _ (hm x hx)⟩
  · rintro ⟨h1, h2⟩ k h3 h4
    refine (w_hav (hN k) hn).mpr ⟨fun i hi => ?_, h1 k h3 h4⟩
    have := (vsh_pair L (hp i hi)).mp (h2 i hi)
    exact sh_t.mp this.1 k h3 h4

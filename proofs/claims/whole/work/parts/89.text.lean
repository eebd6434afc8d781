/-! texts: the reference reads any item, all items, and does them -/
theorem x8_anG {M : Mem} {t : Nat → Nat} {n p pn : Nat} {x : Int32} (h : GS M t n p) (h24 : M 57 24 = nI pn) (hpn : pn ≤ 8) (hn : nuB t n p pn = true) : ∃ M1, fX8_another x M = some (nI (valN t n p), M1) ∧ KX M M1 ∧ (nI (valN t n p) ≠ x → GS M1 t n (nxN t n p)) ∧ (nI (valN t n p) = x → FLT M1 p) := by
  have hh : ∀ v : Int32, fX8_within v 0 (nI pn - 1) M = some (bI (pIn pn v), M) := fun v => x8_withinP v M (by omega)
  obtain ⟨M1, e1, g1, k1⟩ := x8_numG h hh hn
  by_cases c : nI (valN t n p) = x
  · refine ⟨wr (wr M1 57 20 1) 57 16 (nI p), ?_, (k1.tr (KX.w (by omega))).tr (KX.w (by omega)), fun q => absurd c q, fun _ => ⟨by rw [wr_app, if_pos rfl, if_neg (by decide), wr_app, if_pos rfl, if_pos rfl], by rw [wr_app, if_pos rfl, if_pos rfl]⟩⟩
    unfold fX8_another
    rw [bve, bve, h24, e1, bde, if_pos h.2.1, if_pos g1.2.1, if_pos c, ck_b1, wme, h.1.2.1, wme]
  · refine ⟨M1, ?_, k1, fun _ => g1, fun q => absurd q c⟩
    unfold fX8_another
    rw [bve, bve, h24, e1, bde, if_pos h.2.1, if_pos g1.2.1, if_neg c]
theorem x8_anB {M : Mem} {t : Nat → Nat} {n p pn : Nat} {x : Int32} (h : GS M t n p) (h24 : M 57 24 = nI pn) (hpn : pn ≤ 8) (hn : nuB t n p pn = false) : ∃ v M1, fX8_another x M = some (v, M1) ∧ KX M M1 ∧ FLT M1 p := by
  have hh : ∀ v : Int32, fX8_within v 0 (nI pn - 1) M = some (bI (pIn pn v), M) := fun v => x8_withinP v M (by omega)
  obtain ⟨v, M1, e1, f1, k1⟩ := x8_numB h hh hn
  refine ⟨v, M1, ?_, k1, f1⟩
  unfold fX8_another
  rw [bve, bve, h24, e1, bde, if_pos h.2.1, f1.1, if_neg (by decide)]
theorem x8_anF {M : Mem} {q pn : Nat} {x : Int32} (h : FLT M q) (h24 : M 57 24 = nI pn) (hpn : pn ≤ 8) : ∃ v M1, fX8_another x M = some (v, M1) ∧ KX M M1 ∧ FLT M1 q := by
  have hh : ∀ v : Int32, fX8_within v 0 (nI pn - 1) M = some (bI (pIn pn v), M) := fun v => x8_withinP v M (by omega)
  obtain ⟨v, M1, e1, f1, k1⟩ := x8_numF h hh
  refine ⟨v, M1, ?_, k1, f1⟩
  unfold fX8_another
  rw [bve, bve, h24, e1, bde, h.1, if_neg (by decide)]
theorem x8_readItem {M : Mem} {t : Nat → Nat} {n p k pn : Nat} (h : GS M t n p) (hk : M 57 23 = nI k) (hk2 : k < 120) (h24 : M 57 24 = nI pn) (hpn : pn ≤ 8) : ∃ M1, fX8_readItem M = some ((), M1) ∧ ITR M M1 t n k pn (pit t n p pn) := by
  have hk7 := kd_le t n p
  unfold fX8_readItem
  rw [x8_kind h.2.2 h.1, bde]
  by_cases hkd : kdN t n p ≠ 0
  · rw [if_neg (by rw [mI_lt0 (by omega)]; exact hkd)]
    exact x8_person h hk hk2 h24 hpn hkd
  · have hk0 : kdN t n p = 0 := by omega
    rw [if_pos (by rw [mI_lt0 (by omega)]; exact hk0)]
    unfold pit
    rw [if_neg hkd]
    -- a number, then the item
    have one : ∀ (M2 : Mem) (p2 c m mm : Nat), mm + 1 = m → mm < 2 ^ 31 - 1 → 6 < c → KX M M2 → GS M2 t n p2 → ∃ M1, (bd (fX8_number 0 (nI mm) M2) fun r11 M10 => (bd (fX8_item (nI c) r11 0 0 M10) fun _ M12 => (some ((), M12)))) = some ((), M1) ∧ ITR M M1 t n k pn (nuB t n p2 m, if nuB t n p2 m = true then nxN t n p2 else p2, (c, valN t n p2, 0, 0)) := by
      intro M2 p2 c m mm hm hm2 hc k2 g2
      subst hm
      have hh : ∀ v : Int32, fX8_within v 0 (nI mm) M2 = some (bI (pIn (mm + 1) v), M2) := fun v => x8_within v M2 hm2
      cases hn : nuB t n p2 (mm + 1)
      · obtain ⟨v, M3, e3, f3, k3⟩ := x8_numB g2 hh hn
        obtain ⟨M4, e4, s4, f4⟩ := x8_itemF (a := nI c) (b := v) (c := 0) (d := 0) (by rw [k3.2.1, k2.2.1]; exact hk) hk2 f3
        exact ⟨M4, by rw [e3, bde, e4], (k2.1.tr k3.1).tr s4, fun q => (by cases q), fun _ => f4⟩
      · obtain ⟨M3, e3, g3, k3⟩ := x8_numG g2 hh hn
        obtain ⟨M4, e4, s4, g4, h4, i4, j4, o4⟩ := x8_itemG (x := (c, valN t n p2, 0, 0)) (pn := pn) g3 (by rw [k3.2.1, k2.2.1]; exact hk) hk2 (by rw [if_neg (show ¬ c ≤ 6 by omega), k3.2.2.1, k2.2.2.1]; exact h24)
        refine ⟨M4, ?_, (k2.1.tr k3.1).tr s4, fun _ => ⟨g4, h4, i4, j4, fun j hj => by rw [o4 j hj, k3.2.2.2, k2.2.2.2]⟩, fun q => (by cases q)⟩
        rw [e3, bde]
        exact e4
    cases w10 : wdB t n p 10
    · rw [x8_isNextN h (by decide) w10, bde, if_pos rfl, if_neg (by decide)]
      cases w11 : wdB t n p 11
      · rw [x8_isNextN h (by decide) w11, bde, if_pos rfl, if_neg (by decide), x8_isWord h.2.2 h.1 (by decide), bde]
        cases w12 : wdB t n p 12
        · rw [if_neg (by decide)]
          have mf : fX8_must (bI false) M = some ((), wr M 57 20 1) := x8_mustF (Or.inr ⟨h.2.1, rfl⟩)
          have f1 : FLT (wr M 57 20 1) p := flt_w h.1.2.1
          have k1 : KX M (wr M 57 20 1) := KX.w (by omega)
          generalize wr M 57 20 1 = M1 at mf f1 k1
          have hh : ∀ v : Int32, fX8_within v 0 16 M1 = some (bI (pIn 17 v), M1) := fun v => x8_within (k := 16) v M1 (by decide)
          obtain ⟨v, M2, e2, f2, k2⟩ := x8_numF f1 hh
          obtain ⟨M3, e3, s3, f3⟩ := x8_itemF (a := 12) (b := v) (c := 0) (d := 0) (by rw [k2.2.1, k1.2.1]; exact hk) hk2 f2
          exact ⟨M3, by rw [mf, bde, e2, bde, e3], (k1.1.tr k2.1).tr s3, fun q => (by cases q), fun _ => f3⟩
        · obtain ⟨M1, e1, g1, k1⟩ := x8_mustG h
          rw [nx2_b (wd_bg h.1.1 w12).2] at g1
          have e1' : fX8_must (bI true) M = some ((), M1) := e1
          rw [if_pos rfl, e1', bde]
          exact one M1 (nxN t n p) 12 17 16 rfl (by decide) (by decide) k1 g1
      · obtain ⟨M1, e1, g1, k1⟩ := x8_isNextY h (by decide) w11
        rw [e1, bde, if_neg (by decide), if_pos rfl]
        exact one M1 (nxN t n p) 11 65536 65535 rfl (by decide) (by decide) k1 g1
    · obtain ⟨M1, e1, g1, k1⟩ := x8_isNextY h (by decide) w10
      rw [e1, bde, if_neg (by decide), if_pos rfl]
      have c24 : M1 57 24 = nI pn := by rw [k1.2.2.1]; exact h24
      have hv1 := val_le t n (nxN t n p)
      have hv2 := val_le t n (nxN t n (nxN t n p))
      cases hn : nuB t n (nxN t n p) pn
      · rw [if_pos rfl]
        obtain ⟨v, M2, e2, k2, f2⟩ := x8_anB (x := -1) g1 c24 hpn hn
        obtain ⟨v3, M3, e3, k3, f3⟩ := x8_anF (x := v) f2 (by rw [k2.2.2.1]; exact c24) hpn
        obtain ⟨M4, e4, s4, f4⟩ := x8_itemF (a := 10) (b := v) (c := v3) (d := 0) (by rw [k3.2.1, k2.2.1, k1.2.1]; exact hk) hk2 f3
        exact ⟨M4, by rw [e2, bde, e3, bde, e4], ((k1.1.tr k2.1).tr k3.1).tr s4, fun q => (by cases q), fun _ => f4⟩
      · rw [if_neg (by decide)]
        obtain ⟨M2, e2, k2, g2, -⟩ := x8_anG (x := -1) g1 c24 hpn hn
        have g2 := g2 (fun q => by
          have := congrArg Int32.toInt q
          rw [nI_toInt (by omega)] at this
          have e : (-1 : Int32).toInt = -1 := by decide
          omega)
        have d24 : M2 57 24 = nI pn := by rw [k2.2.2.1]; exact c24
        have d23 : M2 57 23 = nI k := by rw [k2.2.1, k1.2.1]; exact hk
        cases hn2 : nuB t n (nxN t n (nxN t n p)) pn
        · rw [if_pos (Or.inl rfl)]
          obtain ⟨v3, M3, e3, k3, f3⟩ := x8_anB (x := nI (valN t n (nxN t n p))) g2 d24 hpn hn2
          obtain ⟨M4, e4, s4, f4⟩ := x8_itemF (a := 10) (b := nI (valN t n (nxN t n p))) (c := v3) (d := 0) (by rw [k3.2.1]; exact d23) hk2 f3
          exact ⟨M4, by rw [e2, bde, e3, bde, e4], ((k1.1.tr k2.1).tr k3.1).tr s4, fun q => (by cases q), fun _ => f4⟩
        · obtain ⟨M3, e3, k3, g3, f3⟩ := x8_anG (x := nI (valN t n (nxN t n p))) g2 d24 hpn hn2
          by_cases z : valN t n (nxN t n (nxN t n p)) = valN t n (nxN t n p)
          · rw [if_pos (Or.inr z)]
            have f3 := f3 (by rw [z])
            obtain ⟨M4, e4, s4, f4⟩ := x8_itemF (a := 10) (b := nI (valN t n (nxN t n p))) (c := nI (valN t n (nxN t n (nxN t n p)))) (d := 0) (by rw [k3.2.1]; exact d23) hk2 f3
            exact ⟨M4, by rw [e2, bde, e3, bde, e4], ((k1.1.tr k2.1).tr k3.1).tr s4, fun q => (by cases q), fun _ => f4⟩
          · have zo : ¬ (true = false ∨ valN t n (nxN t n (nxN t n p)) = valN t n (nxN t n p)) := fun q => by
              rcases q with q | q
              · cases q
              · exact z q
            rw [if_neg zo]
            have g3 := g3 (fun q => z (nI_inj (by omega) (by omega) q))
            obtain ⟨M4, e4, s4, g4, h4, i4, j4, o4⟩ := x8_itemG (x := (10, valN t n (nxN t n p), valN t n (nxN t n (nxN t n p)), 0)) (pn := pn) g3 (by rw [k3.2.1]; exact d23) hk2 (by rw [if_neg (show ¬ (10 : Nat) ≤ 6 by decide), k3.2.2.1]; exact d24)
            refine ⟨M4, ?_, ((k1.1.tr k2.1).tr k3.1).tr s4, fun _ => ⟨g4, h4, i4, j4, fun j hj => by rw [o4 j hj, k3.2.2.2, k2.2.2.2, k1.2.2.2]⟩, fun q => (by cases q)⟩
            rw [e2, bde, e3, bde]
            exact e4
/-- only the reader's fields, the row of items; the tape is empty -/
def SmZ (M M1 : Mem) : Prop := (∀ k, k ≠ 57 → k ≠ 68 → M1 k = M k) ∧ (∀ j, (j < 15 ∨ 24 < j) → M1 57 j = M 57 j) ∧ M1 57 15 = 0
theorem SmX.z {M M1 M2 : Mem} (h1 : SmX M M1) (h2 : SmZ M1 M2) : SmZ M M2 := ⟨fun k a b => (h2.1 k a b).trans (h1.1 k a b), fun j a => (h2.2.1 j a).trans (h1.2 j (by omega)), h2.2.2⟩
theorem SmZ.of {M M1 : Mem} (h : SmX M M1) : SmZ M (wr M1 57 15 0) := ⟨fun k a b => by rw [wr_n _ _ _ _ a]; exact h.1 k a b, fun j a => by rw [wr_app, if_pos rfl, if_neg (by omega)]; exact h.2 j (by omega), by rw [wr_app, if_pos rfl, if_pos rfl]⟩
theorem x8_t87F {M : Mem} {q : Nat} {x : Int32} (h : FLT M q) : ∃ M1, fX8_text_L87 x M = some (-1 - nI q, M1) ∧ SmZ M M1 := by
  have a20 : (wr (wr M 57 20 1) 57 15 0) 57 20 = 1 := by rw [wr_app, if_pos rfl, if_neg (by decide), wr_app, if_pos rfl, if_pos rfl]
  have a16 : (wr (wr M 57 20 1) 57 15 0) 57 16 = nI q := by rw [wr_app, if_pos rfl, if_neg (by decide), wr_app, if_pos rfl, if_neg (by decide)]; exact h.2
  refine ⟨wr (wr M 57 20 1) 57 15 0, ?_, SmZ.of (SmX.w7 (by omega))⟩
  unfold fX8_text_L87
  rw [x8_mustF (Or.inl h.1), bde, wme, a20, if_neg (by decide), a16]
theorem x8_t87B {M : Mem} {t : Nat → Nat} {n p : Nat} (h : GS M t n p) : ∃ M1, fX8_text_L87 0 M = some (-1 - nI p, M1) ∧ SmZ M M1 := by
  have a20 : (wr (wr M 57 20 1) 57 15 0) 57 20 = 1 := by rw [wr_app, if_pos rfl, if_neg (by decide), wr_app, if_pos rfl, if_pos rfl]
  have a16 : (wr (wr M 57 20 1) 57 15 0) 57 16 = nI p := by rw [wr_app, if_pos rfl, if_neg (by decide), wr_app, if_pos rfl, if_neg (by decide)]; exact h.1.2.1
  refine ⟨wr (wr M 57 20 1) 57 15 0, ?_, SmZ.of (SmX.w7 (by omega))⟩
  unfold fX8_text_L87
  rw [x8_mustF (Or.inr ⟨h.2.1, rfl⟩), bde, wme, a20, if_neg (by decide), a16]
theorem x8_t87G {M : Mem} {t : Nat → Nat} {n p : Nat} (h : GS M t n p) : ∃ M1, fX8_text_L87 1 M = fX8_text_L113 fu 0 0 M1 ∧ SmZ M M1 ∧ M1 57 23 = M 57 23 ∧ M1 68 = M 68 := by
  obtain ⟨M1, e1, g1, k1⟩ := x8_mustG h
  refine ⟨wr M1 57 15 0, ?_, SmZ.of k1.1, by rw [wr_app, if_pos rfl, if_neg (by decide)]; exact k1.2.1, by rw [wr_n _ _ _ _ (by decide)]; exact k1.2.2.2⟩
  unfold fX8_text_L87
  rw [e1, bde, wme, if_pos (by rw [wr_app, if_pos rfl, if_neg (by decide)]; exact g1.2.1)]
theorem x8_loop {t : Nat → Nat} {n p0 : Nat} {L : Lan} (h0 : tkP t n p0) (hW : WF L) (hnn : n ≤ 120) : ∀ (f m j : Nat) (M : Mem), alP t n p0 (gN L) j → n - (sqN t n p0 (gN L) j).1 < f → f ≤ m → GS M t n (sqN t n p0 (gN L) j).1 → M 57 23 = nI j → M 57 24 = nI (sqN t n p0 (gN L) j).2 → (∀ i, i < j → itmP M i (rsN t n p0 (gN L) i).2.2) → ∃ M1, (bd (fX8_readItem M) fun _ M6 => (fX8_text_L33 m M6)) = (if (enx t n p0 (gN L) f j).1 = true then fX8_text_L113 fu 0 0 M1 else some (-1 - nI (enx t n p0 (gN L) f j).2, M1)) ∧ SmZ M M1 ∧ ((enx t n p0 (gN L) f j).1 = true → M1 57 23 = nI (enx t n p0 (gN L) f j).2 ∧ (∀ i, i < (enx t n p0 (gN L) f j).2 → itmP M1 i (rsN t n p0 (gN L) i).2.2 ∧ alP t n p0 (gN L) i ∧ (rsN t n p0 (gN L) i).1 = true) ∧ (enx t n p0 (gN L) f j).2 ≤ 120) := by
  intro f
  induction f with
  | zero => intro m j M _ h; omega
  | succ f ih =>
    intro m j M hA hf hm hG h23 h24 hI
    obtain ⟨m, rfl⟩ : ∃ z, m = z + 1 := ⟨m - 1, by omega⟩
    obtain ⟨i1, i2, i3, i4⟩ := al_inv h0 hW j hA
    have hple := tk_le i3
    have hn8 := i1.1
    rw [i2] at hn8
    obtain ⟨M1, e1, s1, ok1, ba1⟩ := x8_readItem hG h23 (by omega) h24 hn8
    have hrs : pit t n (sqN t n p0 (gN L) j).1 (sqN t n p0 (gN L) j).2 = rsN t n p0 (gN L) j := rfl
    rw [hrs] at ok1 ba1
    rw [e1, bde, fX8_text_L33]
    have hE : enx t n p0 (gN L) (f + 1) j = if (rsN t n p0 (gN L) j).1 = false then (false, (rsN t n p0 (gN L) j).2.1) else if tyN t n (rsN t n p0 (gN L) j).2.1 = 0 then (true, j + 1) else if tyN t n (rsN t n p0 (gN L) j).2.1 = 3 then enx t n p0 (gN L) f (j + 1) else (false, (rsN t n p0 (gN L) j).2.1) := rfl
    have bad : ∀ X, enx t n p0 (gN L) (f + 1) j = (false, (rsN t n p0 (gN L) j).2.1) → (∃ M2, X = some (-1 - nI (rsN t n p0 (gN L) j).2.1, M2) ∧ SmZ M1 M2) → ∃ M', X = (if (enx t n p0 (gN L) (f + 1) j).1 = true then fX8_text_L113 fu 0 0 M' else some (-1 - nI (enx t n p0 (gN L) (f + 1) j).2, M')) ∧ SmZ M M' ∧ ((enx t n p0 (gN L) (f + 1) j).1 = true → M' 57 23 = nI (enx t n p0 (gN L) (f + 1) j).2 ∧ (∀ i, i < (enx t n p0 (gN L) (f + 1) j).2 → itmP M' i (rsN t n p0 (gN L) i).2.2 ∧ alP t n p0 (gN L) i ∧ (rsN t n p0 (gN L) i).1 = true) ∧ (enx t n p0 (gN L) (f + 1) j).2 ≤ 120) := by
      rintro X hq ⟨M2, e2, s2⟩
      rw [hq]
      exact ⟨M2, e2, s1.z s2, fun q => (by cases q)⟩
    cases hok : (rsN t n p0 (gN L) j).1
    · have f1 := ba1 hok
      rw [f1.1, if_neg (by decide)]
      refine bad _ (by rw [hE, if_pos hok]) ?_
      unfold fX8_text_L74
      split
      · exact x8_t87F f1
      · exact x8_t87F f1
    · obtain ⟨g1, b24, b23, bi, bo⟩ := ok1 hok
      rw [if_neg (by rw [hok]; decide)] at hE
      have hok' : (pit t n (sqN t n p0 (gN L) j).1 (gN (folN t n p0 L j))).1 = true := by rw [i2]; exact hok
      obtain ⟨o1, o2, o3⟩ := pit_ok i3 i1 hok'
      rw [i2, hrs] at o1 o2 o3
      have hple2 := tk_le o2
      have hso := so_lt t n (rsN t n p0 (gN L) j).2.1
      have hall : ∀ M', M' 68 = M1 68 → ∀ i, i < j + 1 → itmP M' i (rsN t n p0 (gN L) i).2.2 := fun M' hM' i hi => by
        unfold itmP
        rw [hM']
        by_cases y : i = j
        · rw [y]; exact bi
        · have := hI i (by omega)
          unfold itmP at this
          rw [bo _ (by omega), bo _ (by omega), bo _ (by omega), bo _ (by omega)]
          exact this
      have h3t : (soN t n (rsN t n p0 (gN L) j).2.1 = 3) ↔ (tyN t n (rsN t n p0 (gN L) j).2.1 = 3 ∨ tyN t n (rsN t n p0 (gN L) j).2.1 = 5) := by unfold soN; split <;> omega
      have h0t : (soN t n (rsN t n p0 (gN L) j).2.1 = 0) ↔ tyN t n (rsN t n p0 (gN L) j).2.1 = 0 := by unfold soN; split <;> omega
      rw [g1.2.1, if_pos rfl, g1.1.2.2.2.1]
      by_cases z0 : tyN t n (rsN t n p0 (gN L) j).2.1 = 0
      · rw [if_pos z0] at hE
        rw [if_neg (by rw [q3 (by omega)]; exact fun q => by have := h3t.mp q; omega), hE]
        obtain ⟨M2, e2, s2, c23, c68⟩ := x8_t87G g1
        refine ⟨M2, ?_, s1.z s2, fun _ => ⟨by rw [c23]; exact b23, fun i hi => ⟨hall M2 c68 i hi, fun a ha => ?_, ?_⟩, ?_⟩⟩
        · unfold fX8_text_L74
          rw [g1.1.2.2.2.1, if_pos (by rw [q0 (by omega)]; exact h0t.mpr z0), e2]; rfl
        · exact hA a (by have hi : i < j + 1 := hi; omega)
        · by_cases y : i = j
          · rw [y]; exact hok
          · exact (hA i (by have hi : i < j + 1 := hi; omega)).1
        · show j + 1 ≤ 120
          omega
      · rw [if_neg z0] at hE
        have t74 : fX8_text_L74 M1 = fX8_text_L87 0 M1 := by
          unfold fX8_text_L74
          rw [g1.1.2.2.2.1, if_neg (by rw [q0 (by omega)]; exact fun q => z0 (h0t.mp q))]
        by_cases z3 : tyN t n (rsN t n p0 (gN L) j).2.1 = 3
        · rw [if_pos z3] at hE
          obtain ⟨hlt, hc3⟩ := (ty_k (by decide)).mp z3
          have hb : bgB t n (rsN t n p0 (gN L) j).2.1 = true := by
            rcases o2 with q | q
            · omega
            · exact q
          have h59 : t (rsN t n p0 (gN L) j).2.1 = 59 := (cl_3 _).mp hc3
          obtain ⟨M2, e2, g2, k2⟩ := x8_mustG g1
          rw [nx2_b hb] at g2
          have hpos : (sqN t n p0 (gN L) (j + 1)).1 = nxN t n (rsN t n p0 (gN L) j).2.1 := rfl
          have hpn : (sqN t n p0 (gN L) (j + 1)).2 = if (rsN t n p0 (gN L) j).2.2.1 ≤ 6 then (sqN t n p0 (gN L) j).2 + 1 else (sqN t n p0 (gN L) j).2 := rfl
          have g := nx_gt (t := t) (bg_t.mp hb).1
          have o3' : (sqN t n p0 (gN L) j).1 < (rsN t n p0 (gN L) j).2.1 := o3
          obtain ⟨M3, e3, s3, r3⟩ := ih m (j + 1) M2 (fun i hi => by
            by_cases y : i = j
            · rw [y]; exact ⟨hok, z3⟩
            · exact hA i (by omega)) (by rw [hpos]; omega) (by omega) g2 (by rw [k2.2.1]; exact b23) (by rw [hpn, k2.2.2.1]; exact b24) (fun i hi => hall M2 k2.2.2.2 i hi)
          rw [hE]
          refine ⟨M3, ?_, (s1.tr k2.1).z s3, r3⟩
          rw [if_pos (by rw [q3 (by omega)]; exact h3t.mpr (Or.inl z3)), g1.1.2.1, ck_in (by omega) (by decide), ix_nI (by omega), g1.2.2.2.1 _ hlt, h59, if_pos (by rfl), e2, bde, e3]
        · rw [if_neg z3] at hE
          refine bad _ hE ?_
          have hend := x8_t87B g1
          by_cases z5 : tyN t n (rsN t n p0 (gN L) j).2.1 = 5
          · obtain ⟨hlt, hc5⟩ := (ty_k (by decide)).mp z5
            have h59 : ¬ t (rsN t n p0 (gN L) j).2.1 = 59 := fun q => by
              have := (cl_3 _).mpr q
              omega
            have h256 := g1.2.2.2.2.2 (rsN t n p0 (gN L) j).2.1
            rw [if_pos (by rw [q3 (by omega)]; exact h3t.mpr (Or.inr z5)), g1.1.2.1, ck_in (by omega) (by decide), ix_nI (by omega), g1.2.2.2.1 _ hlt, if_neg (by rw [q59 (by omega)]; exact h59), t74]
            exact hend
          · rw [if_neg (by rw [q3 (by omega)]; exact fun q => by have := h3t.mp q; omega), t74]
            exact hend
theorem joi_same {L : Lan} (hW : WF L) {p q : Nat} (hp : p < gN L) (h : gMt L p = q + 1) : joiL L p q = L := by
  obtain ⟨-, w2, w3⟩ := hW.2.2.2.2.1 p hp
  have hq : gMt L q = p + 1 := w3 q h
  have hne : p ≠ q := fun e => by rw [h] at w2; omega
  have hn0 : ¬ gMt L p = 0 := by omega
  have hs : gMt (sepL L p) = uf (uf (gMt L) q 0) p 0 := by rw [sep_Mt hn0, h, Nat.add_sub_cancel]
  have h2 : gMt (sepL L p) q = 0 := by
    rw [hs]; unfold uf
    rw [if_neg (fun e => hne e.symm), if_pos rfl]
  have e3 : uf (uf (gMt (sepL L p)) p (q + 1)) q (p + 1) = gMt L := by
    rw [hs]
    funext j
    unfold uf
    by_cases a : j = q
    · rw [if_pos a, a, hq]
    · rw [if_neg a]
      by_cases b : j = p
      · rw [if_pos b, b, h]
      · rw [if_neg b, if_neg b, if_neg a]
  have e4 : sepL L p = sMt L (gMt (sepL L p)) := by
    unfold sepL
    rw [if_neg hn0]
    rfl
  unfold joiL
  rw [sep_0 h2]
  show sMt (sMt (sepL L p) _) (uf (uf (gMt (sepL L p)) p (q + 1)) q (p + 1)) = L
  rw [e3, e4]
  rfl
theorem x8_isSo {M : Mem} {L : Lan} {j : Nat} {x : Itm} (hC : RLn M 58 L) (hW : WF L) (hx : okI L x) (hI : itmP M j x) (hj : j < 120) : ∃ r M1, fX8_isSo (nI (4 * j)) M = some (nI r, M1) ∧ r < 2 ^ 20 ∧ RLn M1 58 (apI L x) ∧ Sr M M1 := by
  have hn := hW.1
  obtain ⟨a, b, c, d⟩ := x
  obtain ⟨i0, i1, i2, i3⟩ := hI
  have i0 : M 68 (4 * j) = nI a := i0
  have i1 : M 68 (4 * j + 1) = nI b := i1
  have i2 : M 68 (4 * j + 2) = nI c := i2
  have i3 : M 68 (4 * j + 3) = nI d := i3
  unfold fX8_isSo
  rw [ad1, ck_in (by omega) (by decide), ix_nI (by omega), bve, ad2, ck_in (by omega) (by decide), ix_nI (by omega), bve, ck_in (by omega) (by decide), ix_nI (by omega), i0, i1, i2]
  rcases hx with ⟨h1, h2, h3, h4⟩ | ⟨h1, h2⟩ | ⟨h1, h2⟩ | ⟨h1, h2, h3, h4, h5⟩
  · have h1 : a = 10 := h1
    subst h1
    have h2 : b < gN L := h2
    have h3 : c < gN L := h3
    have h4 : b ≠ c := h4
    obtain ⟨M1, e1, c1, s1⟩ := x8_areMates hC hW h2 h3 h4
    rw [show apI L (10, b, c, d) = joiL L b c from rfl, if_pos (show nI 10 = (10 : Int32) from rfl), e1, bde]
    by_cases z : mI (gMt L b) = nI c
    · have hz : gMt L b = c + 1 := by
        rw [← mt_eq hW h2 (by omega)]; exact z
      rw [if_pos z] at c1
      refine ⟨0, M1, by rw [if_pos z]; rfl, by decide, ?_, s1⟩
      rw [joi_same hW h2 hz]; exact c1
    · rw [if_neg z] at c1
      exact ⟨1, M1, by rw [if_neg z]; rfl, by decide, c1, s1⟩
  · have h1 : a = 11 := h1
    subst h1
    have h2 : b < 65536 := h2
    have hl : M 58 3 = nI (gL L) := hC.2.2.2.2.2.2.2.1
    have hlt := hW.2.2.1
    rw [show apI L (11, b, c, d) = sL L b from rfl, if_neg (show ¬ nI 11 = (10 : Int32) by decide), if_pos (show nI 11 = (11 : Int32) from rfl)]
    unfold fX8_become
    refine ⟨gL L, wr M 58 3 (nI b), ?_, by omega, rl_L hC b, Sr.wr⟩
    rw [ckl_3_56, ixl_3, bve, ckl_3_56, wme, bde, hl]
  · have h1 : a = 12 := h1
    subst h1
    have hh : M 58 0 = nI (gH L) := hC.2.2.2.2.2.2.2.2.1
    have hlt := hW.2.1
    rw [show apI L (12, b, c, d) = sH L b from rfl, if_neg (show ¬ nI 12 = (10 : Int32) by decide), if_neg (show ¬ nI 12 = (11 : Int32) by decide), if_pos (show nI 12 = (12 : Int32) from rfl)]
    unfold fX8_become
    refine ⟨gH L, wr M 58 0 (nI b), ?_, by omega, rl_H hC b, Sr.wr⟩
    rw [ckl_0_56, ixl_0, bve, ckl_0_56, wme, bde, hh]
  · have h1 : a ≤ 6 := h1
    have n10 : ¬ nI a = 10 := by rw [q10 (by omega)]; omega
    have n11 : ¬ nI a = 11 := by rw [show (11 : Int32) = nI 11 from rfl, lit_eq (by omega) (by omega)]; omega
    have n12 : ¬ nI a = 12 := by rw [q12 (by omega)]; omega
    obtain ⟨M1, e1, c1, s1⟩ := x8_comes (k := a) (s := b) (g := c) (d := d) hC h2
    have hap : apI L (a, b, c, d) = comL L a b c d := by
      unfold apI
      rw [if_neg (show ¬ a = 10 by omega), if_neg (show ¬ a = 11 by omega), if_neg (show ¬ a = 12 by omega)]
    rw [hap, if_neg n10, if_neg n11, if_neg n12, ck_in (by omega) (by decide), ad3, ck_in (by omega) (by decide), ix_nI (by omega), i3, e1, bde]
    exact ⟨gN L, M1, rfl, by omega, c1, s1⟩
theorem x8_apply {t : Nat → Nat} {n p0 : Nat} {L : Lan} (h0 : tkP t n p0) (hW : WF L) {c : Nat} (hc : c ≤ 120) (hA : ∀ i, i < c → alP t n p0 (gN L) i ∧ (rsN t n p0 (gN L) i).1 = true) : ∀ (m j : Nat) (M : Mem), j ≤ c → c - j < m → RLn M 58 (folN t n p0 L j) → M 57 23 = nI c → (∀ i, i < c → itmP M i (rsN t n p0 (gN L) i).2.2) → ∃ M1, fX8_text_L113 m (nI j) (nI j) M = some (nI c, M1) ∧ RLn M1 58 (folN t n p0 L c) ∧ Sr M M1 := by
  intro m
  induction m with
  | zero => intro j M _ h; omega
  | succ m ih =>
    intro j M hj hm hC h23 hI
    rw [fX8_text_L113, h23]
    by_cases e : j = c
    · subst e
      exact ⟨M, by rw [if_pos (by rw [lit_le (by omega) (by omega)]; exact Nat.le_refl _)], hC, Sr.rf⟩
    · obtain ⟨a1, a2⟩ := hA j (by omega)
      obtain ⟨i1, i2, i3, i4⟩ := al_inv h0 hW j a1
      have hok' : (pit t n (sqN t n p0 (gN L) j).1 (gN (folN t n p0 L j))).1 = true := by rw [i2]; exact a2
      obtain ⟨o1, -, -⟩ := pit_ok i3 i1 hok'
      rw [i2] at o1
      obtain ⟨r, M1, e1, r1, c1, s1⟩ := x8_isSo hC i1 o1 (hI j (by omega)) (by omega)
      obtain ⟨M2, e2, c2, s2⟩ := ih (j + 1) M1 (by omega) (by omega) c1 (by rw [s1 57 (by decide)]; exact h23) (fun i hi => by
        have := hI i hi
        unfold itmP at this ⊢
        rw [s1 68 (by decide)]; exact this)
      refine ⟨M2, ?_, c2, s1.tr s2⟩
      rw [if_neg (by rw [lit_le (by omega) (by omega)]; omega), mu4, e1, bde, if_pos (by rw [ge0 (by omega)]; omega)]
      unfold fX8_text_L137
      rw [ad1, bve, bve, e2]
theorem x8_text {S : Sta} {M : Mem} (hW : WFS S) (h : AR M S) : ∃ M1, fX8_text M = some (if (enx (tTa S) (tTl S) (p0N (tTa S) (tTl S)) (gN (tLa S)) 200 0).1 = true then nI (enx (tTa S) (tTl S) (p0N (tTa S) (tTl S)) (gN (tLa S)) 200 0).2 else -1 - nI (enx (tTa S) (tTl S) (p0N (tTa S) (tTl S)) (gN (tLa S)) 200 0).2, M1) ∧ AR M1 (wTl (wLa S (if (enx (tTa S) (tTl S) (p0N (tTa S) (tTl S)) (gN (tLa S)) 200 0).1 = true then folN (tTa S) (tTl S) (p0N (tTa S) (tTl S)) (tLa S) (enx (tTa S) (tTl S) (p0N (tTa S) (tTl S)) (gN (tLa S)) 200 0).2 else tLa S)) 0) ∧ (∀ k, k < 57 → M1 k = M k) := by
  obtain ⟨h1, h2, h3, h4, h5, h6, h7, h8⟩ := id h
  obtain ⟨w1, w2, w3, w4, w5⟩ := id hW
  have hn := w1.1
  have htk := p0_tk (tTa S) (tTl S)
  have hT : TPR M (tTa S) (tTl S) := ⟨h5, h4, w3, w4⟩
  have hN : M 58 4 = nI (gN (tLa S)) := h1.2.2.2.2.2.2.1
  have s0 : SmX M (wr (wr (wr (wr M 57 17 0) 57 20 0) 57 23 0) 57 24 (nI (gN (tLa S)))) := (((SmX.w7 (by omega)).tr (SmX.w7 (by omega))).tr (SmX.w7 (by omega))).tr (SmX.w7 (by omega))
  have e0 : fX8_text M = (bd (fX8_next (wr (wr (wr (wr M 57 17 0) 57 20 0) 57 23 0) 57 24 (nI (gN (tLa S))))) fun _ M5 => (bd (fX8_readItem M5) fun _ M6 => (fX8_text_L33 fu M6))) := by
    unfold fX8_text
    rw [wme, ck_b0, wme, wme, ckl_4_56, ixl_4, wr_n _ _ _ _ (show (58 : Nat) ≠ 57 by decide), wr_n _ _ _ _ (show (58 : Nat) ≠ 57 by decide), wr_n _ _ _ _ (show (58 : Nat) ≠ 57 by decide), hN, wme]
  have a17 : (wr (wr (wr (wr M 57 17 0) 57 20 0) 57 23 0) 57 24 (nI (gN (tLa S)))) 57 17 = nI 0 := by
    rw [wr_app, if_pos rfl, if_neg (by decide), wr_app, if_pos rfl, if_neg (by decide), wr_app, if_pos rfl, if_neg (by decide), wr_app, if_pos rfl, if_pos rfl]; rfl
  have a20 : (wr (wr (wr (wr M 57 17 0) 57 20 0) 57 23 0) 57 24 (nI (gN (tLa S)))) 57 20 = 0 := by
    rw [wr_app, if_pos rfl, if_neg (by decide), wr_app, if_pos rfl, if_neg (by decide), wr_app, if_pos rfl, if_pos rfl]
  have a23 : (wr (wr (wr (wr M 57 17 0) 57 20 0) 57 23 0) 57 24 (nI (gN (tLa S)))) 57 23 = nI 0 := by
    rw [wr_app, if_pos rfl, if_neg (by decide), wr_app, if_pos rfl, if_pos rfl]; rfl
  have a24 : (wr (wr (wr (wr M 57 17 0) 57 20 0) 57 23 0) 57 24 (nI (gN (tLa S)))) 57 24 = nI (gN (tLa S)) := by
    rw [wr_app, if_pos rfl, if_pos rfl]
  rw [e0]
  generalize wr (wr (wr (wr M 57 17 0) 57 20 0) 57 23 0) 57 24 (nI (gN (tLa S))) = M0 at s0 a17 a20 a23 a24
  obtain ⟨M1, e1, r1, s1⟩ := x8_nextC (hT.x s0) (Nat.zero_le _) (Or.inl rfl) a17
  have g1 : GS M1 (tTa S) (tTl S) (p0N (tTa S) (tTl S)) := ⟨r1, by rw [s1.2 20 (by omega)]; exact a20, (hT.x s0).x s1.x⟩
  obtain ⟨M2, e2, s2, r2⟩ := x8_loop htk w1 w3 200 fu 0 M1 (fun i hi => by omega) (by show tTl S - p0N (tTa S) (tTl S) < 200; omega) (by show 200 ≤ 2000; omega) g1 (by rw [s1.2 23 (by omega)]; exact a23) (by rw [s1.2 24 (by omega)]; exact a24) (fun i hi => by omega)
  have sz := (s0.tr s1.x).z s2
  rw [e1, bde, e2]
  generalize enx (tTa S) (tTl S) (p0N (tTa S) (tTl S)) (gN (tLa S)) 200 0 = E at *
  have cR : RLn M2 58 (tLa S) := rl_same h1 (sz.1 58 (by decide) (by decide))
  have fin : ∀ (M3 : Mem) (X : Lan), RLn M3 58 X → Sr M2 M3 → AR M3 (wTl (wLa S X) 0) ∧ ∀ k, k < 57 → M3 k = M k := by
    intro M3 X hX s3
    have keep : ∀ k, k ≠ 57 → k ≠ 58 → k ≠ 68 → M3 k = M k := fun k a b c => by rw [s3 k b, sz.1 k a c]
    refine ⟨⟨hX, fun hk => rl_same (h2 hk) (keep 59 (by decide) (by decide) (by decide)), by rw [s3 57 (by decide), sz.2.1 3 (by omega)]; exact h3, fun i hi => absurd hi (Nat.not_lt_zero _), by rw [s3 57 (by decide), sz.2.2]; rfl, fun s hs => ?_, fun q hq => by rw [keep 61 (by decide) (by decide) (by decide)]; exact h7 q hq, by rw [keep 61 (by decide) (by decide) (by decide)]; exact h8⟩, fun k hk => keep k (by omega) (by omega) (by omega)⟩
    obtain ⟨g1, g2, g3⟩ := h6 s hs
    exact ⟨by rw [keep _ (by omega) (by omega) (by omega)]; exact g1, by rw [keep _ (by omega) (by omega) (by omega)]; exact g2, fun i hi => by rw [keep _ (by omega) (by omega) (by omega)]; exact g3 i hi⟩
  by_cases q : E.1 = true
  · obtain ⟨b23, bI2, b120⟩ := r2 q
    obtain ⟨M3, e3, c3, s3⟩ := x8_apply htk w1 b120 (fun i hi => (bI2 i hi).2) fu 0 M2 (Nat.zero_le _) (by show E.2 - 0 < 2000; omega) cR b23 (fun i hi => (bI2 i hi).1)
    have e3' : fX8_text_L113 fu 0 0 M2 = some (nI E.2, M3) := e3
    obtain ⟨f1, f2⟩ := fin M3 _ c3 s3
    rw [if_pos q, if_pos q, if_pos q]
    exact ⟨M3, e3', f1, f2⟩
  · rw [if_neg q, if_neg q, if_neg q]
    obtain ⟨f1, f2⟩ := fin M2 _ cR Sr.rf
    exact ⟨M2, rfl, f1, f2⟩
theorem enx_wf {t : Nat → Nat} {n p0 : Nat} {L : Lan} (h0 : tkP t n p0) (hW : WF L) : ∀ (f j : Nat), alP t n p0 (gN L) j → (enx t n p0 (gN L) f j).1 = true → WF (folN t n p0 L (enx t n p0 (gN L) f j).2) := by
  intro f
  induction f with
  | zero => intro j _ h; cases h
  | succ f ih =>
    intro j hA
    obtain ⟨i1, i2, i3, i4⟩ := al_inv h0 hW j hA
    simp only [enx]
    by_cases a : (rsN t n p0 (gN L) j).1 = false
    · rw [if_pos a]; intro h; cases h
    · rw [if_neg a]
      have hok' : (pit t n (sqN t n p0 (gN L) j).1 (gN (folN t n p0 L j))).1 = true := by rw [i2]; exact bt_n a
      obtain ⟨o1, -, -⟩ := pit_ok i3 i1 hok'
      rw [i2] at o1
      by_cases b : tyN t n (rsN t n p0 (gN L) j).2.1 = 0
      · rw [if_pos b]; intro _; exact (wf_api i1 o1).1
      · rw [if_neg b]
        by_cases c : tyN t n (rsN t n p0 (gN L) j).2.1 = 3
        · rw [if_pos c]
          exact ih (j + 1) (fun i hi => by
            by_cases y : i = j
            · rw [y]; exact ⟨bt_n a, c⟩
            · exact hA i (by omega))
        · rw [if_neg c]; intro h; cases h
theorem tw_text {S : Sta} (hW : WFS S) : Two fX7_text fX8_text S := by
  refine ⟨if (enx (tTa S) (tTl S) (p0N (tTa S) (tTl S)) (gN (tLa S)) 200 0).1 = true then nI (enx (tTa S) (tTl S) (p0N (tTa S) (tTl S)) (gN (tLa S)) 200 0).2 else -1 - nI (enx (tTa S) (tTl S) (p0N (tTa S) (tTl S)) (gN (tLa S)) 200 0).2, wTl (wLa S (if (enx (tTa S) (tTl S) (p0N (tTa S) (tTl S)) (gN (tLa S)) 200 0).1 = true then folN (tTa S) (tTl S) (p0N (tTa S) (tTl S)) (tLa S) (enx (tTa S) (tTl S) (p0N (tTa S) (tTl S)) (gN (tLa S)) 200 0).2 else tLa S)) 0, fun M h => ?_, fun M h => ?_, ?_⟩
  · obtain ⟨M1, e1, c1, f1, -⟩ := x7_text hW h
    exact ⟨M1, e1, c1, f1⟩
  · obtain ⟨M1, e1, c1, f1⟩ := x8_text hW h
    exact ⟨M1, e1, c1, f1⟩
  · obtain ⟨w1, w2, w3, w4, w5⟩ := hW
    refine ⟨?_, w2, by show 0 ≤ 120; omega, w4, w5⟩
    show WF (if (enx (tTa S) (tTl S) (p0N (tTa S) (tTl S)) (gN (tLa S)) 200 0).1 = true then folN (tTa S) (tTl S) (p0N (tTa S) (tTl S)) (tLa S) (enx (tTa S) (tTl S) (p0N (tTa S) (tTl S)) (gN (tLa S)) 200 0).2 else tLa S)
    by_cases q : (enx (tTa S) (tTl S) (p0N (tTa S) (tTl S)) (gN (tLa S)) 200 0).1 = true
    · rw [if_pos q]; exact enx_wf (p0_tk _ _) w1 200 0 (fun i hi => by omega) q
    · rw [if_neg q]; exact w1

/-! write, copy -/
theorem x7_withinP {n : Nat} (x : Int32) (M : Mem) (hn : n < 2 ^ 31 - 1) : fX7_isWithin x (nI n - 1) M = some (bI (pIn n x), M) := by
  rcases Nat.eq_zero_or_pos n with h | h
  · subst h
    unfold fX7_isWithin pIn
    by_cases a : x.toInt < 0
    · rw [if_pos ((i0 x).mpr a), ck_b0, decide_eq_false (by omega)]; rfl
    · rw [if_neg (fun h => a ((i0 x).mp h)), if_pos (by rw [Int32.lt_iff_toInt_lt]; show (-1 : Int) < _; omega), ck_b0, decide_eq_false (by omega)]; rfl
  · rw [sb1 h, x7_isWithin x M (by omega), Nat.sub_add_cancel h]
def ui (f : Nat → Int32) (i : Nat) (v : Int32) : Nat → Int32 := fun j => if j = i then v else f j
def cutI (b : Nat) (x : Int32) : Int32 := if b = 8 then i2b x else if b = 16 then i2s x else x
theorem x5_missing {M : Mem} {S : Sta} (h : AC M S) (hW : WFS S) {s : Nat} (hs : s < 4) : fX5_isMissing (48 + 2 * s) M = some (bI (decide (tSb S s = 0)), M) := by
  have hb := (hW.2.2.2.2 s hs).1
  unfold fX5_isMissing
  rw [(h.2.2.2.2.2.1 s hs).1]
  by_cases e : tSb S s = 0
  · rw [if_pos (by rw [e]; rfl), ck_b1, decide_eq_true e]; rfl
  · rw [if_neg (by rw [nI_0', lit_eq (by omega) (by decide)]; exact e), ck_b0, decide_eq_false e]; rfl
theorem x7_lackOf {M : Mem} {S : Sta} (h : AC M S) (hW : WFS S) (x : Int32) : fX7_lackOf x M = some (if pIn 4 x = false then 0 else if tSb S (ix x) = 0 then 5 else -1, M) := by
  unfold fX7_lackOf
  rw [x7_isSheet, bde]
  cases hp : pIn 4 x
  · rw [ifF, if_pos rfl]
  · obtain ⟨s, hs, rfl⟩ := pIn_ex hp (by decide)
    rw [ifT, ck_in hs (by decide), ix_nI (by omega), x5_missing h hW hs, bde]
    by_cases e : tSb S s = 0
    · rw [decide_eq_true e, ifT, if_neg (by decide), if_pos e]
    · rw [decide_eq_false e, ifF, if_neg (by decide), if_neg e]
theorem cut_nI {b : Nat} (hb : b = 0 ∨ b = 8 ∨ b = 16 ∨ b = 32) {α : Type} {A B C : α} : (if nI b = 8 then A else if nI b = 16 then B else C) = (if b = 8 then A else if b = 16 then B else C) := by
  rcases hb with rfl | rfl | rfl | rfl <;> rfl
theorem tw_write {S : Sta} (hW : WFS S) (x y z : Int32) : Two (fX7_write x y z) (fX8_write x y z) S := by
  cases hp : pIn 4 x
  · refine two_fd hW (i := 0) (by decide) (fun M h => ?_) (fun M h => ?_)
    · unfold fX7_write; rw [x7_lackOf h hW, hp, if_pos rfl, bde, if_neg (by decide)]; exact fd7 0 M
    · unfold fX8_write; rw [x8_isSheet, hp, bde, ifF]; exact fd8 0 M
  obtain ⟨s, hs, rfl⟩ := pIn_ex hp (by decide)
  have hix : ix (nI s) = s := ix_nI (by omega)
  obtain ⟨hb, hl⟩ := hW.2.2.2.2 s hs
  by_cases e : tSb S s = 0
  · refine two_fd hW (i := 5) (by decide) (fun M h => ?_) (fun M h => ?_)
    · unfold fX7_write; rw [x7_lackOf h hW, hp, if_neg (by decide), hix, if_pos e, bde, if_neg (by decide)]; exact fd7 5 M
    · unfold fX8_write; rw [x8_isSheet, hp, bde, ifT, ck_in hs (by decide), hix, (h.2.2.2.2.2.1 s hs).1, if_pos (by rw [e]; rfl)]; exact fd8 5 M
  have e0 : ¬ nI (tSb S s) = 0 := by rw [nI_0', lit_eq (by omega) (by decide)]; exact e
  cases hq : pIn (tSl S s) y
  · refine two_fd hW (i := 0) (by decide) (fun M h => ?_) (fun M h => ?_)
    · unfold fX7_write; rw [x7_lackOf h hW, hp, if_neg (by decide), hix, if_neg e, bde, if_pos rfl, ck_in hs (by decide), (h.2.2.2.2.2.1 s hs).2.1, x7_withinP _ _ (by omega), hq, bde, ifF]; exact fd7 0 M
    · unfold fX8_write; rw [x8_isSheet, hp, bde, ifT, ck_in hs (by decide), hix, (h.2.2.2.2.2.1 s hs).1, if_neg e0, ck_in hs (by decide), (h.2.2.2.2.2.1 s hs).2.1, x8_withinP _ _ (by omega), hq, bde, ifF]; exact fd8 0 M
  obtain ⟨i, hi, rfl⟩ := pIn_ex hq (by omega)
  refine ⟨1, setS S s (tSb S s) (tSl S s) (ui (tSn S s) i (cutI (tSb S s) z)), fun M h => ?_, fun M h => ?_, wfs_set hW hb hl⟩
  · obtain ⟨g1, g2, g3⟩ := h.2.2.2.2.2.1 s hs
    refine ⟨wr M (48 + 2 * s + 1) i (cutI (tSb S s) z), ?_, h.set hs (fun k k1 k2 => wr_n _ _ _ _ k2) (by rw [wr_n _ _ _ _ (by omega)]; exact g1) (by rw [wr_n _ _ _ _ (by omega)]; exact g2) (fun j hj => ?_), fun k hk => wr_n _ _ _ _ (by omega)⟩
    · have hput : fX5_put (48 + 2 * s) (nI i) z M = some ((), wr M (48 + 2 * s + 1) i (cutI (tSb S s) z)) := by
        have l47 : ∀ w, fX5_put_L47 (48 + 2 * s) w (nI i) M = some ((), wr M (48 + 2 * s + 1) i w) := by
          intro w
          unfold fX5_put_L47
          rw [ck_in (by omega) (by decide), ix_nI (by omega), wme]
        unfold fX5_put cutI
        rw [g2, x7_withinP _ _ (by omega), hq, bde, ifT, g1, cut_nI hb, l47, l47, l47]
        split
        · rfl
        · split <;> rfl
      unfold fX7_write
      rw [x7_lackOf h hW, hp, if_neg (by decide), hix, if_neg e, bde, if_pos rfl, ck_in hs (by decide), g2, x7_withinP _ _ (by omega), hq, bde, ifT, ck_in hs (by decide), hput, bde]
    · rw [wr_app, if_pos rfl, g3 j hj]; rfl
  · obtain ⟨g1, g2, g3⟩ := h.2.2.2.2.2.1 s hs
    refine ⟨wr M 71 (40 * s + i) (cutI (tSb S s) z), ?_, h.set hs (fun k k1 k2 k3 k4 => wr_n _ _ _ _ k3) (fun t ht => ?_) (fun t ht => ?_) (fun t j ht hj => ?_), fun k hk => wr_n _ _ _ _ (by omega)⟩
    · have hcut : fX8_cutTo z (nI (tSb S s)) M = some (cutI (tSb S s) z, M) := by
        unfold fX8_cutTo cutI
        rw [cut_nI hb]
        split
        · rfl
        · split <;> rfl
      unfold fX8_write
      rw [x8_isSheet, hp, bde, ifT, ck_in hs (by decide), hix, g1, if_neg e0, ck_in hs (by decide), g2, x8_withinP _ _ (by omega), hq, bde, ifT, ck_in hs (by decide), g1, hcut, bde, mu40, nI_add, ck_in (by omega) (by decide), ix_nI (by omega), wme]
    · rw [wr_n _ _ _ _ (by omega)]
      by_cases z : t = s
      · rw [if_pos z, z, g1]
      · rw [if_neg z]
    · rw [wr_n _ _ _ _ (by omega)]
      by_cases z : t = s
      · rw [if_pos z, z, g2]
      · rw [if_neg z]
    · rw [wr_app, if_pos rfl]
      unfold ui
      by_cases z : t = s
      · rw [if_pos z, z]
        by_cases w : j = i
        · rw [if_pos (by omega), if_pos w]
        · rw [if_neg (by omega), if_neg w]; exact g3 j hj
      · rw [if_neg (by omega), if_neg z]

abbrev rmX7_bit : Room := { frames := 0, cells := 0, slots := 0, locals := 0 }
noncomputable def fX7_bit  (x1 : Int32) (x2 : Int32) (M : Mem) : Option (Int32 × Mem) := (some ((ush x1 x2) &&& 1, M))
set_option maxHeartbeats 4000000 in
set_option maxRecDepth 100000 in
theorem mtX7_bit (E : EV) (l : Launch)   (x1 : Int32) (x2 : Int32) (M : Mem) : CT E l yX7_bit wsX7_bit rmX7_bit vI [.int x1, .int x2] (fX7_bit x1 x2 M) M := by
  refine ct_of (cc := cX7_bit) (nL := 2) (ret := (some .int)) (by decide +kernel) rfl (Nat.le_of_ble_eq_true rfl) ?_
  show ZZ E l RX7 cX7_bit 2 (some .int) wsX7_bit rmX7_bit vI (fX7_bit x1 x2 M) M [(0, .int x1), (1, .int x2)] 0 []
  unfold fX7_bit
  refine zz_iload_n (npc := 1) 0 rfl rfl dX7_bit_0 rfl ?_
  refine zz_iload_n (npc := 2) 1 rfl rfl dX7_bit_1 rfl ?_
  refine zz_iushr (npc := 3) dX7_bit_2 rfl ?_
  refine zz_iconst (npc := 4) 1 (by decide) dX7_bit_3 rfl ?_
  refine zz_iand (npc := 5) dX7_bit_4 rfl ?_
  exact zz_iret dX7_bit_5
abbrev rmX7_isWithin : Room := { frames := 0, cells := 0, slots := 0, locals := 0 }
noncomputable def fX7_isWithin  (x1 : Int32) (x2 : Int32) (M : Mem) : Option (Int32 × Mem) := (if x1 < 0 then (ck (isb 0) (some (0, M))) else (if x2 < x1 then (ck (isb 0) (some (0, M))) else (ck (isb 1) (some (1, M)))))
set_option maxHeartbeats 4000000 in
set_option maxRecDepth 100000 in
theorem mtX7_isWithin (E : EV) (l : Launch)   (x1 : Int32) (x2 : Int32) (M : Mem) : CT E l yX7_isWithin wsX7_isWithin rmX7_isWithin vI [.int x1, .int x2] (fX7_isWithin x1 x2 M) M := by
  refine ct_of (cc := cX7_isWithin) (nL := 2) (ret := (some .boolean)) (by decide +kernel) rfl (Nat.le_of_ble_eq_true rfl) ?_
  show ZZ E l RX7 cX7_isWithin 2 (some .boolean) wsX7_isWithin rmX7_isWithin vI (fX7_isWithin x1 x2 M) M [(0, .int x1), (1, .int x2)] 0 []
  unfold fX7_isWithin
  refine zz_iload_n (npc := 1) 0 rfl rfl dX7_isWithin_0 rfl ?_
  refine zz_if_lt (tgt := 13) (npc := 4) dX7_isWithin_1 (by decide) rfl ?_ ?_
  · refine zz_iconst (npc := 14) 0 (by decide) dX7_isWithin_13 rfl ?_
    exact zz_zret dX7_isWithin_14
  · refine zz_iload_n (npc := 5) 0 rfl rfl dX7_isWithin_4 rfl ?_
    refine zz_iload_n (npc := 6) 1 rfl rfl dX7_isWithin_5 rfl ?_
    refine zz_icmp_gt (tgt := 13) (npc := 9) dX7_isWithin_6 (by decide) rfl ?_ ?_
    · refine zz_iconst (npc := 14) 0 (by decide) dX7_isWithin_13 rfl ?_
      exact zz_zret dX7_isWithin_14
    · refine zz_iconst (npc := 10) 1 (by decide) dX7_isWithin_9 rfl ?_
      refine zz_goto (npc := 0) (tgt := 14) dX7_isWithin_10 (by decide) ?_
      exact zz_zret dX7_isWithin_14

abbrev rmX3_typeOf : Room := { frames := 0, cells := 0, slots := 0, locals := 0 }
noncomputable def fX3_typeOf_L28   (y0 : Int32) (M : Mem) : Option (Int32 × Mem) := (if y0 = 32 then (some (4, M)) else (if y0 = 59 then (some (3, M)) else (some (5, M))))
set_option maxHeartbeats 4000000 in
set_option maxRecDepth 100000 in
theorem zX3_typeOf_L28 (E : EV) (l : Launch)     : ∀ (y0 : Int32) (M : Mem), ZZ E l RX3 cX3_typeOf 1 (some .int) wsX3_typeOf rmX3_typeOf vI (fX3_typeOf_L28 y0 M) M [(0, .int y0)] 28 [] := by
  intro y0 M
  unfold fX3_typeOf_L28
  refine zz_iload_n (npc := 29) 0 rfl rfl dX3_typeOf_28 rfl ?_
  refine zz_bipush (npc := 31) 32 (by decide) dX3_typeOf_29 rfl ?_
  refine zz_icmp_ne (tgt := 36) (npc := 34) dX3_typeOf_31 (by decide) rfl ?_ ?_
  · refine zz_iload_n (npc := 37) 0 rfl rfl dX3_typeOf_36 rfl ?_
    refine zz_bipush (npc := 39) 59 (by decide) dX3_typeOf_37 rfl ?_
    refine zz_icmp_ne (tgt := 46) (npc := 42) dX3_typeOf_39 (by decide) rfl ?_ ?_
    · refine zz_iconst (npc := 47) 5 (by decide) dX3_typeOf_46 rfl ?_
      exact zz_iret dX3_typeOf_47
    · refine zz_iconst (npc := 43) 3 (by decide) dX3_typeOf_42 rfl ?_
      refine zz_goto (npc := 0) (tgt := 47) dX3_typeOf_43 (by decide) ?_
      exact zz_iret dX3_typeOf_47
  · refine zz_iconst (npc := 35) 4 (by decide) dX3_typeOf_34 rfl ?_
    exact zz_iret dX3_typeOf_35
noncomputable def fX3_typeOf_L14   (y0 : Int32) (M : Mem) : Option (Int32 × Mem) := (if y0 < 48 then (fX3_typeOf_L28  y0 M) else (if 57 < y0 then (fX3_typeOf_L28  y0 M) else (some (2, M))))
set_option maxHeartbeats 4000000 in
set_option maxRecDepth 100000 in
theorem zX3_typeOf_L14 (E : EV) (l : Launch)     : ∀ (y0 : Int32) (M : Mem), ZZ E l RX3 cX3_typeOf 1 (some .int) wsX3_typeOf rmX3_typeOf vI (fX3_typeOf_L14 y0 M) M [(0, .int y0)] 14 [] := by
  intro y0 M
  unfold fX3_typeOf_L14
  refine zz_iload_n (npc := 15) 0 rfl rfl dX3_typeOf_14 rfl ?_
  refine zz_bipush (npc := 17) 48 (by decide) dX3_typeOf_15 rfl ?_
  refine zz_icmp_lt (tgt := 28) (npc := 20) dX3_typeOf_17 (by decide) rfl ?_ ?_
  · exact zX3_typeOf_L28 E l  y0 M
  · refine zz_iload_n (npc := 21) 0 rfl rfl dX3_typeOf_20 rfl ?_
    refine zz_bipush (npc := 23) 57 (by decide) dX3_typeOf_21 rfl ?_
    refine zz_icmp_gt (tgt := 28) (npc := 26) dX3_typeOf_23 (by decide) rfl ?_ ?_
    · exact zX3_typeOf_L28 E l  y0 M
    · refine zz_iconst (npc := 27) 2 (by decide) dX3_typeOf_26 rfl ?_
      exact zz_iret dX3_typeOf_27
noncomputable def fX3_typeOf  (x1 : Int32) (M : Mem) : Option (Int32 × Mem) := (if x1 < 97 then (fX3_typeOf_L14  x1 M) else (if 122 < x1 then (fX3_typeOf_L14  x1 M) else (some (1, M))))
set_option maxHeartbeats 4000000 in
set_option maxRecDepth 100000 in
theorem mtX3_typeOf (E : EV) (l : Launch)   (x1 : Int32) (M : Mem) : CT E l yX3_typeOf wsX3_typeOf rmX3_typeOf vI [.int x1] (fX3_typeOf x1 M) M := by
  refine ct_of (cc := cX3_typeOf) (nL := 1) (ret := (some .int)) (by decide +kernel) rfl (Nat.le_of_ble_eq_true rfl) ?_
  show ZZ E l RX3 cX3_typeOf 1 (some .int) wsX3_typeOf rmX3_typeOf vI (fX3_typeOf x1 M) M [(0, .int x1)] 0 []
  unfold fX3_typeOf
  refine zz_iload_n (npc := 1) 0 rfl rfl dX3_typeOf_0 rfl ?_
  refine zz_bipush (npc := 3) 97 (by decide) dX3_typeOf_1 rfl ?_
  refine zz_icmp_lt (tgt := 14) (npc := 6) dX3_typeOf_3 (by decide) rfl ?_ ?_
  · exact zX3_typeOf_L14 E l  x1 M
  · refine zz_iload_n (npc := 7) 0 rfl rfl dX3_typeOf_6 rfl ?_
    refine zz_bipush (npc := 9) 122 (by decide) dX3_typeOf_7 rfl ?_
    refine zz_icmp_gt (tgt := 14) (npc := 12) dX3_typeOf_9 (by decide) rfl ?_ ?_
    · exact zX3_typeOf_L14 E l  x1 M
    · refine zz_iconst (npc := 13) 1 (by decide) dX3_typeOf_12 rfl ?_
      exact zz_iret dX3_typeOf_13
abbrev rmX3_beginToken : Room := { frames := 0, cells := 0, slots := 0, locals := 0 }
theorem iX3_beginToken_3 : ∀ w ∈ u_ws RX3 TX3 8, w ∈ wsX3_beginToken := fun w h => List.mem_cons_of_mem _ (List.mem_append_right _ h)
noncomputable def fX3_beginToken  (x1 : Int32) (x2 : Int32) (M : Mem) : Option (Unit × Mem) := (if x1 = 4 then (some ((), M)) else (if 121 ≤ (M 33 6) then (some ((), M)) else (ck (inb (M 33 6) 121) (wm (wr M 43 (ix (M 33 6)) x1) fun M1 => (ck (inb (M1 33 6) 121) (wm (wr M1 44 (ix (M1 33 6)) x2) fun M2 => (ck (inb (M2 33 6) 121) (wm (wr M2 46 (ix (M2 33 6)) 0) fun M3 => (wm (wr M3 33 6 ((M3 33 6) + 1)) fun M4 => (some ((), M4)))))))))))
set_option maxHeartbeats 4000000 in
set_option maxRecDepth 100000 in
theorem mtX3_beginToken (E : EV) (l : Launch)   (x1 : Int32) (x2 : Int32) (M : Mem) : CT E l yX3_beginToken wsX3_beginToken rmX3_beginToken vV [.ref (eA E 33), .int x1, .int x2] (fX3_beginToken x1 x2 M) M := by
  refine ct_of (cc := cX3_beginToken) (nL := 3) (ret := none) (by decide +kernel) rfl (Nat.le_of_ble_eq_true rfl) ?_
  show ZZ E l RX3 cX3_beginToken 3 none wsX3_beginToken rmX3_beginToken vV (fX3_beginToken x1 x2 M) M [(0, .ref (eA E 33)), (1, .int x1), (2, .int x2)] 0 []
  unfold fX3_beginToken
  refine zz_iload_n (npc := 1) 1 rfl rfl dX3_beginToken_0 rfl ?_
  refine zz_iconst (npc := 2) 4 (by decide) dX3_beginToken_1 rfl ?_
  refine zz_icmp_eq (tgt := 54) (npc := 5) dX3_beginToken_2 (by decide) rfl ?_ ?_
  · exact zz_vret dX3_beginToken_54
  · refine zz_aload_n (npc := 6) 0 rfl rfl dX3_beginToken_5 rfl ?_
    refine zz_getI (npc := 9) (i := 6) (C0 := RX3) (T := TX3) (N := 8) (by decide) (by rfl) rfl (by decide) iX3_beginToken_3 (List.mem_of_getElem? (i := 1) rfl) rfl dX3_beginToken_6 rfl ?_
    refine zz_bipush (npc := 11) 121 (by decide) dX3_beginToken_9 rfl ?_
    refine zz_icmp_ge (tgt := 54) (npc := 14) dX3_beginToken_11 (by decide) rfl ?_ ?_
    · exact zz_vret dX3_beginToken_54
    · refine zz_aload_n (npc := 15) 0 rfl rfl dX3_beginToken_14 rfl ?_
      refine zz_getR (npc := 18) (i := 2) (C0 := RX3) (T := TX3) (N := 8) (by decide) (by rfl) rfl (by decide) iX3_beginToken_3 (List.mem_of_getElem? (i := 2) rfl) rfl dX3_beginToken_15 rfl ?_
      refine zz_aload_n (npc := 19) 0 rfl rfl dX3_beginToken_18 rfl ?_
      refine zz_getI (npc := 22) (i := 6) (C0 := RX3) (T := TX3) (N := 8) (by decide) (by rfl) rfl (by decide) iX3_beginToken_3 (List.mem_of_getElem? (i := 1) rfl) rfl dX3_beginToken_19 rfl ?_
      refine zz_iload_n (npc := 23) 1 rfl rfl dX3_beginToken_22 rfl ?_
      refine zz_iast (npc := 24) (by decide) (by rfl) dX3_beginToken_23 rfl (fun M1 => ?_)
      refine zz_aload_n (npc := 25) 0 rfl rfl dX3_beginToken_24 rfl ?_
      refine zz_getR (npc := 28) (i := 3) (C0 := RX3) (T := TX3) (N := 8) (by decide) (by rfl) rfl (by decide) iX3_beginToken_3 (List.mem_of_getElem? (i := 3) rfl) rfl dX3_beginToken_25 rfl ?_
      refine zz_aload_n (npc := 29) 0 rfl rfl dX3_beginToken_28 rfl ?_
      refine zz_getI (npc := 32) (i := 6) (C0 := RX3) (T := TX3) (N := 8) (by decide) (by rfl) rfl (by decide) iX3_beginToken_3 (List.mem_of_getElem? (i := 1) rfl) rfl dX3_beginToken_29 rfl ?_
      refine zz_iload_n (npc := 33) 2 rfl rfl dX3_beginToken_32 rfl ?_
      refine zz_iast (npc := 34) (by decide) (by rfl) dX3_beginToken_33 rfl (fun M2 => ?_)
      refine zz_aload_n (npc := 35) 0 rfl rfl dX3_beginToken_34 rfl ?_
      refine zz_getR (npc := 38) (i := 5) (C0 := RX3) (T := TX3) (N := 8) (by decide) (by rfl) rfl (by decide) iX3_beginToken_3 (List.mem_of_getElem? (i := 4) rfl) rfl dX3_beginToken_35 rfl ?_
      refine zz_aload_n (npc := 39) 0 rfl rfl dX3_beginToken_38 rfl ?_
      refine zz_getI (npc := 42) (i := 6) (C0 := RX3) (T := TX3) (N := 8) (by decide) (by rfl) rfl (by decide) iX3_beginToken_3 (List.mem_of_getElem? (i := 1) rfl) rfl dX3_beginToken_39 rfl ?_
      refine zz_iconst (npc := 43) 0 (by decide) dX3_beginToken_42 rfl ?_
      refine zz_iast (npc := 44) (by decide) (by rfl) dX3_beginToken_43 rfl (fun M3 => ?_)
      refine zz_aload_n (npc := 45) 0 rfl rfl dX3_beginToken_44 rfl ?_
      refine zz_dup (npc := 46) rfl dX3_beginToken_45 rfl ?_
      refine zz_getI (npc := 49) (i := 6) (C0 := RX3) (T := TX3) (N := 8) (by decide) (by rfl) rfl (by decide) iX3_beginToken_3 (List.mem_of_getElem? (i := 1) rfl) rfl dX3_beginToken_46 rfl ?_
      refine zz_iconst (npc := 50) 1 (by decide) dX3_beginToken_49 rfl ?_
      refine zz_iadd (npc := 51) dX3_beginToken_50 rfl ?_
      refine zz_putI (npc := 54) (i := 6) (C0 := RX3) (T := TX3) (N := 8) (by decide) (by rfl) rfl (by decide) iX3_beginToken_3 (List.mem_of_getElem? (i := 1) rfl) tyX3_ok nmX3 rfl rfl rfl dX3_beginToken_51 rfl (fun M4 => ?_)
      exact zz_vret dX3_beginToken_54
abbrev rmX3_lengthenToken : Room := { frames := 1, cells := 0, slots := 0, locals := 24 }
theorem iX3_lengthenToken_3 : ∀ w ∈ u_ws RX3 TX3 8, w ∈ wsX3_lengthenToken := fun w h => List.mem_cons_of_mem _ (List.mem_append_left _ (List.mem_append_right _ h))
noncomputable def fX3_lengthenToken  (x1 : Int32) (M : Mem) : Option (Unit × Mem) := (bv ((M 33 6) - 1) fun v1 => (if v1 < 0 then (some ((), M)) else (ck (inb v1 121) (wm (wr M 45 (ix v1) (x1 + 1)) fun M2 => (ck (inb v1 121) (bd (fX6_byteAt x1 M2) fun r4 M3 => (ck (inb v1 121) (wm (wr M3 46 (ix v1) (imin (((10 * (M2 46 (ix v1))) + r4) - 48) 100000)) fun M5 => (some ((), M5))))))))))
set_option maxHeartbeats 4000000 in
set_option maxRecDepth 100000 in
theorem mtX3_lengthenToken (E : EV) (l : Launch)   (x1 : Int32) (M : Mem) : CT E l yX3_lengthenToken wsX3_lengthenToken rmX3_lengthenToken vV [.ref (eA E 33), .int x1] (fX3_lengthenToken x1 M) M := by
  refine ct_of (cc := cX3_lengthenToken) (nL := 3) (ret := none) (by decide +kernel) rfl (Nat.le_of_ble_eq_true rfl) ?_
  show ZZ E l RX3 cX3_lengthenToken 3 none wsX3_lengthenToken rmX3_lengthenToken vV (fX3_lengthenToken x1 M) M [(0, .ref (eA E 33)), (1, .int x1)] 0 []
  unfold fX3_lengthenToken
  refine zz_aload_n (npc := 1) 0 rfl rfl dX3_lengthenToken_0 rfl ?_
  refine zz_getI (npc := 4) (i := 6) (C0 := RX3) (T := TX3) (N := 8) (by decide) (by rfl) rfl (by decide) iX3_lengthenToken_3 (List.mem_of_getElem? (i := 1) rfl) rfl dX3_lengthenToken_1 rfl ?_
  refine zz_iconst (npc := 5) 1 (by decide) dX3_lengthenToken_4 rfl ?_
  refine zz_isub (npc := 6) dX3_lengthenToken_5 rfl ?_
  refine zz_istore_nB (npc := 7) (lv1 := fun v1 => [(2, .int v1), (0, .ref (eA E 33)), (1, .int x1)]) rfl dX3_lengthenToken_6 rfl (by decide) (fun _ => rfl) (fun v1 => ?_)
  refine zz_iload_n (npc := 8) 0 rfl rfl dX3_lengthenToken_7 rfl ?_
  refine zz_if_lt (tgt := 52) (npc := 11) dX3_lengthenToken_8 (by decide) rfl ?_ ?_
  · exact zz_vret dX3_lengthenToken_52
  · refine zz_aload_n (npc := 12) 1 rfl rfl dX3_lengthenToken_11 rfl ?_
    refine zz_getR (npc := 15) (i := 4) (C0 := RX3) (T := TX3) (N := 8) (by decide) (by rfl) rfl (by decide) iX3_lengthenToken_3 (List.mem_of_getElem? (i := 2) rfl) rfl dX3_lengthenToken_12 rfl ?_
    refine zz_iload_n (npc := 16) 0 rfl rfl dX3_lengthenToken_15 rfl ?_
    refine zz_iload_n (npc := 17) 2 rfl rfl dX3_lengthenToken_16 rfl ?_
    refine zz_iconst (npc := 18) 1 (by decide) dX3_lengthenToken_17 rfl ?_
    refine zz_iadd (npc := 19) dX3_lengthenToken_18 rfl ?_
    refine zz_iast (npc := 20) (by decide) (by rfl) dX3_lengthenToken_19 rfl (fun M2 => ?_)
    refine zz_aload_n (npc := 21) 1 rfl rfl dX3_lengthenToken_20 rfl ?_
    refine zz_getR (npc := 24) (i := 5) (C0 := RX3) (T := TX3) (N := 8) (by decide) (by rfl) rfl (by decide) iX3_lengthenToken_3 (List.mem_of_getElem? (i := 3) rfl) rfl dX3_lengthenToken_21 rfl ?_
    refine zz_iload_n (npc := 25) 0 rfl rfl dX3_lengthenToken_24 rfl ?_
    refine zz_bipush (npc := 27) 10 (by decide) dX3_lengthenToken_25 rfl ?_
    refine zz_aload_n (npc := 28) 1 rfl rfl dX3_lengthenToken_27 rfl ?_
    refine zz_getR (npc := 31) (i := 5) (C0 := RX3) (T := TX3) (N := 8) (by decide) (by rfl) rfl (by decide) iX3_lengthenToken_3 (List.mem_of_getElem? (i := 3) rfl) rfl dX3_lengthenToken_28 rfl ?_
    refine zz_iload_n (npc := 32) 0 rfl rfl dX3_lengthenToken_31 rfl ?_
    refine zz_iald (npc := 33) (by decide) (by rfl) dX3_lengthenToken_32 rfl ?_
    refine zz_imul (npc := 34) dX3_lengthenToken_33 rfl ?_
    refine zz_aload_n (npc := 35) 1 rfl rfl dX3_lengthenToken_34 rfl ?_
    refine zz_getR (npc := 38) (i := 0) (C0 := RX3) (T := TX3) (N := 8) (by decide) (by rfl) rfl (by decide) iX3_lengthenToken_3 (List.mem_of_getElem? (i := 4) rfl) rfl dX3_lengthenToken_35 rfl ?_
    refine zz_iload_n (npc := 39) 2 rfl rfl dX3_lengthenToken_38 rfl ?_
    refine zz_callVi (npc := 42) (n := 1) (As := [.int x1]) (by decide) (by rfl) rfl gX3_lengthenToken_X6_byteAt rfl rfl rfl (by decide +kernel) ⟨Nat.le_of_ble_eq_true rfl, Nat.le_of_ble_eq_true rfl⟩ rfl rfl (Nat.le_of_ble_eq_true rfl) (mtX6_byteAt E l  x1 M2) dX3_lengthenToken_39 rfl (fun r4 M3 _ => ?_)
    refine zz_iadd (npc := 43) dX3_lengthenToken_42 rfl ?_
    refine zz_bipush (npc := 45) 48 (by decide) dX3_lengthenToken_43 rfl ?_
    refine zz_isub (npc := 46) dX3_lengthenToken_45 rfl ?_
    refine zz_ldc (npc := 48) 100000 (List.mem_of_getElem? (i := 5) rfl) dX3_lengthenToken_46 rfl ?_
    refine zz_mmin (npc := 51) (List.mem_of_getElem? (i := 6) rfl) (List.mem_of_getElem? (i := 7) rfl) (List.mem_of_getElem? (i := 8) rfl) (List.mem_of_getElem? (i := 9) rfl) (Nat.le_of_ble_eq_true rfl) (Nat.le_of_ble_eq_true rfl) dX3_lengthenToken_48 rfl ?_
    refine zz_iast (npc := 52) (by decide) (by rfl) dX3_lengthenToken_51 rfl (fun M5 => ?_)
    exact zz_vret dX3_lengthenToken_52
abbrev rmX3_split : Room := { frames := 2, cells := 0, slots := 0, locals := 46 }
theorem iX3_split_3 : ∀ w ∈ u_ws RX3 TX3 8, w ∈ wsX3_split := fun w h => List.mem_cons_of_mem _ (List.mem_append_left _ (List.mem_append_right _ h))
theorem iX3_split_6 : ∀ w ∈ u_ws RX6 TX6 2, w ∈ wsX3_split := fun w h => List.mem_cons_of_mem _ (List.mem_append_right _ h)
noncomputable def fX3_split_L87  (k12 : Int32 → Mem → Option (Unit × Mem)) (y1 : Int32) (M : Mem) : Option (Unit × Mem) := (bv (y1 + 1) fun v14 => (k12 v14 M))
set_option maxHeartbeats 4000000 in
set_option maxRecDepth 100000 in
theorem zX3_split_L87 (E : EV) (l : Launch)   (k12 : Int32 → Mem → Option (Unit × Mem)) (hk12 : ∀ (y1_ : Int32) (M_ : Mem), ZZ E l RX3 cX3_split 4 none wsX3_split rmX3_split vV (k12 y1_ M_) M_ [(0, .ref (eA E 33)), (1, .int y1_)] 12 []) : ∀ (y1 : Int32) (M : Mem), ZZ E l RX3 cX3_split 4 none wsX3_split rmX3_split vV (fX3_split_L87 k12 y1 M) M [(0, .ref (eA E 33)), (1, .int y1)] 87 [] := by
  intro y1 M
  unfold fX3_split_L87
  refine zz_iincB (npc := 90) (y1 + 1) (lv1 := fun v14 => [(1, .int v14), (0, .ref (eA E 33))]) dX3_split_87 rfl 1 rfl rfl (by decide) (fun _ => rfl) (fun v14 => ?_)
  refine zz_goto (npc := 0) (tgt := 12) dX3_split_90 (by decide) ?_
  refine zz_sub (npc := 0) (lv1 := [(0, .ref (eA E 33)), (1, .int v14)]) [1, 0] rfl ?_
  exact hk12 v14 M
noncomputable def fX3_split_L78  (k12 : Int32 → Mem → Option (Unit × Mem)) (y1 : Int32) (y3 : Int32) (M : Mem) : Option (Unit × Mem) := (if y3 = 0 then (fX3_split_L87 k12 y1 M) else (bd (fX3_lengthenToken y1 M) fun _ M13 => (fX3_split_L87 k12 y1 M13)))
set_option maxHeartbeats 4000000 in
set_option maxRecDepth 100000 in
theorem zX3_split_L78 (E : EV) (l : Launch)   (k12 : Int32 → Mem → Option (Unit × Mem)) (hk12 : ∀ (y1_ : Int32) (M_ : Mem), ZZ E l RX3 cX3_split 4 none wsX3_split rmX3_split vV (k12 y1_ M_) M_ [(0, .ref (eA E 33)), (1, .int y1_)] 12 []) : ∀ (y1 : Int32) (y3 : Int32) (M : Mem), ZZ E l RX3 cX3_split 4 none wsX3_split rmX3_split vV (fX3_split_L78 k12 y1 y3 M) M [(0, .ref (eA E 33)), (1, .int y1), (3, .int y3)] 78 [] := by
  intro y1 y3 M
  unfold fX3_split_L78
  refine zz_iload_n (npc := 79) 2 rfl rfl dX3_split_78 rfl ?_
  refine zz_if_eq (tgt := 87) (npc := 82) dX3_split_79 (by decide) rfl ?_ ?_
  · refine zz_sub (npc := 0) (lv1 := [(0, .ref (eA E 33)), (1, .int y1)]) [0, 1] rfl ?_
    exact zX3_split_L87 E l k12 hk12 y1 M
  · refine zz_aload_n (npc := 83) 0 rfl rfl dX3_split_82 rfl ?_
    refine zz_iload_n (npc := 84) 1 rfl rfl dX3_split_83 rfl ?_
    refine zz_callVv (npc := 87) (n := 1) (As := [.int y1]) (by decide) (by rfl) rfl gX3_split_X3_lengthenToken rfl rfl rfl (by decide +kernel) ⟨Nat.le_of_ble_eq_true rfl, Nat.le_of_ble_eq_true rfl⟩ rfl rfl (Nat.le_of_ble_eq_true rfl) (mtX3_lengthenToken E l  y1 M) dX3_split_84 rfl (fun _ M13 _ => ?_)
    refine zz_sub (npc := 0) (lv1 := [(0, .ref (eA E 33)), (1, .int y1)]) [0, 1] rfl ?_
    exact zX3_split_L87 E l k12 hk12 y1 M13
noncomputable def fX3_split_L72  (k12 : Int32 → Mem → Option (Unit × Mem)) (y1 : Int32) (y2 : Int32) (y3 : Int32) (M : Mem) : Option (Unit × Mem) := (bd (fX3_beginToken y2 y1 M) fun _ M12 => (fX3_split_L78 k12 y1 y3 M12))
set_option maxHeartbeats 4000000 in
set_option maxRecDepth 100000 in
theorem zX3_split_L72 (E : EV) (l : Launch)   (k12 : Int32 → Mem → Option (Unit × Mem)) (hk12 : ∀ (y1_ : Int32) (M_ : Mem), ZZ E l RX3 cX3_split 4 none wsX3_split rmX3_split vV (k12 y1_ M_) M_ [(0, .ref (eA E 33)), (1, .int y1_)] 12 []) : ∀ (y1 : Int32) (y2 : Int32) (y3 : Int32) (M : Mem), ZZ E l RX3 cX3_split 4 none wsX3_split rmX3_split vV (fX3_split_L72 k12 y1 y2 y3 M) M [(0, .ref (eA E 33)), (1, .int y1), (2, .int y2), (3, .int y3)] 72 [] := by
  intro y1 y2 y3 M
  unfold fX3_split_L72
  refine zz_aload_n (npc := 73) 0 rfl rfl dX3_split_72 rfl ?_
  refine zz_iload_n (npc := 74) 2 rfl rfl dX3_split_73 rfl ?_
  refine zz_iload_n (npc := 75) 1 rfl rfl dX3_split_74 rfl ?_
  refine zz_callVv (npc := 78) (n := 2) (As := [.int y2, .int y1]) (by decide) (by rfl) rfl gX3_split_X3_beginToken rfl rfl rfl (by decide +kernel) ⟨Nat.le_of_ble_eq_true rfl, Nat.le_of_ble_eq_true rfl⟩ rfl rfl (Nat.le_of_ble_eq_true rfl) (mtX3_beginToken E l  y2 y1 M) dX3_split_75 rfl (fun _ M12 _ => ?_)
  refine zz_sub (npc := 0) (lv1 := [(0, .ref (eA E 33)), (1, .int y1), (3, .int y3)]) [0, 1, 3] rfl ?_
  exact zX3_split_L78 E l k12 hk12 y1 y3 M12
noncomputable def fX3_split_L50  (k12 : Int32 → Mem → Option (Unit × Mem)) (y1 : Int32) (y2 : Int32) (w0 : Int32) (M : Mem) : Option (Unit × Mem) := (if w0 = 0 then (fX3_split_L72 k12 y1 y2 w0 M) else (bd (fX6_byteAt (y1 - 1) M) fun r9 M8 => (bd (fX3_typeOf r9 M8) fun r11 M10 => (if r11 = y2 then (fX3_split_L78 k12 y1 w0 M10) else (fX3_split_L72 k12 y1 y2 w0 M10)))))
set_option maxHeartbeats 4000000 in
set_option maxRecDepth 100000 in
theorem zX3_split_L50 (E : EV) (l : Launch)   (k12 : Int32 → Mem → Option (Unit × Mem)) (hk12 : ∀ (y1_ : Int32) (M_ : Mem), ZZ E l RX3 cX3_split 4 none wsX3_split rmX3_split vV (k12 y1_ M_) M_ [(0, .ref (eA E 33)), (1, .int y1_)] 12 []) : ∀ (y1 : Int32) (y2 : Int32) (w0 : Int32) (M : Mem), ZZ E l RX3 cX3_split 4 none wsX3_split rmX3_split vV (fX3_split_L50 k12 y1 y2 w0 M) M [(0, .ref (eA E 33)), (1, .int y1), (2, .int y2)] 50 [.int w0] := by
  intro y1 y2 w0 M
  unfold fX3_split_L50
  refine zz_istore_n (npc := 51) (lv1 := [(3, .int w0), (0, .ref (eA E 33)), (1, .int y1), (2, .int y2)]) rfl dX3_split_50 rfl (by decide) rfl ?_
  refine zz_iload_n (npc := 52) 0 rfl rfl dX3_split_51 rfl ?_
  refine zz_if_eq (tgt := 72) (npc := 55) dX3_split_52 (by decide) rfl ?_ ?_
  · refine zz_sub (npc := 0) (lv1 := [(0, .ref (eA E 33)), (1, .int y1), (2, .int y2), (3, .int w0)]) [1, 2, 3, 0] rfl ?_
    exact zX3_split_L72 E l k12 hk12 y1 y2 w0 M
  · refine zz_aload_n (npc := 56) 1 rfl rfl dX3_split_55 rfl ?_
    refine zz_getR (npc := 59) (i := 0) (C0 := RX3) (T := TX3) (N := 8) (by decide) (by rfl) rfl (by decide) iX3_split_3 (List.mem_of_getElem? (i := 3) rfl) rfl dX3_split_56 rfl ?_
    refine zz_iload_n (npc := 60) 2 rfl rfl dX3_split_59 rfl ?_
    refine zz_iconst (npc := 61) 1 (by decide) dX3_split_60 rfl ?_
    refine zz_isub (npc := 62) dX3_split_61 rfl ?_
    refine zz_callVi (npc := 65) (n := 1) (As := [.int (y1 - 1)]) (by decide) (by rfl) rfl gX3_split_X6_byteAt rfl rfl rfl (by decide +kernel) ⟨Nat.le_of_ble_eq_true rfl, Nat.le_of_ble_eq_true rfl⟩ rfl rfl (Nat.le_of_ble_eq_true rfl) (mtX6_byteAt E l  (y1 - 1) M) dX3_split_62 rfl (fun r9 M8 _ => ?_)
    refine zz_callSi (npc := 68) (n := 1) (As := [.int r9]) gX3_split_X3_typeOf rfl rfl rfl (by decide +kernel) ⟨Nat.le_of_ble_eq_true rfl, Nat.le_of_ble_eq_true rfl⟩ rfl rfl (Nat.le_of_ble_eq_true rfl) (mtX3_typeOf E l  r9 M8) dX3_split_65 rfl (fun r11 M10 _ => ?_)
    refine zz_iload_n (npc := 69) 3 rfl rfl dX3_split_68 rfl ?_
    refine zz_icmp_eq (tgt := 78) (npc := 72) dX3_split_69 (by decide) rfl ?_ ?_
    · refine zz_sub (npc := 0) (lv1 := [(0, .ref (eA E 33)), (1, .int y1), (3, .int w0)]) [1, 2, 0] rfl ?_
      exact zX3_split_L78 E l k12 hk12 y1 w0 M10
    · refine zz_sub (npc := 0) (lv1 := [(0, .ref (eA E 33)), (1, .int y1), (2, .int y2), (3, .int w0)]) [1, 2, 3, 0] rfl ?_
      exact zX3_split_L72 E l k12 hk12 y1 y2 w0 M10
noncomputable def fX3_split_L45  (k12 : Int32 → Mem → Option (Unit × Mem)) (y1 : Int32) (y2 : Int32) (M : Mem) : Option (Unit × Mem) := (fX3_split_L50 k12 y1 y2 1 M)
set_option maxHeartbeats 4000000 in
set_option maxRecDepth 100000 in
theorem zX3_split_L45 (E : EV) (l : Launch)   (k12 : Int32 → Mem → Option (Unit × Mem)) (hk12 : ∀ (y1_ : Int32) (M_ : Mem), ZZ E l RX3 cX3_split 4 none wsX3_split rmX3_split vV (k12 y1_ M_) M_ [(0, .ref (eA E 33)), (1, .int y1_)] 12 []) : ∀ (y1 : Int32) (y2 : Int32) (M : Mem), ZZ E l RX3 cX3_split 4 none wsX3_split rmX3_split vV (fX3_split_L45 k12 y1 y2 M) M [(0, .ref (eA E 33)), (1, .int y1), (2, .int y2)] 45 [] := by
  intro y1 y2 M
  unfold fX3_split_L45
  refine zz_iconst (npc := 46) 1 (by decide) dX3_split_45 rfl ?_
  refine zz_goto (npc := 0) (tgt := 50) dX3_split_46 (by decide) ?_
  exact zX3_split_L50 E l k12 hk12 y1 y2 1 M
noncomputable def fX3_split_L12   : Nat → Int32 → Mem → Option (Unit × Mem)
  | 0, _, _ => none
  | n + 1, y1, M => (if (M 34 1) ≤ y1 then (bd (fX3_beginToken 0 (M 34 1) M) fun _ M3 => (some ((), M3))) else (bd (fX6_byteAt y1 M) fun r5 M4 => (bd (fX3_typeOf r5 M4) fun r7 M6 => (if r7 = 1 then (fX3_split_L45 (fX3_split_L12  n) y1 r7 M6) else (if r7 = 2 then (fX3_split_L45 (fX3_split_L12  n) y1 r7 M6) else (fX3_split_L50 (fX3_split_L12  n) y1 r7 0 M6))))))
set_option maxHeartbeats 4000000 in
set_option maxRecDepth 100000 in
theorem zX3_split_L12 (E : EV) (l : Launch)     : ∀ (n : Nat) (y1 : Int32) (M : Mem), ZZ E l RX3 cX3_split 4 none wsX3_split rmX3_split vV (fX3_split_L12 n y1 M) M [(0, .ref (eA E 33)), (1, .int y1)] 12 [] := by
  intro n
  induction n with
  | zero => intros; exact zz_none
  | succ n ih =>
    intro y1 M
    rw [fX3_split_L12]
    refine zz_iload_n (npc := 13) 1 rfl rfl dX3_split_12 rfl ?_
    refine zz_aload_n (npc := 14) 0 rfl rfl dX3_split_13 rfl ?_
    refine zz_getR (npc := 17) (i := 0) (C0 := RX3) (T := TX3) (N := 8) (by decide) (by rfl) rfl (by decide) iX3_split_3 (List.mem_of_getElem? (i := 3) rfl) rfl dX3_split_14 rfl ?_
    refine zz_getI (npc := 20) (i := 1) (C0 := RX6) (T := TX6) (N := 2) (by decide) (by rfl) rfl (by decide) iX3_split_6 (List.mem_of_getElem? (i := 4) rfl) rfl dX3_split_17 rfl ?_
    refine zz_icmp_ge (tgt := 93) (npc := 23) dX3_split_20 (by decide) rfl ?_ ?_
    · refine zz_aload_n (npc := 94) 0 rfl rfl dX3_split_93 rfl ?_
      refine zz_iconst (npc := 95) 0 (by decide) dX3_split_94 rfl ?_
      refine zz_aload_n (npc := 96) 0 rfl rfl dX3_split_95 rfl ?_
      refine zz_getR (npc := 99) (i := 0) (C0 := RX3) (T := TX3) (N := 8) (by decide) (by rfl) rfl (by decide) iX3_split_3 (List.mem_of_getElem? (i := 3) rfl) rfl dX3_split_96 rfl ?_
      refine zz_getI (npc := 102) (i := 1) (C0 := RX6) (T := TX6) (N := 2) (by decide) (by rfl) rfl (by decide) iX3_split_6 (List.mem_of_getElem? (i := 4) rfl) rfl dX3_split_99 rfl ?_
      refine zz_callVv (npc := 105) (n := 2) (As := [.int 0, .int (M 34 1)]) (by decide) (by rfl) rfl gX3_split_X3_beginToken rfl rfl rfl (by decide +kernel) ⟨Nat.le_of_ble_eq_true rfl, Nat.le_of_ble_eq_true rfl⟩ rfl rfl (Nat.le_of_ble_eq_true rfl) (mtX3_beginToken E l  0 (M 34 1) M) dX3_split_102 rfl (fun _ M3 _ => ?_)
      exact zz_vret dX3_split_105
    · refine zz_aload_n (npc := 24) 0 rfl rfl dX3_split_23 rfl ?_
      refine zz_getR (npc := 27) (i := 0) (C0 := RX3) (T := TX3) (N := 8) (by decide) (by rfl) rfl (by decide) iX3_split_3 (List.mem_of_getElem? (i := 3) rfl) rfl dX3_split_24 rfl ?_
      refine zz_iload_n (npc := 28) 1 rfl rfl dX3_split_27 rfl ?_
      refine zz_callVi (npc := 31) (n := 1) (As := [.int y1]) (by decide) (by rfl) rfl gX3_split_X6_byteAt rfl rfl rfl (by decide +kernel) ⟨Nat.le_of_ble_eq_true rfl, Nat.le_of_ble_eq_true rfl⟩ rfl rfl (Nat.le_of_ble_eq_true rfl) (mtX6_byteAt E l  y1 M) dX3_split_28 rfl (fun r5 M4 _ => ?_)
      refine zz_callSi (npc := 34) (n := 1) (As := [.int r5]) gX3_split_X3_typeOf rfl rfl rfl (by decide +kernel) ⟨Nat.le_of_ble_eq_true rfl, Nat.le_of_ble_eq_true rfl⟩ rfl rfl (Nat.le_of_ble_eq_true rfl) (mtX3_typeOf E l  r5 M4) dX3_split_31 rfl (fun r7 M6 _ => ?_)
      refine zz_istore_n (npc := 35) (lv1 := [(2, .int r7), (0, .ref (eA E 33)), (1, .int y1)]) rfl dX3_split_34 rfl (by decide) rfl ?_
      refine zz_iload_n (npc := 36) 0 rfl rfl dX3_split_35 rfl ?_
      refine zz_iconst (npc := 37) 1 (by decide) dX3_split_36 rfl ?_
      refine zz_icmp_eq (tgt := 45) (npc := 40) dX3_split_37 (by decide) rfl ?_ ?_
      · refine zz_sub (npc := 0) (lv1 := [(0, .ref (eA E 33)), (1, .int y1), (2, .int r7)]) [1, 2, 0] rfl ?_
        exact zX3_split_L45 E l (fX3_split_L12  n) ih y1 r7 M6
      · refine zz_iload_n (npc := 41) 0 rfl rfl dX3_split_40 rfl ?_
        refine zz_iconst (npc := 42) 2 (by decide) dX3_split_41 rfl ?_
        refine zz_icmp_ne (tgt := 49) (npc := 45) dX3_split_42 (by decide) rfl ?_ ?_
        · refine zz_iconst (npc := 50) 0 (by decide) dX3_split_49 rfl ?_
          refine zz_sub (npc := 0) (lv1 := [(0, .ref (eA E 33)), (1, .int y1), (2, .int r7)]) [1, 2, 0] rfl ?_
          exact zX3_split_L50 E l (fX3_split_L12  n) ih y1 r7 0 M6
        · refine zz_sub (npc := 0) (lv1 := [(0, .ref (eA E 33)), (1, .int y1), (2, .int r7)]) [1, 2, 0] rfl ?_
          exact zX3_split_L45 E l (fX3_split_L12  n) ih y1 r7 M6
noncomputable def fX3_split   (M : Mem) : Option (Unit × Mem) := (wm (wr M 33 6 0) fun M1 => (wm (wr M1 33 7 0) fun M2 => (fX3_split_L12  fu 0 M2)))
set_option maxHeartbeats 4000000 in
set_option maxRecDepth 100000 in
theorem mtX3_split (E : EV) (l : Launch)    (M : Mem) : CT E l yX3_split wsX3_split rmX3_split vV [.ref (eA E 33)] (fX3_split  M) M := by
  refine ct_of (cc := cX3_split) (nL := 4) (ret := none) (by decide +kernel) rfl (Nat.le_of_ble_eq_true rfl) ?_
  show ZZ E l RX3 cX3_split 4 none wsX3_split rmX3_split vV (fX3_split  M) M [(0, .ref (eA E 33))] 0 []
  unfold fX3_split
  refine zz_aload_n (npc := 1) 0 rfl rfl dX3_split_0 rfl ?_
  refine zz_iconst (npc := 2) 0 (by decide) dX3_split_1 rfl ?_
  refine zz_putI (npc := 5) (i := 6) (C0 := RX3) (T := TX3) (N := 8) (by decide) (by rfl) rfl (by decide) iX3_split_3 (List.mem_of_getElem? (i := 1) rfl) tyX3_ok nmX3 rfl rfl rfl dX3_split_2 rfl (fun M1 => ?_)
  refine zz_aload_n (npc := 6) 0 rfl rfl dX3_split_5 rfl ?_
  refine zz_iconst (npc := 7) 0 (by decide) dX3_split_6 rfl ?_
  refine zz_putI (npc := 10) (i := 7) (C0 := RX3) (T := TX3) (N := 8) (by decide) (by rfl) rfl (by decide) iX3_split_3 (List.mem_of_getElem? (i := 2) rfl) tyX3_ok nmX3 rfl rfl rfl dX3_split_7 rfl (fun M2 => ?_)
  refine zz_iconst (npc := 11) 0 (by decide) dX3_split_10 rfl ?_
  refine zz_istore_n (npc := 12) (lv1 := [(1, .int 0), (0, .ref (eA E 33))]) rfl dX3_split_11 rfl (by decide) rfl ?_
  refine zz_sub (npc := 0) (lv1 := [(0, .ref (eA E 33)), (1, .int 0)]) [1, 0] rfl ?_
  exact zX3_split_L12 E l  fu 0 M2
abbrev rmX3_isNext : Room := { frames := 0, cells := 0, slots := 0, locals := 0 }
theorem iX3_isNext_3 : ∀ w ∈ u_ws RX3 TX3 8, w ∈ wsX3_isNext := fun w h => List.mem_cons_of_mem _ (List.mem_append_right _ h)
noncomputable def fX3_isNext  (x1 : Int32) (M : Mem) : Option (Int32 × Mem) := (ck (inb (M 33 7) 121) (if (M 43 (ix (M 33 7))) = x1 then (ck (isb 1) (some (1, M))) else (ck (isb 0) (some (0, M)))))
set_option maxHeartbeats 4000000 in
set_option maxRecDepth 100000 in
theorem mtX3_isNext (E : EV) (l : Launch)   (x1 : Int32) (M : Mem) : CT E l yX3_isNext wsX3_isNext rmX3_isNext vI [.ref (eA E 33), .int x1] (fX3_isNext x1 M) M := by
  refine ct_of (cc := cX3_isNext) (nL := 2) (ret := (some .boolean)) (by decide +kernel) rfl (Nat.le_of_ble_eq_true rfl) ?_
  show ZZ E l RX3 cX3_isNext 2 (some .boolean) wsX3_isNext rmX3_isNext vI (fX3_isNext x1 M) M [(0, .ref (eA E 33)), (1, .int x1)] 0 []
  unfold fX3_isNext
  refine zz_aload_n (npc := 1) 0 rfl rfl dX3_isNext_0 rfl ?_
  refine zz_getR (npc := 4) (i := 2) (C0 := RX3) (T := TX3) (N := 8) (by decide) (by rfl) rfl (by decide) iX3_isNext_3 (List.mem_of_getElem? (i := 1) rfl) rfl dX3_isNext_1 rfl ?_
  refine zz_aload_n (npc := 5) 0 rfl rfl dX3_isNext_4 rfl ?_
  refine zz_getI (npc := 8) (i := 7) (C0 := RX3) (T := TX3) (N := 8) (by decide) (by rfl) rfl (by decide) iX3_isNext_3 (List.mem_of_getElem? (i := 2) rfl) rfl dX3_isNext_5 rfl ?_
  refine zz_iald (npc := 9) (by decide) (by rfl) dX3_isNext_8 rfl ?_
  refine zz_iload_n (npc := 10) 1 rfl rfl dX3_isNext_9 rfl ?_
  refine zz_icmp_ne (tgt := 17) (npc := 13) dX3_isNext_10 (by decide) rfl ?_ ?_
  · refine zz_iconst (npc := 18) 0 (by decide) dX3_isNext_17 rfl ?_
    exact zz_zret dX3_isNext_18
  · refine zz_iconst (npc := 14) 1 (by decide) dX3_isNext_13 rfl ?_
    refine zz_goto (npc := 0) (tgt := 18) dX3_isNext_14 (by decide) ?_
    exact zz_zret dX3_isNext_18
abbrev rmX3_isWord : Room := { frames := 4, cells := 0, slots := 0, locals := 85 }
theorem iX3_isWord_3 : ∀ w ∈ u_ws RX3 TX3 8, w ∈ wsX3_isWord := fun w h => List.mem_cons_of_mem _ (List.mem_append_left _ (List.mem_append_right _ h))
noncomputable def fX3_isWord_L38 (d1 : Nat)  : Nat → Int32 → Mem → Option (Int32 × Mem)
  | 0, _, _ => none
  | n + 1, y2, M => (bd (fJ0_length_8abf5 d1 M) fun r6 M5 => (if r6 ≤ y2 then (ck (isb 1) (some (1, M5))) else (ck (inb (M5 33 7) 121) (bd (fX6_byteAt ((M5 44 (ix (M5 33 7))) + y2) M5) fun r8 M7 => (bd (fJ0_charAt_5068e d1 y2 M7) fun r10 M9 => (if r8 = r10 then (bv (y2 + 1) fun v11 => (fX3_isWord_L38 d1 n v11 M9)) else (ck (isb 0) (some (0, M9)))))))))
set_option maxHeartbeats 4000000 in
set_option maxRecDepth 100000 in
theorem zX3_isWord_L38 (E : EV) (l : Launch) (d1 : Nat) (hd1 : d1 < NS)   : ∀ (n : Nat) (y2 : Int32) (M : Mem), ZZ E l RX3 cX3_isWord 3 (some .boolean) wsX3_isWord rmX3_isWord vI (fX3_isWord_L38 d1 n y2 M) M [(0, .ref (eA E 33)), (1, .ref (eK E d1)), (2, .int y2)] 38 [] := by
  intro n
  induction n with
  | zero => intros; exact zz_none
  | succ n ih =>
    intro y2 M
    rw [fX3_isWord_L38]
    refine zz_iload_n (npc := 39) 2 rfl rfl dX3_isWord_38 rfl ?_
    refine zz_aload_n (npc := 40) 1 rfl rfl dX3_isWord_39 rfl ?_
    refine zz_callTi (npc := 43) (n := 0) (As := []) hd1 rfl gX3_isWord_J0_length_8abf5 rfl rfl rfl (by decide +kernel) ⟨Nat.le_of_ble_eq_true rfl, Nat.le_of_ble_eq_true rfl⟩ rfl rfl (Nat.le_of_ble_eq_true rfl) (mtJ0_length_8abf5 E l d1 hd1  M) dX3_isWord_40 rfl (fun r6 M5 _ => ?_)
    refine zz_icmp_ge (tgt := 80) (npc := 46) dX3_isWord_43 (by decide) rfl ?_ ?_
    · refine zz_iconst (npc := 81) 1 (by decide) dX3_isWord_80 rfl ?_
      exact zz_zret dX3_isWord_81
    · refine zz_aload_n (npc := 47) 0 rfl rfl dX3_isWord_46 rfl ?_
      refine zz_getR (npc := 50) (i := 0) (C0 := RX3) (T := TX3) (N := 8) (by decide) (by rfl) rfl (by decide) iX3_isWord_3 (List.mem_of_getElem? (i := 4) rfl) rfl dX3_isWord_47 rfl ?_
      refine zz_aload_n (npc := 51) 0 rfl rfl dX3_isWord_50 rfl ?_
      refine zz_getR (npc := 54) (i := 3) (C0 := RX3) (T := TX3) (N := 8) (by decide) (by rfl) rfl (by decide) iX3_isWord_3 (List.mem_of_getElem? (i := 3) rfl) rfl dX3_isWord_51 rfl ?_
      refine zz_aload_n (npc := 55) 0 rfl rfl dX3_isWord_54 rfl ?_
      refine zz_getI (npc := 58) (i := 7) (C0 := RX3) (T := TX3) (N := 8) (by decide) (by rfl) rfl (by decide) iX3_isWord_3 (List.mem_of_getElem? (i := 2) rfl) rfl dX3_isWord_55 rfl ?_
      refine zz_iald (npc := 59) (by decide) (by rfl) dX3_isWord_58 rfl ?_
      refine zz_iload_n (npc := 60) 2 rfl rfl dX3_isWord_59 rfl ?_
      refine zz_iadd (npc := 61) dX3_isWord_60 rfl ?_
      refine zz_callVi (npc := 64) (n := 1) (As := [.int ((M5 44 (ix (M5 33 7))) + y2)]) (by decide) (by rfl) rfl gX3_isWord_X6_byteAt rfl rfl rfl (by decide +kernel) ⟨Nat.le_of_ble_eq_true rfl, Nat.le_of_ble_eq_true rfl⟩ rfl rfl (Nat.le_of_ble_eq_true rfl) (mtX6_byteAt E l  ((M5 44 (ix (M5 33 7))) + y2) M5) dX3_isWord_61 rfl (fun r8 M7 _ => ?_)
      refine zz_aload_n (npc := 65) 1 rfl rfl dX3_isWord_64 rfl ?_
      refine zz_iload_n (npc := 66) 2 rfl rfl dX3_isWord_65 rfl ?_
      refine zz_callTi (npc := 69) (n := 1) (As := [.int y2]) hd1 rfl gX3_isWord_J0_charAt_5068e rfl rfl rfl (by decide +kernel) ⟨Nat.le_of_ble_eq_true rfl, Nat.le_of_ble_eq_true rfl⟩ rfl rfl (Nat.le_of_ble_eq_true rfl) (mtJ0_charAt_5068e E l d1 hd1 y2 M7) dX3_isWord_66 rfl (fun r10 M9 _ => ?_)
      refine zz_icmp_eq (tgt := 74) (npc := 72) dX3_isWord_69 (by decide) rfl ?_ ?_
      · refine zz_iincB (npc := 77) (y2 + 1) (lv1 := fun v11 => [(2, .int v11), (0, .ref (eA E 33)), (1, .ref (eK E d1))]) dX3_isWord_74 rfl 2 rfl rfl (by decide) (fun _ => rfl) (fun v11 => ?_)
        refine zz_goto (npc := 0) (tgt := 38) dX3_isWord_77 (by decide) ?_
        refine zz_sub (npc := 0) (lv1 := [(0, .ref (eA E 33)), (1, .ref (eK E d1)), (2, .int v11)]) [1, 2, 0] rfl ?_
        exact ih v11 M9
      · refine zz_iconst (npc := 73) 0 (by decide) dX3_isWord_72 rfl ?_
        exact zz_zret dX3_isWord_73
noncomputable def fX3_isWord (d1 : Nat)  (M : Mem) : Option (Int32 × Mem) := (bd (fX3_isNext 1 M) fun r2 M1 => (if r2 = 0 then (ck (isb 0) (some (0, M1))) else (ck (inb (M1 33 7) 121) (ck (inb (M1 33 7) 121) (bd (fJ0_length_8abf5 d1 M1) fun r4 M3 => (if ((M1 45 (ix (M1 33 7))) - (M1 44 (ix (M1 33 7)))) = r4 then (fX3_isWord_L38 d1 fu 0 M3) else (ck (isb 0) (some (0, M3)))))))))
set_option maxHeartbeats 4000000 in
set_option maxRecDepth 100000 in
theorem mtX3_isWord (E : EV) (l : Launch) (d1 : Nat) (hd1 : d1 < NS)  (M : Mem) : CT E l yX3_isWord wsX3_isWord rmX3_isWord vI [.ref (eA E 33), .ref (eK E d1)] (fX3_isWord d1 M) M := by
  refine ct_of (cc := cX3_isWord) (nL := 3) (ret := (some .boolean)) (by decide +kernel) rfl (Nat.le_of_ble_eq_true rfl) ?_
  show ZZ E l RX3 cX3_isWord 3 (some .boolean) wsX3_isWord rmX3_isWord vI (fX3_isWord d1 M) M [(0, .ref (eA E 33)), (1, .ref (eK E d1))] 0 []
  unfold fX3_isWord
  refine zz_aload_n (npc := 1) 0 rfl rfl dX3_isWord_0 rfl ?_
  refine zz_iconst (npc := 2) 1 (by decide) dX3_isWord_1 rfl ?_
  refine zz_callVi (npc := 5) (n := 1) (As := [.int 1]) (by decide) (by rfl) rfl gX3_isWord_X3_isNext rfl rfl rfl (by decide +kernel) ⟨Nat.le_of_ble_eq_true rfl, Nat.le_of_ble_eq_true rfl⟩ rfl rfl (Nat.le_of_ble_eq_true rfl) (mtX3_isNext E l  1 M) dX3_isWord_2 rfl (fun r2 M1 _ => ?_)
  refine zz_if_eq (tgt := 34) (npc := 8) dX3_isWord_5 (by decide) rfl ?_ ?_
  · refine zz_iconst (npc := 35) 0 (by decide) dX3_isWord_34 rfl ?_
    exact zz_zret dX3_isWord_35
  · refine zz_aload_n (npc := 9) 0 rfl rfl dX3_isWord_8 rfl ?_
    refine zz_getR (npc := 12) (i := 4) (C0 := RX3) (T := TX3) (N := 8) (by decide) (by rfl) rfl (by decide) iX3_isWord_3 (List.mem_of_getElem? (i := 1) rfl) rfl dX3_isWord_9 rfl ?_
    refine zz_aload_n (npc := 13) 0 rfl rfl dX3_isWord_12 rfl ?_
    refine zz_getI (npc := 16) (i := 7) (C0 := RX3) (T := TX3) (N := 8) (by decide) (by rfl) rfl (by decide) iX3_isWord_3 (List.mem_of_getElem? (i := 2) rfl) rfl dX3_isWord_13 rfl ?_
    refine zz_iald (npc := 17) (by decide) (by rfl) dX3_isWord_16 rfl ?_
    refine zz_aload_n (npc := 18) 0 rfl rfl dX3_isWord_17 rfl ?_
    refine zz_getR (npc := 21) (i := 3) (C0 := RX3) (T := TX3) (N := 8) (by decide) (by rfl) rfl (by decide) iX3_isWord_3 (List.mem_of_getElem? (i := 3) rfl) rfl dX3_isWord_18 rfl ?_
    refine zz_aload_n (npc := 22) 0 rfl rfl dX3_isWord_21 rfl ?_
    refine zz_getI (npc := 25) (i := 7) (C0 := RX3) (T := TX3) (N := 8) (by decide) (by rfl) rfl (by decide) iX3_isWord_3 (List.mem_of_getElem? (i := 2) rfl) rfl dX3_isWord_22 rfl ?_
    refine zz_iald (npc := 26) (by decide) (by rfl) dX3_isWord_25 rfl ?_
    refine zz_isub (npc := 27) dX3_isWord_26 rfl ?_
    refine zz_aload_n (npc := 28) 1 rfl rfl dX3_isWord_27 rfl ?_
    refine zz_callTi (npc := 31) (n := 0) (As := []) hd1 rfl gX3_isWord_J0_length_8abf5 rfl rfl rfl (by decide +kernel) ⟨Nat.le_of_ble_eq_true rfl, Nat.le_of_ble_eq_true rfl⟩ rfl rfl (Nat.le_of_ble_eq_true rfl) (mtJ0_length_8abf5 E l d1 hd1  M1) dX3_isWord_28 rfl (fun r4 M3 _ => ?_)
    refine zz_icmp_eq (tgt := 36) (npc := 34) dX3_isWord_31 (by decide) rfl ?_ ?_
    · refine zz_iconst (npc := 37) 0 (by decide) dX3_isWord_36 rfl ?_
      refine zz_istore_n (npc := 38) (lv1 := [(2, .int 0), (0, .ref (eA E 33)), (1, .ref (eK E d1))]) rfl dX3_isWord_37 rfl (by decide) rfl ?_
      refine zz_sub (npc := 0) (lv1 := [(0, .ref (eA E 33)), (1, .ref (eK E d1)), (2, .int 0)]) [1, 2, 0] rfl ?_
      exact zX3_isWord_L38 E l d1 hd1 fu 0 M3
    · refine zz_iconst (npc := 35) 0 (by decide) dX3_isWord_34 rfl ?_
      exact zz_zret dX3_isWord_35
abbrev rmX3_kindOfWord : Room := { frames := 5, cells := 0, slots := 0, locals := 107 }
noncomputable def fX3_kindOfWord   (M : Mem) : Option (Int32 × Mem) := (bd (fX3_isWord 0 M) fun r2 M1 => (if r2 = 0 then (bd (fX3_isWord 1 M1) fun r4 M3 => (if r4 = 0 then (bd (fX3_isWord 2 M3) fun r6 M5 => (if r6 = 0 then (bd (fX3_isWord 3 M5) fun r8 M7 => (if r8 = 0 then (bd (fX3_isWord 4 M7) fun r10 M9 => (if r10 = 0 then (bd (fX3_isWord 5 M9) fun r12 M11 => (if r12 = 0 then (bd (fX3_isWord 6 M11) fun r14 M13 => (if r14 = 0 then (some ((-1), M13)) else (some (6, M13)))) else (some (5, M11)))) else (some (4, M9)))) else (some (3, M7)))) else (some (2, M5)))) else (some (1, M3)))) else (some (0, M1))))
set_option maxHeartbeats 4000000 in
set_option maxRecDepth 100000 in
theorem mtX3_kindOfWord (E : EV) (l : Launch)    (M : Mem) : CT E l yX3_kindOfWord wsX3_kindOfWord rmX3_kindOfWord vI [.ref (eA E 33)] (fX3_kindOfWord  M) M := by
  refine ct_of (cc := cX3_kindOfWord) (nL := 1) (ret := (some .int)) (by decide +kernel) rfl (Nat.le_of_ble_eq_true rfl) ?_
  show ZZ E l RX3 cX3_kindOfWord 1 (some .int) wsX3_kindOfWord rmX3_kindOfWord vI (fX3_kindOfWord  M) M [(0, .ref (eA E 33))] 0 []
  unfold fX3_kindOfWord
  refine zz_aload_n (npc := 1) 0 rfl rfl dX3_kindOfWord_0 rfl ?_
  refine zz_ldcS (npc := 3) (j := 0) (tx := "person") (List.mem_of_getElem? (i := 0) rfl) dX3_kindOfWord_1 rfl ?_
  refine zz_callVi (npc := 6) (n := 1) (As := [.ref (eK E 0)]) (by decide) (by rfl) rfl gX3_kindOfWord_X3_isWord rfl rfl rfl (by decide +kernel) ⟨Nat.le_of_ble_eq_true rfl, Nat.le_of_ble_eq_true rfl⟩ rfl rfl (Nat.le_of_ble_eq_true rfl) (mtX3_isWord E l 0 (by decide)  M) dX3_kindOfWord_3 rfl (fun r2 M1 _ => ?_)
  refine zz_if_eq (tgt := 11) (npc := 9) dX3_kindOfWord_6 (by decide) rfl ?_ ?_
  · refine zz_aload_n (npc := 12) 0 rfl rfl dX3_kindOfWord_11 rfl ?_
    refine zz_ldcS (npc := 14) (j := 1) (tx := "strong") (List.mem_of_getElem? (i := 1) rfl) dX3_kindOfWord_12 rfl ?_
    refine zz_callVi (npc := 17) (n := 1) (As := [.ref (eK E 1)]) (by decide) (by rfl) rfl gX3_kindOfWord_X3_isWord rfl rfl rfl (by decide +kernel) ⟨Nat.le_of_ble_eq_true rfl, Nat.le_of_ble_eq_true rfl⟩ rfl rfl (Nat.le_of_ble_eq_true rfl) (mtX3_isWord E l 1 (by decide)  M1) dX3_kindOfWord_14 rfl (fun r4 M3 _ => ?_)
    refine zz_if_eq (tgt := 22) (npc := 20) dX3_kindOfWord_17 (by decide) rfl ?_ ?_
    · refine zz_aload_n (npc := 23) 0 rfl rfl dX3_kindOfWord_22 rfl ?_
      refine zz_ldcS (npc := 25) (j := 2) (tx := "old") (List.mem_of_getElem? (i := 2) rfl) dX3_kindOfWord_23 rfl ?_
      refine zz_callVi (npc := 28) (n := 1) (As := [.ref (eK E 2)]) (by decide) (by rfl) rfl gX3_kindOfWord_X3_isWord rfl rfl rfl (by decide +kernel) ⟨Nat.le_of_ble_eq_true rfl, Nat.le_of_ble_eq_true rfl⟩ rfl rfl (Nat.le_of_ble_eq_true rfl) (mtX3_isWord E l 2 (by decide)  M3) dX3_kindOfWord_25 rfl (fun r6 M5 _ => ?_)
      refine zz_if_eq (tgt := 33) (npc := 31) dX3_kindOfWord_28 (by decide) rfl ?_ ?_
      · refine zz_aload_n (npc := 34) 0 rfl rfl dX3_kindOfWord_33 rfl ?_
        refine zz_ldcS (npc := 36) (j := 3) (tx := "lender") (List.mem_of_getElem? (i := 3) rfl) dX3_kindOfWord_34 rfl ?_
        refine zz_callVi (npc := 39) (n := 1) (As := [.ref (eK E 3)]) (by decide) (by rfl) rfl gX3_kindOfWord_X3_isWord rfl rfl rfl (by decide +kernel) ⟨Nat.le_of_ble_eq_true rfl, Nat.le_of_ble_eq_true rfl⟩ rfl rfl (Nat.le_of_ble_eq_true rfl) (mtX3_isWord E l 3 (by decide)  M5) dX3_kindOfWord_36 rfl (fun r8 M7 _ => ?_)
        refine zz_if_eq (tgt := 44) (npc := 42) dX3_kindOfWord_39 (by decide) rfl ?_ ?_
        · refine zz_aload_n (npc := 45) 0 rfl rfl dX3_kindOfWord_44 rfl ?_
          refine zz_ldcS (npc := 47) (j := 4) (tx := "beggar") (List.mem_of_getElem? (i := 4) rfl) dX3_kindOfWord_45 rfl ?_
          refine zz_callVi (npc := 50) (n := 1) (As := [.ref (eK E 4)]) (by decide) (by rfl) rfl gX3_kindOfWord_X3_isWord rfl rfl rfl (by decide +kernel) ⟨Nat.le_of_ble_eq_true rfl, Nat.le_of_ble_eq_true rfl⟩ rfl rfl (Nat.le_of_ble_eq_true rfl) (mtX3_isWord E l 4 (by decide)  M7) dX3_kindOfWord_47 rfl (fun r10 M9 _ => ?_)
          refine zz_if_eq (tgt := 55) (npc := 53) dX3_kindOfWord_50 (by decide) rfl ?_ ?_
          · refine zz_aload_n (npc := 56) 0 rfl rfl dX3_kindOfWord_55 rfl ?_
            refine zz_ldcS (npc := 58) (j := 5) (tx := "twin") (List.mem_of_getElem? (i := 5) rfl) dX3_kindOfWord_56 rfl ?_
            refine zz_callVi (npc := 61) (n := 1) (As := [.ref (eK E 5)]) (by decide) (by rfl) rfl gX3_kindOfWord_X3_isWord rfl rfl rfl (by decide +kernel) ⟨Nat.le_of_ble_eq_true rfl, Nat.le_of_ble_eq_true rfl⟩ rfl rfl (Nat.le_of_ble_eq_true rfl) (mtX3_isWord E l 5 (by decide)  M9) dX3_kindOfWord_58 rfl (fun r12 M11 _ => ?_)
            refine zz_if_eq (tgt := 66) (npc := 64) dX3_kindOfWord_61 (by decide) rfl ?_ ?_
            · refine zz_aload_n (npc := 67) 0 rfl rfl dX3_kindOfWord_66 rfl ?_
              refine zz_ldcS (npc := 69) (j := 6) (tx := "duellist") (List.mem_of_getElem? (i := 6) rfl) dX3_kindOfWord_67 rfl ?_
              refine zz_callVi (npc := 72) (n := 1) (As := [.ref (eK E 6)]) (by decide) (by rfl) rfl gX3_kindOfWord_X3_isWord rfl rfl rfl (by decide +kernel) ⟨Nat.le_of_ble_eq_true rfl, Nat.le_of_ble_eq_true rfl⟩ rfl rfl (Nat.le_of_ble_eq_true rfl) (mtX3_isWord E l 6 (by decide)  M11) dX3_kindOfWord_69 rfl (fun r14 M13 _ => ?_)
              refine zz_if_eq (tgt := 80) (npc := 75) dX3_kindOfWord_72 (by decide) rfl ?_ ?_
              · refine zz_iconst (npc := 81) (-1) (by decide) dX3_kindOfWord_80 rfl ?_
                exact zz_iret dX3_kindOfWord_81
              · refine zz_bipush (npc := 77) 6 (by decide) dX3_kindOfWord_75 rfl ?_
                refine zz_goto (npc := 0) (tgt := 81) dX3_kindOfWord_77 (by decide) ?_
                exact zz_iret dX3_kindOfWord_81
            · refine zz_iconst (npc := 65) 5 (by decide) dX3_kindOfWord_64 rfl ?_
              exact zz_iret dX3_kindOfWord_65
          · refine zz_iconst (npc := 54) 4 (by decide) dX3_kindOfWord_53 rfl ?_
            exact zz_iret dX3_kindOfWord_54
        · refine zz_iconst (npc := 43) 3 (by decide) dX3_kindOfWord_42 rfl ?_
          exact zz_iret dX3_kindOfWord_43
      · refine zz_iconst (npc := 32) 2 (by decide) dX3_kindOfWord_31 rfl ?_
        exact zz_iret dX3_kindOfWord_32
    · refine zz_iconst (npc := 21) 1 (by decide) dX3_kindOfWord_20 rfl ?_
      exact zz_iret dX3_kindOfWord_21
  · refine zz_iconst (npc := 10) 0 (by decide) dX3_kindOfWord_9 rfl ?_
    exact zz_iret dX3_kindOfWord_10
abbrev rmX3_step : Room := { frames := 0, cells := 0, slots := 0, locals := 0 }
theorem iX3_step_3 : ∀ w ∈ u_ws RX3 TX3 8, w ∈ wsX3_step := fun w h => List.mem_cons_of_mem _ (List.mem_append_right _ h)
noncomputable def fX3_step   (M : Mem) : Option (Unit × Mem) := (if ((M 33 6) - 1) ≤ (M 33 7) then (some ((), M)) else (wm (wr M 33 7 ((M 33 7) + 1)) fun M1 => (some ((), M1))))
set_option maxHeartbeats 4000000 in
set_option maxRecDepth 100000 in
theorem mtX3_step (E : EV) (l : Launch)    (M : Mem) : CT E l yX3_step wsX3_step rmX3_step vV [.ref (eA E 33)] (fX3_step  M) M := by
  refine ct_of (cc := cX3_step) (nL := 1) (ret := none) (by decide +kernel) rfl (Nat.le_of_ble_eq_true rfl) ?_
  show ZZ E l RX3 cX3_step 1 none wsX3_step rmX3_step vV (fX3_step  M) M [(0, .ref (eA E 33))] 0 []
  unfold fX3_step
  refine zz_aload_n (npc := 1) 0 rfl rfl dX3_step_0 rfl ?_
  refine zz_getI (npc := 4) (i := 7) (C0 := RX3) (T := TX3) (N := 8) (by decide) (by rfl) rfl (by decide) iX3_step_3 (List.mem_of_getElem? (i := 1) rfl) rfl dX3_step_1 rfl ?_
  refine zz_aload_n (npc := 5) 0 rfl rfl dX3_step_4 rfl ?_
  refine zz_getI (npc := 8) (i := 6) (C0 := RX3) (T := TX3) (N := 8) (by decide) (by rfl) rfl (by decide) iX3_step_3 (List.mem_of_getElem? (i := 2) rfl) rfl dX3_step_5 rfl ?_
  refine zz_iconst (npc := 9) 1 (by decide) dX3_step_8 rfl ?_
  refine zz_isub (npc := 10) dX3_step_9 rfl ?_
  refine zz_icmp_ge (tgt := 23) (npc := 13) dX3_step_10 (by decide) rfl ?_ ?_
  · exact zz_vret dX3_step_23
  · refine zz_aload_n (npc := 14) 0 rfl rfl dX3_step_13 rfl ?_
    refine zz_dup (npc := 15) rfl dX3_step_14 rfl ?_
    refine zz_getI (npc := 18) (i := 7) (C0 := RX3) (T := TX3) (N := 8) (by decide) (by rfl) rfl (by decide) iX3_step_3 (List.mem_of_getElem? (i := 1) rfl) rfl dX3_step_15 rfl ?_
    refine zz_iconst (npc := 19) 1 (by decide) dX3_step_18 rfl ?_
    refine zz_iadd (npc := 20) dX3_step_19 rfl ?_
    refine zz_putI (npc := 23) (i := 7) (C0 := RX3) (T := TX3) (N := 8) (by decide) (by rfl) rfl (by decide) iX3_step_3 (List.mem_of_getElem? (i := 1) rfl) tyX3_ok nmX3 rfl rfl rfl dX3_step_20 rfl (fun M1 => ?_)
    exact zz_vret dX3_step_23
abbrev rmX3_takeNumber : Room := { frames := 1, cells := 0, slots := 0, locals := 21 }
theorem iX3_takeNumber_3 : ∀ w ∈ u_ws RX3 TX3 8, w ∈ wsX3_takeNumber := fun w h => List.mem_cons_of_mem _ (List.mem_append_right _ h)
noncomputable def fX3_takeNumber  (x1 : Int32) (M : Mem) : Option (Int32 × Mem) := (bd (fX3_isNext 2 M) fun r2 M1 => (if r2 = 0 then (ck (isb 0) (some (0, M1))) else (ck (inb (M1 33 7) 121) (if (M1 46 (ix (M1 33 7))) ≤ x1 then (bd (fX3_step M1) fun _ M3 => (ck (isb 1) (some (1, M3)))) else (ck (isb 0) (some (0, M1)))))))
set_option maxHeartbeats 4000000 in
set_option maxRecDepth 100000 in
theorem mtX3_takeNumber (E : EV) (l : Launch)   (x1 : Int32) (M : Mem) : CT E l yX3_takeNumber wsX3_takeNumber rmX3_takeNumber vI [.ref (eA E 33), .int x1] (fX3_takeNumber x1 M) M := by
  refine ct_of (cc := cX3_takeNumber) (nL := 2) (ret := (some .boolean)) (by decide +kernel) rfl (Nat.le_of_ble_eq_true rfl) ?_
  show ZZ E l RX3 cX3_takeNumber 2 (some .boolean) wsX3_takeNumber rmX3_takeNumber vI (fX3_takeNumber x1 M) M [(0, .ref (eA E 33)), (1, .int x1)] 0 []
  unfold fX3_takeNumber
  refine zz_aload_n (npc := 1) 0 rfl rfl dX3_takeNumber_0 rfl ?_
  refine zz_iconst (npc := 2) 2 (by decide) dX3_takeNumber_1 rfl ?_
  refine zz_callVi (npc := 5) (n := 1) (As := [.int 2]) (by decide) (by rfl) rfl gX3_takeNumber_X3_isNext rfl rfl rfl (by decide +kernel) ⟨Nat.le_of_ble_eq_true rfl, Nat.le_of_ble_eq_true rfl⟩ rfl rfl (Nat.le_of_ble_eq_true rfl) (mtX3_isNext E l  2 M) dX3_takeNumber_2 rfl (fun r2 M1 _ => ?_)
  refine zz_if_eq (tgt := 21) (npc := 8) dX3_takeNumber_5 (by decide) rfl ?_ ?_
  · refine zz_iconst (npc := 22) 0 (by decide) dX3_takeNumber_21 rfl ?_
    exact zz_zret dX3_takeNumber_22
  · refine zz_aload_n (npc := 9) 0 rfl rfl dX3_takeNumber_8 rfl ?_
    refine zz_getR (npc := 12) (i := 5) (C0 := RX3) (T := TX3) (N := 8) (by decide) (by rfl) rfl (by decide) iX3_takeNumber_3 (List.mem_of_getElem? (i := 1) rfl) rfl dX3_takeNumber_9 rfl ?_
    refine zz_aload_n (npc := 13) 0 rfl rfl dX3_takeNumber_12 rfl ?_
    refine zz_getI (npc := 16) (i := 7) (C0 := RX3) (T := TX3) (N := 8) (by decide) (by rfl) rfl (by decide) iX3_takeNumber_3 (List.mem_of_getElem? (i := 2) rfl) rfl dX3_takeNumber_13 rfl ?_
    refine zz_iald (npc := 17) (by decide) (by rfl) dX3_takeNumber_16 rfl ?_
    refine zz_iload_n (npc := 18) 1 rfl rfl dX3_takeNumber_17 rfl ?_
    refine zz_icmp_le (tgt := 23) (npc := 21) dX3_takeNumber_18 (by decide) rfl ?_ ?_
    · refine zz_aload_n (npc := 24) 0 rfl rfl dX3_takeNumber_23 rfl ?_
      refine zz_callVv (npc := 27) (n := 0) (As := []) (by decide) (by rfl) rfl gX3_takeNumber_X3_step rfl rfl rfl (by decide +kernel) ⟨Nat.le_of_ble_eq_true rfl, Nat.le_of_ble_eq_true rfl⟩ rfl rfl (Nat.le_of_ble_eq_true rfl) (mtX3_step E l   M1) dX3_takeNumber_24 rfl (fun _ M3 _ => ?_)
      refine zz_iconst (npc := 28) 1 (by decide) dX3_takeNumber_27 rfl ?_
      exact zz_zret dX3_takeNumber_28
    · refine zz_iconst (npc := 22) 0 (by decide) dX3_takeNumber_21 rfl ?_
      exact zz_zret dX3_takeNumber_22
abbrev rmX3_readTrait : Room := { frames := 5, cells := 0, slots := 0, locals := 107 }
theorem iX3_readTrait_3 : ∀ w ∈ u_ws RX3 TX3 8, w ∈ wsX3_readTrait := fun w h => List.mem_cons_of_mem _ (List.mem_append_left _ (List.mem_append_right _ h))
noncomputable def fX3_readTrait (d1 : Nat) (d2 : Nat) (x3 : Int32) (x4 : Int32) (M : Mem) : Option (Int32 × Mem) := (bd (fX3_isWord d1 M) fun r2 M1 => (if r2 = 0 then (ck (isb 1) (some (1, M1))) else (bd (fX3_step M1) fun _ M3 => (ck (inb (M3 33 7) 121) (bv (M3 46 (ix (M3 33 7))) fun v4 => (bd (fX3_takeNumber x4 M3) fun r6 M5 => (if r6 = 0 then (ck (isb 0) (some (0, M5))) else (bd (fX7_isWithin x3 (8 - 1) M5) fun r8 M7 => (if r8 = 0 then (ck (isb 0) (some (0, M7))) else (ck (inb x3 8) (wm (wr M7 d2 (ix x3) v4) fun M9 => (ck (isb 1) (some (1, M9))))))))))))))
set_option maxHeartbeats 4000000 in
set_option maxRecDepth 100000 in
theorem mtX3_readTrait (E : EV) (l : Launch) (d1 : Nat) (d2 : Nat) (hd1 : d1 < NS) (hd2 : d2 < NC ∧ lay d2 = (1, 8, [])) (x3 : Int32) (x4 : Int32) (M : Mem) : CT E l yX3_readTrait wsX3_readTrait rmX3_readTrait vI [.ref (eA E 33), .ref (eK E d1), .ref (eA E d2), .int x3, .int x4] (fX3_readTrait d1 d2 x3 x4 M) M := by
  refine ct_of (cc := cX3_readTrait) (nL := 6) (ret := (some .boolean)) (by decide +kernel) rfl (Nat.le_of_ble_eq_true rfl) ?_
  show ZZ E l RX3 cX3_readTrait 6 (some .boolean) wsX3_readTrait rmX3_readTrait vI (fX3_readTrait d1 d2 x3 x4 M) M [(0, .ref (eA E 33)), (1, .ref (eK E d1)), (2, .ref (eA E d2)), (3, .int x3), (4, .int x4)] 0 []
  unfold fX3_readTrait
  refine zz_aload_n (npc := 1) 0 rfl rfl dX3_readTrait_0 rfl ?_
  refine zz_aload_n (npc := 2) 1 rfl rfl dX3_readTrait_1 rfl ?_
  refine zz_callVi (npc := 5) (n := 1) (As := [.ref (eK E d1)]) (by decide) (by rfl) rfl gX3_readTrait_X3_isWord rfl rfl rfl (by decide +kernel) ⟨Nat.le_of_ble_eq_true rfl, Nat.le_of_ble_eq_true rfl⟩ rfl rfl (Nat.le_of_ble_eq_true rfl) (mtX3_isWord E l d1 hd1  M) dX3_readTrait_2 rfl (fun r2 M1 _ => ?_)
  refine zz_if_ne (tgt := 10) (npc := 8) dX3_readTrait_5 (by decide) rfl ?_ ?_
  · refine zz_aload_n (npc := 11) 0 rfl rfl dX3_readTrait_10 rfl ?_
    refine zz_callVv (npc := 14) (n := 0) (As := []) (by decide) (by rfl) rfl gX3_readTrait_X3_step rfl rfl rfl (by decide +kernel) ⟨Nat.le_of_ble_eq_true rfl, Nat.le_of_ble_eq_true rfl⟩ rfl rfl (Nat.le_of_ble_eq_true rfl) (mtX3_step E l   M1) dX3_readTrait_11 rfl (fun _ M3 _ => ?_)
    refine zz_aload_n (npc := 15) 0 rfl rfl dX3_readTrait_14 rfl ?_
    refine zz_getR (npc := 18) (i := 5) (C0 := RX3) (T := TX3) (N := 8) (by decide) (by rfl) rfl (by decide) iX3_readTrait_3 (List.mem_of_getElem? (i := 1) rfl) rfl dX3_readTrait_15 rfl ?_
    refine zz_aload_n (npc := 19) 0 rfl rfl dX3_readTrait_18 rfl ?_
    refine zz_getI (npc := 22) (i := 7) (C0 := RX3) (T := TX3) (N := 8) (by decide) (by rfl) rfl (by decide) iX3_readTrait_3 (List.mem_of_getElem? (i := 2) rfl) rfl dX3_readTrait_19 rfl ?_
    refine zz_iald (npc := 23) (by decide) (by rfl) dX3_readTrait_22 rfl ?_
    refine zz_istoreB (npc := 25) (lv1 := fun v4 => [(5, .int v4), (0, .ref (eA E 33)), (1, .ref (eK E d1)), (2, .ref (eA E d2)), (3, .int x3), (4, .int x4)]) dX3_readTrait_23 rfl (by decide) (fun _ => rfl) (fun v4 => ?_)
    refine zz_aload_n (npc := 26) 1 rfl rfl dX3_readTrait_25 rfl ?_
    refine zz_iload (npc := 28) 5 rfl dX3_readTrait_26 rfl ?_
    refine zz_callVi (npc := 31) (n := 1) (As := [.int x4]) (by decide) (by rfl) rfl gX3_readTrait_X3_takeNumber rfl rfl rfl (by decide +kernel) ⟨Nat.le_of_ble_eq_true rfl, Nat.le_of_ble_eq_true rfl⟩ rfl rfl (Nat.le_of_ble_eq_true rfl) (mtX3_takeNumber E l  x4 M3) dX3_readTrait_28 rfl (fun r6 M5 _ => ?_)
    refine zz_if_eq (tgt := 45) (npc := 34) dX3_readTrait_31 (by decide) rfl ?_ ?_
    · refine zz_iconst (npc := 46) 0 (by decide) dX3_readTrait_45 rfl ?_
      exact zz_zret dX3_readTrait_46
    · refine zz_iload_n (npc := 35) 4 rfl rfl dX3_readTrait_34 rfl ?_
      refine zz_aload_n (npc := 36) 3 rfl rfl dX3_readTrait_35 rfl ?_
      refine zz_alen (npc := 37) 8 hd2.1 hd2.2 (by decide) dX3_readTrait_36 rfl ?_
      refine zz_iconst (npc := 38) 1 (by decide) dX3_readTrait_37 rfl ?_
      refine zz_isub (npc := 39) dX3_readTrait_38 rfl ?_
      refine zz_callNi (npc := 42) (n := 2) (As := [.int x3, .int (8 - 1)]) (host := "SharedShadow") gX3_readTrait_X7_isWithin_n145 (List.mem_of_getElem? (i := 12) rfl) (List.mem_of_getElem? (i := 81) rfl) (List.mem_of_getElem? (i := 82) rfl) rfl rfl rfl (by decide +kernel) ⟨Nat.le_of_ble_eq_true rfl, Nat.le_of_ble_eq_true rfl⟩ rfl rfl (Nat.le_of_ble_eq_true rfl) (mtX7_isWithin E l  x3 (8 - 1) M5) dX3_readTrait_39 rfl (fun r8 M7 _ => ?_)
      refine zz_if_ne (tgt := 47) (npc := 45) dX3_readTrait_42 (by decide) rfl ?_ ?_
      · refine zz_aload_n (npc := 48) 3 rfl rfl dX3_readTrait_47 rfl ?_
        refine zz_iload_n (npc := 49) 4 rfl rfl dX3_readTrait_48 rfl ?_
        refine zz_iload (npc := 51) 0 rfl dX3_readTrait_49 rfl ?_
        refine zz_iast (npc := 52) hd2.1 hd2.2 dX3_readTrait_51 rfl (fun M9 => ?_)
        refine zz_iconst (npc := 53) 1 (by decide) dX3_readTrait_52 rfl ?_
        exact zz_zret dX3_readTrait_53
      · refine zz_iconst (npc := 46) 0 (by decide) dX3_readTrait_45 rfl ?_
        exact zz_zret dX3_readTrait_46
  · refine zz_iconst (npc := 9) 1 (by decide) dX3_readTrait_8 rfl ?_
    exact zz_zret dX3_readTrait_9
abbrev rmX3_readPerson : Room := { frames := 6, cells := 0, slots := 0, locals := 132 }
theorem iX3_readPerson_1 : ∀ w ∈ u_ws RX1 TX1 12, w ∈ wsX3_readPerson := fun w h => List.mem_cons_of_mem _ (List.mem_append_left _ (List.mem_append_right _ h))
theorem iX3_readPerson_3 : ∀ w ∈ u_ws RX3 TX3 8, w ∈ wsX3_readPerson := fun w h => List.mem_cons_of_mem _ (List.mem_append_left _ (List.mem_append_left _ (List.mem_append_right _ h)))
noncomputable def fX3_readPerson   (M : Mem) : Option (Int32 × Mem) := (bd (fX1_isFull 36 M) fun r2 M1 => (if r2 = 0 then (bd (fX3_kindOfWord M1) fun r4 M3 => (bd (fX1_add 36 r4 M3) fun r6 M5 => (bd (fX3_step M5) fun _ M7 => (bd (fX3_readTrait 7 38 r6 99 M7) fun r9 M8 => (if r9 = 0 then (ck (isb 0) (some (0, M8))) else (bd (fX3_readTrait 8 39 r6 9 M8) fun r11 M10 => (if r11 = 0 then (ck (isb 0) (some (0, M10))) else (bd (fX3_readTrait 9 40 r6 65535 M10) fun r13 M12 => (if r13 = 0 then (ck (isb 0) (some (0, M12))) else (ck (isb 1) (some (1, M12)))))))))))) else (ck (isb 0) (some (0, M1)))))
set_option maxHeartbeats 4000000 in
set_option maxRecDepth 100000 in
theorem mtX3_readPerson (E : EV) (l : Launch)    (M : Mem) : CT E l yX3_readPerson wsX3_readPerson rmX3_readPerson vI [.ref (eA E 33)] (fX3_readPerson  M) M := by
  refine ct_of (cc := cX3_readPerson) (nL := 2) (ret := (some .boolean)) (by decide +kernel) rfl (Nat.le_of_ble_eq_true rfl) ?_
  show ZZ E l RX3 cX3_readPerson 2 (some .boolean) wsX3_readPerson rmX3_readPerson vI (fX3_readPerson  M) M [(0, .ref (eA E 33))] 0 []
  unfold fX3_readPerson
  refine zz_aload_n (npc := 1) 0 rfl rfl dX3_readPerson_0 rfl ?_
  refine zz_getR (npc := 4) (i := 1) (C0 := RX3) (T := TX3) (N := 8) (by decide) (by rfl) rfl (by decide) iX3_readPerson_3 (List.mem_of_getElem? (i := 1) rfl) rfl dX3_readPerson_1 rfl ?_
  refine zz_callVi (npc := 7) (n := 0) (As := []) (by decide) (by rfl) rfl gX3_readPerson_X1_isFull rfl rfl rfl (by decide +kernel) ⟨Nat.le_of_ble_eq_true rfl, Nat.le_of_ble_eq_true rfl⟩ rfl rfl (Nat.le_of_ble_eq_true rfl) (mtX1_isFull E l 36 ld_c36  M) dX3_readPerson_4 rfl (fun r2 M1 _ => ?_)
  refine zz_if_eq (tgt := 12) (npc := 10) dX3_readPerson_7 (by decide) rfl ?_ ?_
  · refine zz_aload_n (npc := 13) 0 rfl rfl dX3_readPerson_12 rfl ?_
    refine zz_getR (npc := 16) (i := 1) (C0 := RX3) (T := TX3) (N := 8) (by decide) (by rfl) rfl (by decide) iX3_readPerson_3 (List.mem_of_getElem? (i := 1) rfl) rfl dX3_readPerson_13 rfl ?_
    refine zz_aload_n (npc := 17) 0 rfl rfl dX3_readPerson_16 rfl ?_
    refine zz_callVi (npc := 20) (n := 0) (As := []) (by decide) (by rfl) rfl gX3_readPerson_X3_kindOfWord rfl rfl rfl (by decide +kernel) ⟨Nat.le_of_ble_eq_true rfl, Nat.le_of_ble_eq_true rfl⟩ rfl rfl (Nat.le_of_ble_eq_true rfl) (mtX3_kindOfWord E l   M1) dX3_readPerson_17 rfl (fun r4 M3 _ => ?_)
    refine zz_callVi (npc := 23) (n := 1) (As := [.int r4]) (by decide) (by rfl) rfl gX3_readPerson_X1_add rfl rfl rfl (by decide +kernel) ⟨Nat.le_of_ble_eq_true rfl, Nat.le_of_ble_eq_true rfl⟩ rfl rfl (Nat.le_of_ble_eq_true rfl) (mtX1_add E l 36 ld_c36 r4 M3) dX3_readPerson_20 rfl (fun r6 M5 _ => ?_)
    refine zz_istore_n (npc := 24) (lv1 := [(1, .int r6), (0, .ref (eA E 33))]) rfl dX3_readPerson_23 rfl (by decide) rfl ?_
    refine zz_aload_n (npc := 25) 1 rfl rfl dX3_readPerson_24 rfl ?_
    refine zz_callVv (npc := 28) (n := 0) (As := []) (by decide) (by rfl) rfl gX3_readPerson_X3_step rfl rfl rfl (by decide +kernel) ⟨Nat.le_of_ble_eq_true rfl, Nat.le_of_ble_eq_true rfl⟩ rfl rfl (Nat.le_of_ble_eq_true rfl) (mtX3_step E l   M5) dX3_readPerson_25 rfl (fun _ M7 _ => ?_)
    refine zz_aload_n (npc := 29) 1 rfl rfl dX3_readPerson_28 rfl ?_
    refine zz_ldcS (npc := 31) (j := 7) (tx := "sun") (List.mem_of_getElem? (i := 7) rfl) dX3_readPerson_29 rfl ?_
    refine zz_aload_n (npc := 32) 1 rfl rfl dX3_readPerson_31 rfl ?_
    refine zz_getR (npc := 35) (i := 1) (C0 := RX3) (T := TX3) (N := 8) (by decide) (by rfl) rfl (by decide) iX3_readPerson_3 (List.mem_of_getElem? (i := 1) rfl) rfl dX3_readPerson_32 rfl ?_
    refine zz_getR (npc := 38) (i := 1) (C0 := RX1) (T := TX1) (N := 12) (by decide) (by rfl) rfl (by decide) iX3_readPerson_1 (List.mem_of_getElem? (i := 2) rfl) rfl dX3_readPerson_35 rfl ?_
    refine zz_iload_n (npc := 39) 0 rfl rfl dX3_readPerson_38 rfl ?_
    refine zz_bipush (npc := 41) 99 (by decide) dX3_readPerson_39 rfl ?_
    refine zz_callVi (npc := 44) (n := 4) (As := [.ref (eK E 7), .ref (eA E 38), .int r6, .int 99]) (by decide) (by rfl) rfl gX3_readPerson_X3_readTrait rfl rfl rfl (by decide +kernel) ⟨Nat.le_of_ble_eq_true rfl, Nat.le_of_ble_eq_true rfl⟩ rfl rfl (Nat.le_of_ble_eq_true rfl) (mtX3_readTrait E l 7 38 (by decide) ⟨(by decide), (by rfl)⟩ r6 99 M7) dX3_readPerson_41 rfl (fun r9 M8 _ => ?_)
    refine zz_if_eq (tgt := 89) (npc := 47) dX3_readPerson_44 (by decide) rfl ?_ ?_
    · refine zz_iconst (npc := 90) 0 (by decide) dX3_readPerson_89 rfl ?_
      exact zz_zret dX3_readPerson_90
    · refine zz_aload_n (npc := 48) 1 rfl rfl dX3_readPerson_47 rfl ?_
      refine zz_ldcS (npc := 50) (j := 8) (tx := "strength") (List.mem_of_getElem? (i := 8) rfl) dX3_readPerson_48 rfl ?_
      refine zz_aload_n (npc := 51) 1 rfl rfl dX3_readPerson_50 rfl ?_
      refine zz_getR (npc := 54) (i := 1) (C0 := RX3) (T := TX3) (N := 8) (by decide) (by rfl) rfl (by decide) iX3_readPerson_3 (List.mem_of_getElem? (i := 1) rfl) rfl dX3_readPerson_51 rfl ?_
      refine zz_getR (npc := 57) (i := 2) (C0 := RX1) (T := TX1) (N := 12) (by decide) (by rfl) rfl (by decide) iX3_readPerson_1 (List.mem_of_getElem? (i := 3) rfl) rfl dX3_readPerson_54 rfl ?_
      refine zz_iload_n (npc := 58) 0 rfl rfl dX3_readPerson_57 rfl ?_
      refine zz_bipush (npc := 60) 9 (by decide) dX3_readPerson_58 rfl ?_
      refine zz_callVi (npc := 63) (n := 4) (As := [.ref (eK E 8), .ref (eA E 39), .int r6, .int 9]) (by decide) (by rfl) rfl gX3_readPerson_X3_readTrait rfl rfl rfl (by decide +kernel) ⟨Nat.le_of_ble_eq_true rfl, Nat.le_of_ble_eq_true rfl⟩ rfl rfl (Nat.le_of_ble_eq_true rfl) (mtX3_readTrait E l 8 39 (by decide) ⟨(by decide), (by rfl)⟩ r6 9 M8) dX3_readPerson_60 rfl (fun r11 M10 _ => ?_)
      refine zz_if_eq (tgt := 89) (npc := 66) dX3_readPerson_63 (by decide) rfl ?_ ?_
      · refine zz_iconst (npc := 90) 0 (by decide) dX3_readPerson_89 rfl ?_
        exact zz_zret dX3_readPerson_90
      · refine zz_aload_n (npc := 67) 1 rfl rfl dX3_readPerson_66 rfl ?_
        refine zz_ldcS (npc := 69) (j := 9) (tx := "needs") (List.mem_of_getElem? (i := 9) rfl) dX3_readPerson_67 rfl ?_
        refine zz_aload_n (npc := 70) 1 rfl rfl dX3_readPerson_69 rfl ?_
        refine zz_getR (npc := 73) (i := 1) (C0 := RX3) (T := TX3) (N := 8) (by decide) (by rfl) rfl (by decide) iX3_readPerson_3 (List.mem_of_getElem? (i := 1) rfl) rfl dX3_readPerson_70 rfl ?_
        refine zz_getR (npc := 76) (i := 3) (C0 := RX1) (T := TX1) (N := 12) (by decide) (by rfl) rfl (by decide) iX3_readPerson_1 (List.mem_of_getElem? (i := 4) rfl) rfl dX3_readPerson_73 rfl ?_
        refine zz_iload_n (npc := 77) 0 rfl rfl dX3_readPerson_76 rfl ?_
        refine zz_ldc (npc := 79) 65535 (List.mem_of_getElem? (i := 5) rfl) dX3_readPerson_77 rfl ?_
        refine zz_callVi (npc := 82) (n := 4) (As := [.ref (eK E 9), .ref (eA E 40), .int r6, .int 65535]) (by decide) (by rfl) rfl gX3_readPerson_X3_readTrait rfl rfl rfl (by decide +kernel) ⟨Nat.le_of_ble_eq_true rfl, Nat.le_of_ble_eq_true rfl⟩ rfl rfl (Nat.le_of_ble_eq_true rfl) (mtX3_readTrait E l 9 40 (by decide) ⟨(by decide), (by rfl)⟩ r6 65535 M10) dX3_readPerson_79 rfl (fun r13 M12 _ => ?_)
        refine zz_if_eq (tgt := 89) (npc := 85) dX3_readPerson_82 (by decide) rfl ?_ ?_
        · refine zz_iconst (npc := 90) 0 (by decide) dX3_readPerson_89 rfl ?_
          exact zz_zret dX3_readPerson_90
        · refine zz_iconst (npc := 86) 1 (by decide) dX3_readPerson_85 rfl ?_
          refine zz_goto (npc := 0) (tgt := 90) dX3_readPerson_86 (by decide) ?_
          exact zz_zret dX3_readPerson_90
  · refine zz_iconst (npc := 11) 0 (by decide) dX3_readPerson_10 rfl ?_
    exact zz_zret dX3_readPerson_11
abbrev rmX3_readShare : Room := { frames := 3, cells := 0, slots := 0, locals := 65 }
theorem iX3_readShare_1 : ∀ w ∈ u_ws RX1 TX1 12, w ∈ wsX3_readShare := fun w h => List.mem_cons_of_mem _ (List.mem_append_right _ h)
theorem iX3_readShare_3 : ∀ w ∈ u_ws RX3 TX3 8, w ∈ wsX3_readShare := fun w h => List.mem_cons_of_mem _ (List.mem_append_left _ (List.mem_append_right _ h))
noncomputable def fX3_readShare   (M : Mem) : Option (Int32 × Mem) := (bd (fX3_step M) fun _ M1 => (ck (inb (M1 33 7) 121) (bv (M1 46 (ix (M1 33 7))) fun v2 => (bd (fX3_takeNumber ((M1 36 6) - 1) M1) fun r4 M3 => (if r4 = 0 then (ck (isb 0) (some (0, M3))) else (ck (inb (M3 33 7) 121) (bv (M3 46 (ix (M3 33 7))) fun v5 => (if v5 = v2 then (ck (isb 0) (some (0, M3))) else (bd (fX3_takeNumber ((M3 36 6) - 1) M3) fun r7 M6 => (if r7 = 0 then (ck (isb 0) (some (0, M6))) else (bd (fX1_join 36 v2 v5 M6) fun _ M8 => (ck (isb 1) (some (1, M8))))))))))))))
set_option maxHeartbeats 4000000 in
set_option maxRecDepth 100000 in
theorem mtX3_readShare (E : EV) (l : Launch)    (M : Mem) : CT E l yX3_readShare wsX3_readShare rmX3_readShare vI [.ref (eA E 33)] (fX3_readShare  M) M := by
  refine ct_of (cc := cX3_readShare) (nL := 3) (ret := (some .boolean)) (by decide +kernel) rfl (Nat.le_of_ble_eq_true rfl) ?_
  show ZZ E l RX3 cX3_readShare 3 (some .boolean) wsX3_readShare rmX3_readShare vI (fX3_readShare  M) M [(0, .ref (eA E 33))] 0 []
  unfold fX3_readShare
  refine zz_aload_n (npc := 1) 0 rfl rfl dX3_readShare_0 rfl ?_
  refine zz_callVv (npc := 4) (n := 0) (As := []) (by decide) (by rfl) rfl gX3_readShare_X3_step rfl rfl rfl (by decide +kernel) ⟨Nat.le_of_ble_eq_true rfl, Nat.le_of_ble_eq_true rfl⟩ rfl rfl (Nat.le_of_ble_eq_true rfl) (mtX3_step E l   M) dX3_readShare_1 rfl (fun _ M1 _ => ?_)
  refine zz_aload_n (npc := 5) 0 rfl rfl dX3_readShare_4 rfl ?_
  refine zz_getR (npc := 8) (i := 5) (C0 := RX3) (T := TX3) (N := 8) (by decide) (by rfl) rfl (by decide) iX3_readShare_3 (List.mem_of_getElem? (i := 1) rfl) rfl dX3_readShare_5 rfl ?_
  refine zz_aload_n (npc := 9) 0 rfl rfl dX3_readShare_8 rfl ?_
  refine zz_getI (npc := 12) (i := 7) (C0 := RX3) (T := TX3) (N := 8) (by decide) (by rfl) rfl (by decide) iX3_readShare_3 (List.mem_of_getElem? (i := 2) rfl) rfl dX3_readShare_9 rfl ?_
  refine zz_iald (npc := 13) (by decide) (by rfl) dX3_readShare_12 rfl ?_
  refine zz_istore_nB (npc := 14) (lv1 := fun v2 => [(1, .int v2), (0, .ref (eA E 33))]) rfl dX3_readShare_13 rfl (by decide) (fun _ => rfl) (fun v2 => ?_)
  refine zz_aload_n (npc := 15) 1 rfl rfl dX3_readShare_14 rfl ?_
  refine zz_aload_n (npc := 16) 1 rfl rfl dX3_readShare_15 rfl ?_
  refine zz_getR (npc := 19) (i := 1) (C0 := RX3) (T := TX3) (N := 8) (by decide) (by rfl) rfl (by decide) iX3_readShare_3 (List.mem_of_getElem? (i := 3) rfl) rfl dX3_readShare_16 rfl ?_
  refine zz_getI (npc := 22) (i := 6) (C0 := RX1) (T := TX1) (N := 12) (by decide) (by rfl) rfl (by decide) iX3_readShare_1 (List.mem_of_getElem? (i := 4) rfl) rfl dX3_readShare_19 rfl ?_
  refine zz_iconst (npc := 23) 1 (by decide) dX3_readShare_22 rfl ?_
  refine zz_isub (npc := 24) dX3_readShare_23 rfl ?_
  refine zz_callVi (npc := 27) (n := 1) (As := [.int ((M1 36 6) - 1)]) (by decide) (by rfl) rfl gX3_readShare_X3_takeNumber rfl rfl rfl (by decide +kernel) ⟨Nat.le_of_ble_eq_true rfl, Nat.le_of_ble_eq_true rfl⟩ rfl rfl (Nat.le_of_ble_eq_true rfl) (mtX3_takeNumber E l  ((M1 36 6) - 1) M1) dX3_readShare_24 rfl (fun r4 M3 _ => ?_)
  refine zz_if_ne (tgt := 32) (npc := 30) dX3_readShare_27 (by decide) rfl ?_ ?_
  · refine zz_aload_n (npc := 33) 1 rfl rfl dX3_readShare_32 rfl ?_
    refine zz_getR (npc := 36) (i := 5) (C0 := RX3) (T := TX3) (N := 8) (by decide) (by rfl) rfl (by decide) iX3_readShare_3 (List.mem_of_getElem? (i := 1) rfl) rfl dX3_readShare_33 rfl ?_
    refine zz_aload_n (npc := 37) 1 rfl rfl dX3_readShare_36 rfl ?_
    refine zz_getI (npc := 40) (i := 7) (C0 := RX3) (T := TX3) (N := 8) (by decide) (by rfl) rfl (by decide) iX3_readShare_3 (List.mem_of_getElem? (i := 2) rfl) rfl dX3_readShare_37 rfl ?_
    refine zz_iald (npc := 41) (by decide) (by rfl) dX3_readShare_40 rfl ?_
    refine zz_istore_nB (npc := 42) (lv1 := fun v5 => [(2, .int v5), (1, .int v2), (0, .ref (eA E 33))]) rfl dX3_readShare_41 rfl (by decide) (fun _ => rfl) (fun v5 => ?_)
    refine zz_iload_n (npc := 43) 0 rfl rfl dX3_readShare_42 rfl ?_
    refine zz_iload_n (npc := 44) 1 rfl rfl dX3_readShare_43 rfl ?_
    refine zz_icmp_eq (tgt := 63) (npc := 47) dX3_readShare_44 (by decide) rfl ?_ ?_
    · refine zz_iconst (npc := 64) 0 (by decide) dX3_readShare_63 rfl ?_
      exact zz_zret dX3_readShare_64
    · refine zz_aload_n (npc := 48) 2 rfl rfl dX3_readShare_47 rfl ?_
      refine zz_aload_n (npc := 49) 2 rfl rfl dX3_readShare_48 rfl ?_
      refine zz_getR (npc := 52) (i := 1) (C0 := RX3) (T := TX3) (N := 8) (by decide) (by rfl) rfl (by decide) iX3_readShare_3 (List.mem_of_getElem? (i := 3) rfl) rfl dX3_readShare_49 rfl ?_
      refine zz_getI (npc := 55) (i := 6) (C0 := RX1) (T := TX1) (N := 12) (by decide) (by rfl) rfl (by decide) iX3_readShare_1 (List.mem_of_getElem? (i := 4) rfl) rfl dX3_readShare_52 rfl ?_
      refine zz_iconst (npc := 56) 1 (by decide) dX3_readShare_55 rfl ?_
      refine zz_isub (npc := 57) dX3_readShare_56 rfl ?_
      refine zz_callVi (npc := 60) (n := 1) (As := [.int ((M3 36 6) - 1)]) (by decide) (by rfl) rfl gX3_readShare_X3_takeNumber rfl rfl rfl (by decide +kernel) ⟨Nat.le_of_ble_eq_true rfl, Nat.le_of_ble_eq_true rfl⟩ rfl rfl (Nat.le_of_ble_eq_true rfl) (mtX3_takeNumber E l  ((M3 36 6) - 1) M3) dX3_readShare_57 rfl (fun r7 M6 _ => ?_)
      refine zz_if_ne (tgt := 65) (npc := 63) dX3_readShare_60 (by decide) rfl ?_ ?_
      · refine zz_aload_n (npc := 66) 2 rfl rfl dX3_readShare_65 rfl ?_
        refine zz_getR (npc := 69) (i := 1) (C0 := RX3) (T := TX3) (N := 8) (by decide) (by rfl) rfl (by decide) iX3_readShare_3 (List.mem_of_getElem? (i := 3) rfl) rfl dX3_readShare_66 rfl ?_
        refine zz_iload_n (npc := 70) 1 rfl rfl dX3_readShare_69 rfl ?_
        refine zz_iload_n (npc := 71) 0 rfl rfl dX3_readShare_70 rfl ?_
        refine zz_callVv (npc := 74) (n := 2) (As := [.int v2, .int v5]) (by decide) (by rfl) rfl gX3_readShare_X1_join rfl rfl rfl (by decide +kernel) ⟨Nat.le_of_ble_eq_true rfl, Nat.le_of_ble_eq_true rfl⟩ rfl rfl (Nat.le_of_ble_eq_true rfl) (mtX1_join E l 36 ld_c36 v2 v5 M6) dX3_readShare_71 rfl (fun _ M8 _ => ?_)
        refine zz_iconst (npc := 75) 1 (by decide) dX3_readShare_74 rfl ?_
        exact zz_zret dX3_readShare_75
      · refine zz_iconst (npc := 64) 0 (by decide) dX3_readShare_63 rfl ?_
        exact zz_zret dX3_readShare_64
  · refine zz_iconst (npc := 31) 0 (by decide) dX3_readShare_30 rfl ?_
    exact zz_zret dX3_readShare_31
abbrev rmX3_readLight : Room := { frames := 2, cells := 0, slots := 0, locals := 42 }
theorem iX3_readLight_1 : ∀ w ∈ u_ws RX1 TX1 12, w ∈ wsX3_readLight := fun w h => List.mem_cons_of_mem _ (List.mem_append_right _ h)
theorem iX3_readLight_3 : ∀ w ∈ u_ws RX3 TX3 8, w ∈ wsX3_readLight := fun w h => List.mem_cons_of_mem _ (List.mem_append_left _ (List.mem_append_right _ h))
noncomputable def fX3_readLight   (M : Mem) : Option (Int32 × Mem) := (bd (fX3_step M) fun _ M1 => (ck (inb (M1 33 7) 121) (bv (M1 46 (ix (M1 33 7))) fun v2 => (bd (fX3_takeNumber 65535 M1) fun r4 M3 => (if r4 = 0 then (ck (isb 0) (some (0, M3))) else (wm (wr M3 36 7 v2) fun M5 => (ck (isb 1) (some (1, M5)))))))))
set_option maxHeartbeats 4000000 in
set_option maxRecDepth 100000 in
theorem mtX3_readLight (E : EV) (l : Launch)    (M : Mem) : CT E l yX3_readLight wsX3_readLight rmX3_readLight vI [.ref (eA E 33)] (fX3_readLight  M) M := by
  refine ct_of (cc := cX3_readLight) (nL := 2) (ret := (some .boolean)) (by decide +kernel) rfl (Nat.le_of_ble_eq_true rfl) ?_
  show ZZ E l RX3 cX3_readLight 2 (some .boolean) wsX3_readLight rmX3_readLight vI (fX3_readLight  M) M [(0, .ref (eA E 33))] 0 []
  unfold fX3_readLight
  refine zz_aload_n (npc := 1) 0 rfl rfl dX3_readLight_0 rfl ?_
  refine zz_callVv (npc := 4) (n := 0) (As := []) (by decide) (by rfl) rfl gX3_readLight_X3_step rfl rfl rfl (by decide +kernel) ⟨Nat.le_of_ble_eq_true rfl, Nat.le_of_ble_eq_true rfl⟩ rfl rfl (Nat.le_of_ble_eq_true rfl) (mtX3_step E l   M) dX3_readLight_1 rfl (fun _ M1 _ => ?_)
  refine zz_aload_n (npc := 5) 0 rfl rfl dX3_readLight_4 rfl ?_
  refine zz_getR (npc := 8) (i := 5) (C0 := RX3) (T := TX3) (N := 8) (by decide) (by rfl) rfl (by decide) iX3_readLight_3 (List.mem_of_getElem? (i := 1) rfl) rfl dX3_readLight_5 rfl ?_
  refine zz_aload_n (npc := 9) 0 rfl rfl dX3_readLight_8 rfl ?_
  refine zz_getI (npc := 12) (i := 7) (C0 := RX3) (T := TX3) (N := 8) (by decide) (by rfl) rfl (by decide) iX3_readLight_3 (List.mem_of_getElem? (i := 2) rfl) rfl dX3_readLight_9 rfl ?_
  refine zz_iald (npc := 13) (by decide) (by rfl) dX3_readLight_12 rfl ?_
  refine zz_istore_nB (npc := 14) (lv1 := fun v2 => [(1, .int v2), (0, .ref (eA E 33))]) rfl dX3_readLight_13 rfl (by decide) (fun _ => rfl) (fun v2 => ?_)
  refine zz_aload_n (npc := 15) 1 rfl rfl dX3_readLight_14 rfl ?_
  refine zz_ldc (npc := 17) 65535 (List.mem_of_getElem? (i := 3) rfl) dX3_readLight_15 rfl ?_
  refine zz_callVi (npc := 20) (n := 1) (As := [.int 65535]) (by decide) (by rfl) rfl gX3_readLight_X3_takeNumber rfl rfl rfl (by decide +kernel) ⟨Nat.le_of_ble_eq_true rfl, Nat.le_of_ble_eq_true rfl⟩ rfl rfl (Nat.le_of_ble_eq_true rfl) (mtX3_takeNumber E l  65535 M1) dX3_readLight_17 rfl (fun r4 M3 _ => ?_)
  refine zz_if_ne (tgt := 25) (npc := 23) dX3_readLight_20 (by decide) rfl ?_ ?_
  · refine zz_aload_n (npc := 26) 1 rfl rfl dX3_readLight_25 rfl ?_
    refine zz_getR (npc := 29) (i := 1) (C0 := RX3) (T := TX3) (N := 8) (by decide) (by rfl) rfl (by decide) iX3_readLight_3 (List.mem_of_getElem? (i := 4) rfl) rfl dX3_readLight_26 rfl ?_
    refine zz_iload_n (npc := 30) 0 rfl rfl dX3_readLight_29 rfl ?_
    refine zz_putI (npc := 33) (i := 7) (C0 := RX1) (T := TX1) (N := 12) (by decide) (by rfl) rfl (by decide) iX3_readLight_1 (List.mem_of_getElem? (i := 5) rfl) tyX1_ok nmX1 rfl rfl rfl dX3_readLight_30 rfl (fun M5 => ?_)
    refine zz_iconst (npc := 34) 1 (by decide) dX3_readLight_33 rfl ?_
    exact zz_zret dX3_readLight_34
  · refine zz_iconst (npc := 24) 0 (by decide) dX3_readLight_23 rfl ?_
    exact zz_zret dX3_readLight_24
abbrev rmX3_readHour : Room := { frames := 2, cells := 0, slots := 0, locals := 42 }
theorem iX3_readHour_1 : ∀ w ∈ u_ws RX1 TX1 12, w ∈ wsX3_readHour := fun w h => List.mem_cons_of_mem _ (List.mem_append_right _ h)
theorem iX3_readHour_3 : ∀ w ∈ u_ws RX3 TX3 8, w ∈ wsX3_readHour := fun w h => List.mem_cons_of_mem _ (List.mem_append_left _ (List.mem_append_right _ h))
noncomputable def fX3_readHour   (M : Mem) : Option (Int32 × Mem) := (bd (fX3_step M) fun _ M1 => (ck (inb (M1 33 7) 121) (bv (M1 46 (ix (M1 33 7))) fun v2 => (bd (fX3_takeNumber 16 M1) fun r4 M3 => (if r4 = 0 then (ck (isb 0) (some (0, M3))) else (wm (wr M3 36 8 v2) fun M5 => (ck (isb 1) (some (1, M5)))))))))
set_option maxHeartbeats 4000000 in
set_option maxRecDepth 100000 in
theorem mtX3_readHour (E : EV) (l : Launch)    (M : Mem) : CT E l yX3_readHour wsX3_readHour rmX3_readHour vI [.ref (eA E 33)] (fX3_readHour  M) M := by
  refine ct_of (cc := cX3_readHour) (nL := 2) (ret := (some .boolean)) (by decide +kernel) rfl (Nat.le_of_ble_eq_true rfl) ?_
  show ZZ E l RX3 cX3_readHour 2 (some .boolean) wsX3_readHour rmX3_readHour vI (fX3_readHour  M) M [(0, .ref (eA E 33))] 0 []
  unfold fX3_readHour
  refine zz_aload_n (npc := 1) 0 rfl rfl dX3_readHour_0 rfl ?_
  refine zz_callVv (npc := 4) (n := 0) (As := []) (by decide) (by rfl) rfl gX3_readHour_X3_step rfl rfl rfl (by decide +kernel) ⟨Nat.le_of_ble_eq_true rfl, Nat.le_of_ble_eq_true rfl⟩ rfl rfl (Nat.le_of_ble_eq_true rfl) (mtX3_step E l   M) dX3_readHour_1 rfl (fun _ M1 _ => ?_)
  refine zz_aload_n (npc := 5) 0 rfl rfl dX3_readHour_4 rfl ?_
  refine zz_getR (npc := 8) (i := 5) (C0 := RX3) (T := TX3) (N := 8) (by decide) (by rfl) rfl (by decide) iX3_readHour_3 (List.mem_of_getElem? (i := 1) rfl) rfl dX3_readHour_5 rfl ?_
  refine zz_aload_n (npc := 9) 0 rfl rfl dX3_readHour_8 rfl ?_
  refine zz_getI (npc := 12) (i := 7) (C0 := RX3) (T := TX3) (N := 8) (by decide) (by rfl) rfl (by decide) iX3_readHour_3 (List.mem_of_getElem? (i := 2) rfl) rfl dX3_readHour_9 rfl ?_
  refine zz_iald (npc := 13) (by decide) (by rfl) dX3_readHour_12 rfl ?_
  refine zz_istore_nB (npc := 14) (lv1 := fun v2 => [(1, .int v2), (0, .ref (eA E 33))]) rfl dX3_readHour_13 rfl (by decide) (fun _ => rfl) (fun v2 => ?_)
  refine zz_aload_n (npc := 15) 1 rfl rfl dX3_readHour_14 rfl ?_
  refine zz_bipush (npc := 17) 16 (by decide) dX3_readHour_15 rfl ?_
  refine zz_callVi (npc := 20) (n := 1) (As := [.int 16]) (by decide) (by rfl) rfl gX3_readHour_X3_takeNumber rfl rfl rfl (by decide +kernel) ⟨Nat.le_of_ble_eq_true rfl, Nat.le_of_ble_eq_true rfl⟩ rfl rfl (Nat.le_of_ble_eq_true rfl) (mtX3_takeNumber E l  16 M1) dX3_readHour_17 rfl (fun r4 M3 _ => ?_)
  refine zz_if_ne (tgt := 25) (npc := 23) dX3_readHour_20 (by decide) rfl ?_ ?_
  · refine zz_aload_n (npc := 26) 1 rfl rfl dX3_readHour_25 rfl ?_
    refine zz_getR (npc := 29) (i := 1) (C0 := RX3) (T := TX3) (N := 8) (by decide) (by rfl) rfl (by decide) iX3_readHour_3 (List.mem_of_getElem? (i := 3) rfl) rfl dX3_readHour_26 rfl ?_
    refine zz_iload_n (npc := 30) 0 rfl rfl dX3_readHour_29 rfl ?_
    refine zz_putI (npc := 33) (i := 8) (C0 := RX1) (T := TX1) (N := 12) (by decide) (by rfl) rfl (by decide) iX3_readHour_1 (List.mem_of_getElem? (i := 4) rfl) tyX1_ok nmX1 rfl rfl rfl dX3_readHour_30 rfl (fun M5 => ?_)
    refine zz_iconst (npc := 34) 1 (by decide) dX3_readHour_33 rfl ?_
    exact zz_zret dX3_readHour_34
  · refine zz_iconst (npc := 24) 0 (by decide) dX3_readHour_23 rfl ?_
    exact zz_zret dX3_readHour_24
abbrev rmX3_readItem : Room := { frames := 7, cells := 0, slots := 0, locals := 153 }
noncomputable def fX3_readItem   (M : Mem) : Option (Int32 × Mem) := (bd (fX3_kindOfWord M) fun r2 M1 => (if r2 < 0 then (bd (fX3_isWord 10 M1) fun r4 M3 => (if r4 = 0 then (bd (fX3_isWord 11 M3) fun r6 M5 => (if r6 = 0 then (bd (fX3_isWord 12 M5) fun r8 M7 => (if r8 = 0 then (ck (isb 0) (some (0, M7))) else (bd (fX3_readHour M7) fun r10 M9 => (if r10 = 0 then (ck (isb 0) (some (0, M9))) else (ck (isb 1) (some (1, M9))))))) else (bd (fX3_readLight M5) fun r12 M11 => (ck (isb r12) (some (r12, M11)))))) else (bd (fX3_readShare M3) fun r14 M13 => (ck (isb r14) (some (r14, M13)))))) else (bd (fX3_readPerson M1) fun r16 M15 => (ck (isb r16) (some (r16, M15))))))
set_option maxHeartbeats 4000000 in
set_option maxRecDepth 100000 in
theorem mtX3_readItem (E : EV) (l : Launch)    (M : Mem) : CT E l yX3_readItem wsX3_readItem rmX3_readItem vI [.ref (eA E 33)] (fX3_readItem  M) M := by
  refine ct_of (cc := cX3_readItem) (nL := 1) (ret := (some .boolean)) (by decide +kernel) rfl (Nat.le_of_ble_eq_true rfl) ?_
  show ZZ E l RX3 cX3_readItem 1 (some .boolean) wsX3_readItem rmX3_readItem vI (fX3_readItem  M) M [(0, .ref (eA E 33))] 0 []
  unfold fX3_readItem
  refine zz_aload_n (npc := 1) 0 rfl rfl dX3_readItem_0 rfl ?_
  refine zz_callVi (npc := 4) (n := 0) (As := []) (by decide) (by rfl) rfl gX3_readItem_X3_kindOfWord rfl rfl rfl (by decide +kernel) ⟨Nat.le_of_ble_eq_true rfl, Nat.le_of_ble_eq_true rfl⟩ rfl rfl (Nat.le_of_ble_eq_true rfl) (mtX3_kindOfWord E l   M) dX3_readItem_1 rfl (fun r2 M1 _ => ?_)
  refine zz_if_lt (tgt := 12) (npc := 7) dX3_readItem_4 (by decide) rfl ?_ ?_
  · refine zz_aload_n (npc := 13) 0 rfl rfl dX3_readItem_12 rfl ?_
    refine zz_ldcS (npc := 15) (j := 10) (tx := "share") (List.mem_of_getElem? (i := 10) rfl) dX3_readItem_13 rfl ?_
    refine zz_callVi (npc := 18) (n := 1) (As := [.ref (eK E 10)]) (by decide) (by rfl) rfl gX3_readItem_X3_isWord rfl rfl rfl (by decide +kernel) ⟨Nat.le_of_ble_eq_true rfl, Nat.le_of_ble_eq_true rfl⟩ rfl rfl (Nat.le_of_ble_eq_true rfl) (mtX3_isWord E l 10 (by decide)  M1) dX3_readItem_15 rfl (fun r4 M3 _ => ?_)
    refine zz_if_eq (tgt := 26) (npc := 21) dX3_readItem_18 (by decide) rfl ?_ ?_
    · refine zz_aload_n (npc := 27) 0 rfl rfl dX3_readItem_26 rfl ?_
      refine zz_ldcS (npc := 29) (j := 11) (tx := "light") (List.mem_of_getElem? (i := 11) rfl) dX3_readItem_27 rfl ?_
      refine zz_callVi (npc := 32) (n := 1) (As := [.ref (eK E 11)]) (by decide) (by rfl) rfl gX3_readItem_X3_isWord rfl rfl rfl (by decide +kernel) ⟨Nat.le_of_ble_eq_true rfl, Nat.le_of_ble_eq_true rfl⟩ rfl rfl (Nat.le_of_ble_eq_true rfl) (mtX3_isWord E l 11 (by decide)  M3) dX3_readItem_29 rfl (fun r6 M5 _ => ?_)
      refine zz_if_eq (tgt := 40) (npc := 35) dX3_readItem_32 (by decide) rfl ?_ ?_
      · refine zz_aload_n (npc := 41) 0 rfl rfl dX3_readItem_40 rfl ?_
        refine zz_ldcS (npc := 43) (j := 12) (tx := "hour") (List.mem_of_getElem? (i := 12) rfl) dX3_readItem_41 rfl ?_
        refine zz_callVi (npc := 46) (n := 1) (As := [.ref (eK E 12)]) (by decide) (by rfl) rfl gX3_readItem_X3_isWord rfl rfl rfl (by decide +kernel) ⟨Nat.le_of_ble_eq_true rfl, Nat.le_of_ble_eq_true rfl⟩ rfl rfl (Nat.le_of_ble_eq_true rfl) (mtX3_isWord E l 12 (by decide)  M5) dX3_readItem_43 rfl (fun r8 M7 _ => ?_)
        refine zz_if_eq (tgt := 60) (npc := 49) dX3_readItem_46 (by decide) rfl ?_ ?_
        · refine zz_iconst (npc := 61) 0 (by decide) dX3_readItem_60 rfl ?_
          exact zz_zret dX3_readItem_61
        · refine zz_aload_n (npc := 50) 0 rfl rfl dX3_readItem_49 rfl ?_
          refine zz_callVi (npc := 53) (n := 0) (As := []) (by decide) (by rfl) rfl gX3_readItem_X3_readHour rfl rfl rfl (by decide +kernel) ⟨Nat.le_of_ble_eq_true rfl, Nat.le_of_ble_eq_true rfl⟩ rfl rfl (Nat.le_of_ble_eq_true rfl) (mtX3_readHour E l   M7) dX3_readItem_50 rfl (fun r10 M9 _ => ?_)
          refine zz_if_eq (tgt := 60) (npc := 56) dX3_readItem_53 (by decide) rfl ?_ ?_
          · refine zz_iconst (npc := 61) 0 (by decide) dX3_readItem_60 rfl ?_
            exact zz_zret dX3_readItem_61
          · refine zz_iconst (npc := 57) 1 (by decide) dX3_readItem_56 rfl ?_
            refine zz_goto (npc := 0) (tgt := 61) dX3_readItem_57 (by decide) ?_
            exact zz_zret dX3_readItem_61
      · refine zz_aload_n (npc := 36) 0 rfl rfl dX3_readItem_35 rfl ?_
        refine zz_callVi (npc := 39) (n := 0) (As := []) (by decide) (by rfl) rfl gX3_readItem_X3_readLight rfl rfl rfl (by decide +kernel) ⟨Nat.le_of_ble_eq_true rfl, Nat.le_of_ble_eq_true rfl⟩ rfl rfl (Nat.le_of_ble_eq_true rfl) (mtX3_readLight E l   M5) dX3_readItem_36 rfl (fun r12 M11 _ => ?_)
        exact zz_zret dX3_readItem_39
    · refine zz_aload_n (npc := 22) 0 rfl rfl dX3_readItem_21 rfl ?_
      refine zz_callVi (npc := 25) (n := 0) (As := []) (by decide) (by rfl) rfl gX3_readItem_X3_readShare rfl rfl rfl (by decide +kernel) ⟨Nat.le_of_ble_eq_true rfl, Nat.le_of_ble_eq_true rfl⟩ rfl rfl (Nat.le_of_ble_eq_true rfl) (mtX3_readShare E l   M3) dX3_readItem_22 rfl (fun r14 M13 _ => ?_)
      exact zz_zret dX3_readItem_25
  · refine zz_aload_n (npc := 8) 0 rfl rfl dX3_readItem_7 rfl ?_
    refine zz_callVi (npc := 11) (n := 0) (As := []) (by decide) (by rfl) rfl gX3_readItem_X3_readPerson rfl rfl rfl (by decide +kernel) ⟨Nat.le_of_ble_eq_true rfl, Nat.le_of_ble_eq_true rfl⟩ rfl rfl (Nat.le_of_ble_eq_true rfl) (mtX3_readPerson E l   M1) dX3_readItem_8 rfl (fun r16 M15 _ => ?_)
    exact zz_zret dX3_readItem_11
abbrev rmX3_read : Room := { frames := 8, cells := 0, slots := 0, locals := 173 }
theorem iX3_read_3 : ∀ w ∈ u_ws RX3 TX3 8, w ∈ wsX3_read := fun w h => List.mem_cons_of_mem _ (List.mem_append_left _ (List.mem_append_left _ (List.mem_append_right _ h)))
noncomputable def fX3_read_L66 (d1 : Nat)   (M : Mem) : Option (Int32 × Mem) := (ck (inb (M 33 7) 121) (some ((-1) - (M 44 (ix (M 33 7))), M)))
set_option maxHeartbeats 4000000 in
set_option maxRecDepth 100000 in
theorem zX3_read_L66 (E : EV) (l : Launch) (d1 : Nat) (hd1 : isLd d1)   : ∀  (M : Mem), ZZ E l RX3 cX3_read 3 (some .int) wsX3_read rmX3_read vI (fX3_read_L66 d1 M) M [(0, .ref (eA E 33))] 66 [] := by
  intro M
  unfold fX3_read_L66
  refine zz_iconst (npc := 67) (-1) (by decide) dX3_read_66 rfl ?_
  refine zz_aload_n (npc := 68) 0 rfl rfl dX3_read_67 rfl ?_
  refine zz_getR (npc := 71) (i := 3) (C0 := RX3) (T := TX3) (N := 8) (by decide) (by rfl) rfl (by decide) iX3_read_3 (List.mem_of_getElem? (i := 2) rfl) rfl dX3_read_68 rfl ?_
  refine zz_aload_n (npc := 72) 0 rfl rfl dX3_read_71 rfl ?_
  refine zz_getI (npc := 75) (i := 7) (C0 := RX3) (T := TX3) (N := 8) (by decide) (by rfl) rfl (by decide) iX3_read_3 (List.mem_of_getElem? (i := 3) rfl) rfl dX3_read_72 rfl ?_
  refine zz_iald (npc := 76) (by decide) (by rfl) dX3_read_75 rfl ?_
  refine zz_isub (npc := 77) dX3_read_76 rfl ?_
  exact zz_iret dX3_read_77
noncomputable def fX3_read_L14 (d1 : Nat)  : Nat → Int32 → Mem → Option (Int32 × Mem)
  | 0, _, _ => none
  | n + 1, y2, M => (if 121 ≤ y2 then (fX3_read_L66 d1 M) else (bd (fX3_readItem M) fun r4 M3 => (if r4 = 0 then (fX3_read_L66 d1 M3) else (bd (fX3_isNext 0 M3) fun r6 M5 => (if r6 = 0 then (bd (fX3_isNext 3 M5) fun r8 M7 => (if r8 = 0 then (fX3_read_L66 d1 M7) else (bd (fX3_step M7) fun _ M9 => (bv (y2 + 1) fun v10 => (fX3_read_L14 d1 n v10 M9))))) else (bd (fX1_become d1 36 M5) fun _ M11 => (some (y2, M11))))))))
set_option maxHeartbeats 4000000 in
set_option maxRecDepth 100000 in
theorem zX3_read_L14 (E : EV) (l : Launch) (d1 : Nat) (hd1 : isLd d1)   : ∀ (n : Nat) (y2 : Int32) (M : Mem), ZZ E l RX3 cX3_read 3 (some .int) wsX3_read rmX3_read vI (fX3_read_L14 d1 n y2 M) M [(0, .ref (eA E 33)), (1, .ref (eA E d1)), (2, .int y2)] 14 [] := by
  intro n
  induction n with
  | zero => intros; exact zz_none
  | succ n ih =>
    intro y2 M
    rw [fX3_read_L14]
    refine zz_iload_n (npc := 15) 2 rfl rfl dX3_read_14 rfl ?_
    refine zz_bipush (npc := 17) 121 (by decide) dX3_read_15 rfl ?_
    refine zz_icmp_ge (tgt := 66) (npc := 20) dX3_read_17 (by decide) rfl ?_ ?_
    · refine zz_sub (npc := 0) (lv1 := [(0, .ref (eA E 33))]) [0] rfl ?_
      exact zX3_read_L66 E l d1 hd1 M
    · refine zz_aload_n (npc := 21) 0 rfl rfl dX3_read_20 rfl ?_
      refine zz_callVi (npc := 24) (n := 0) (As := []) (by decide) (by rfl) rfl gX3_read_X3_readItem rfl rfl rfl (by decide +kernel) ⟨Nat.le_of_ble_eq_true rfl, Nat.le_of_ble_eq_true rfl⟩ rfl rfl (Nat.le_of_ble_eq_true rfl) (mtX3_readItem E l   M) dX3_read_21 rfl (fun r4 M3 _ => ?_)
      refine zz_if_eq (tgt := 66) (npc := 27) dX3_read_24 (by decide) rfl ?_ ?_
      · refine zz_sub (npc := 0) (lv1 := [(0, .ref (eA E 33))]) [0] rfl ?_
        exact zX3_read_L66 E l d1 hd1 M3
      · refine zz_aload_n (npc := 28) 0 rfl rfl dX3_read_27 rfl ?_
        refine zz_iconst (npc := 29) 0 (by decide) dX3_read_28 rfl ?_
        refine zz_callVi (npc := 32) (n := 1) (As := [.int 0]) (by decide) (by rfl) rfl gX3_read_X3_isNext rfl rfl rfl (by decide +kernel) ⟨Nat.le_of_ble_eq_true rfl, Nat.le_of_ble_eq_true rfl⟩ rfl rfl (Nat.le_of_ble_eq_true rfl) (mtX3_isNext E l  0 M3) dX3_read_29 rfl (fun r6 M5 _ => ?_)
        refine zz_if_eq (tgt := 45) (npc := 35) dX3_read_32 (by decide) rfl ?_ ?_
        · refine zz_aload_n (npc := 46) 0 rfl rfl dX3_read_45 rfl ?_
          refine zz_iconst (npc := 47) 3 (by decide) dX3_read_46 rfl ?_
          refine zz_callVi (npc := 50) (n := 1) (As := [.int 3]) (by decide) (by rfl) rfl gX3_read_X3_isNext rfl rfl rfl (by decide +kernel) ⟨Nat.le_of_ble_eq_true rfl, Nat.le_of_ble_eq_true rfl⟩ rfl rfl (Nat.le_of_ble_eq_true rfl) (mtX3_isNext E l  3 M5) dX3_read_47 rfl (fun r8 M7 _ => ?_)
          refine zz_if_ne (tgt := 56) (npc := 53) dX3_read_50 (by decide) rfl ?_ ?_
          · refine zz_aload_n (npc := 57) 0 rfl rfl dX3_read_56 rfl ?_
            refine zz_callVv (npc := 60) (n := 0) (As := []) (by decide) (by rfl) rfl gX3_read_X3_step rfl rfl rfl (by decide +kernel) ⟨Nat.le_of_ble_eq_true rfl, Nat.le_of_ble_eq_true rfl⟩ rfl rfl (Nat.le_of_ble_eq_true rfl) (mtX3_step E l   M7) dX3_read_57 rfl (fun _ M9 _ => ?_)
            refine zz_iincB (npc := 63) (y2 + 1) (lv1 := fun v10 => [(2, .int v10), (0, .ref (eA E 33)), (1, .ref (eA E d1))]) dX3_read_60 rfl 2 rfl rfl (by decide) (fun _ => rfl) (fun v10 => ?_)
            refine zz_goto (npc := 0) (tgt := 14) dX3_read_63 (by decide) ?_
            refine zz_sub (npc := 0) (lv1 := [(0, .ref (eA E 33)), (1, .ref (eA E d1)), (2, .int v10)]) [1, 2, 0] rfl ?_
            exact ih v10 M9
          · refine zz_goto (npc := 0) (tgt := 66) dX3_read_53 (by decide) ?_
            refine zz_sub (npc := 0) (lv1 := [(0, .ref (eA E 33))]) [0] rfl ?_
            exact zX3_read_L66 E l d1 hd1 M7
        · refine zz_aload_n (npc := 36) 1 rfl rfl dX3_read_35 rfl ?_
          refine zz_aload_n (npc := 37) 0 rfl rfl dX3_read_36 rfl ?_
          refine zz_getR (npc := 40) (i := 1) (C0 := RX3) (T := TX3) (N := 8) (by decide) (by rfl) rfl (by decide) iX3_read_3 (List.mem_of_getElem? (i := 1) rfl) rfl dX3_read_37 rfl ?_
          refine zz_callVv (npc := 43) (n := 1) (As := [.ref (eA E 36)]) (ld_lt0 hd1) (ld_o hd1) rfl gX3_read_X1_become rfl rfl rfl (by decide +kernel) ⟨Nat.le_of_ble_eq_true rfl, Nat.le_of_ble_eq_true rfl⟩ rfl rfl (Nat.le_of_ble_eq_true rfl) (mtX1_become E l d1 36 hd1 ld_c36  M5) dX3_read_40 rfl (fun _ M11 _ => ?_)
          refine zz_iload_n (npc := 44) 2 rfl rfl dX3_read_43 rfl ?_
          exact zz_iret dX3_read_44
noncomputable def fX3_read (d1 : Nat)  (M : Mem) : Option (Int32 × Mem) := (bd (fX3_split M) fun _ M1 => (bd (fX1_become 36 d1 M1) fun _ M2 => (fX3_read_L14 d1 fu 1 M2)))
set_option maxHeartbeats 4000000 in
set_option maxRecDepth 100000 in
theorem mtX3_read (E : EV) (l : Launch) (d1 : Nat) (hd1 : isLd d1)  (M : Mem) : CT E l yX3_read wsX3_read rmX3_read vI [.ref (eA E 33), .ref (eA E d1)] (fX3_read d1 M) M := by
  refine ct_of (cc := cX3_read) (nL := 3) (ret := (some .int)) (by decide +kernel) rfl (Nat.le_of_ble_eq_true rfl) ?_
  show ZZ E l RX3 cX3_read 3 (some .int) wsX3_read rmX3_read vI (fX3_read d1 M) M [(0, .ref (eA E 33)), (1, .ref (eA E d1))] 0 []
  unfold fX3_read
  refine zz_aload_n (npc := 1) 0 rfl rfl dX3_read_0 rfl ?_
  refine zz_callVv (npc := 4) (n := 0) (As := []) (by decide) (by rfl) rfl gX3_read_X3_split rfl rfl rfl (by decide +kernel) ⟨Nat.le_of_ble_eq_true rfl, Nat.le_of_ble_eq_true rfl⟩ rfl rfl (Nat.le_of_ble_eq_true rfl) (mtX3_split E l   M) dX3_read_1 rfl (fun _ M1 _ => ?_)
  refine zz_aload_n (npc := 5) 0 rfl rfl dX3_read_4 rfl ?_
  refine zz_getR (npc := 8) (i := 1) (C0 := RX3) (T := TX3) (N := 8) (by decide) (by rfl) rfl (by decide) iX3_read_3 (List.mem_of_getElem? (i := 1) rfl) rfl dX3_read_5 rfl ?_
  refine zz_aload_n (npc := 9) 1 rfl rfl dX3_read_8 rfl ?_
  refine zz_callVv (npc := 12) (n := 1) (As := [.ref (eA E d1)]) (by decide) (by rfl) rfl gX3_read_X1_become rfl rfl rfl (by decide +kernel) ⟨Nat.le_of_ble_eq_true rfl, Nat.le_of_ble_eq_true rfl⟩ rfl rfl (Nat.le_of_ble_eq_true rfl) (mtX1_become E l 36 d1 ld_c36 hd1  M1) dX3_read_9 rfl (fun _ M2 _ => ?_)
  refine zz_iconst (npc := 13) 1 (by decide) dX3_read_12 rfl ?_
  refine zz_istore_n (npc := 14) (lv1 := [(2, .int 1), (0, .ref (eA E 33)), (1, .ref (eA E d1))]) rfl dX3_read_13 rfl (by decide) rfl ?_
  refine zz_sub (npc := 0) (lv1 := [(0, .ref (eA E 33)), (1, .ref (eA E d1)), (2, .int 1)]) [1, 2, 0] rfl ?_
  exact zX3_read_L14 E l d1 hd1 fu 1 M2

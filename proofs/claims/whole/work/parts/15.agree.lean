abbrev rmX0_worthOf : Room := { frames := 1, cells := 0, slots := 0, locals := 21 }
theorem iX0_worthOf_0 : ∀ w ∈ u_ws RX0 TX0 6, w ∈ wsX0_worthOf := fun w h => List.mem_cons_of_mem _ (List.mem_append_right _ h)
noncomputable def fX0_worthOf  (x1 : Int32) (x2 : Int32) (M : Mem) : Option (Int32 × Mem) := (ck (inb x1 2) (bd (fX7_bit (M 26 (ix x1)) x2 M) fun r2 M1 => (ck (inb (((2 * x2) + 2) + x1) 34) (some ((100 * r2) + (M1 28 (ix (((2 * x2) + 2) + x1))), M1)))))
set_option maxHeartbeats 4000000 in
set_option maxRecDepth 100000 in
theorem mtX0_worthOf (E : EV) (l : Launch)   (x1 : Int32) (x2 : Int32) (M : Mem) : CT E l yX0_worthOf wsX0_worthOf rmX0_worthOf vI [.ref (eA E 24), .int x1, .int x2] (fX0_worthOf x1 x2 M) M := by
  refine ct_of (cc := cX0_worthOf) (nL := 3) (ret := (some .int)) (by decide +kernel) rfl (Nat.le_of_ble_eq_true rfl) ?_
  show ZZ E l RX0 cX0_worthOf 3 (some .int) wsX0_worthOf rmX0_worthOf vI (fX0_worthOf x1 x2 M) M [(0, .ref (eA E 24)), (1, .int x1), (2, .int x2)] 0 []
  unfold fX0_worthOf
  refine zz_bipush (npc := 2) 100 (by decide) dX0_worthOf_0 rfl ?_
  refine zz_aload_n (npc := 3) 0 rfl rfl dX0_worthOf_2 rfl ?_
  refine zz_getR (npc := 6) (i := 1) (C0 := RX0) (T := TX0) (N := 6) (by decide) (by rfl) rfl (by decide) iX0_worthOf_0 (List.mem_of_getElem? (i := 1) rfl) rfl dX0_worthOf_3 rfl ?_
  refine zz_iload_n (npc := 7) 1 rfl rfl dX0_worthOf_6 rfl ?_
  refine zz_iald (npc := 8) (by decide) (by rfl) dX0_worthOf_7 rfl ?_
  refine zz_iload_n (npc := 9) 2 rfl rfl dX0_worthOf_8 rfl ?_
  refine zz_callNi (npc := 12) (n := 2) (As := [.int (M 26 (ix x1)), .int x2]) (host := "SharedShadow") gX0_worthOf_X7_bit_n63 (List.mem_of_getElem? (i := 8) rfl) (List.mem_of_getElem? (i := 3) rfl) (List.mem_of_getElem? (i := 4) rfl) rfl rfl rfl (by decide +kernel) ⟨Nat.le_of_ble_eq_true rfl, Nat.le_of_ble_eq_true rfl⟩ rfl rfl (Nat.le_of_ble_eq_true rfl) (mtX7_bit E l  (M 26 (ix x1)) x2 M) dX0_worthOf_9 rfl (fun r2 M1 _ => ?_)
  refine zz_imul (npc := 13) dX0_worthOf_12 rfl ?_
  refine zz_aload_n (npc := 14) 0 rfl rfl dX0_worthOf_13 rfl ?_
  refine zz_getR (npc := 17) (i := 3) (C0 := RX0) (T := TX0) (N := 6) (by decide) (by rfl) rfl (by decide) iX0_worthOf_0 (List.mem_of_getElem? (i := 2) rfl) rfl dX0_worthOf_14 rfl ?_
  refine zz_iconst (npc := 18) 2 (by decide) dX0_worthOf_17 rfl ?_
  refine zz_iload_n (npc := 19) 2 rfl rfl dX0_worthOf_18 rfl ?_
  refine zz_imul (npc := 20) dX0_worthOf_19 rfl ?_
  refine zz_iconst (npc := 21) 2 (by decide) dX0_worthOf_20 rfl ?_
  refine zz_iadd (npc := 22) dX0_worthOf_21 rfl ?_
  refine zz_iload_n (npc := 23) 1 rfl rfl dX0_worthOf_22 rfl ?_
  refine zz_iadd (npc := 24) dX0_worthOf_23 rfl ?_
  refine zz_iald (npc := 25) (by decide) (by rfl) dX0_worthOf_24 rfl ?_
  refine zz_iadd (npc := 26) dX0_worthOf_25 rfl ?_
  exact zz_iret dX0_worthOf_26
abbrev rmX0_weighBehind : Room := { frames := 2, cells := 0, slots := 0, locals := 43 }
theorem iX0_weighBehind_0 : ∀ w ∈ u_ws RX0 TX0 6, w ∈ wsX0_weighBehind := fun w h => List.mem_cons_of_mem _ (List.mem_append_right _ h)
noncomputable def fX0_weighBehind_L91  (k25 : Int32 → Int32 → Mem → Option (Unit × Mem)) (y1 : Int32) (y2 : Int32) (w0 : Int32) (w1 : Int32) (M : Mem) : Option (Unit × Mem) := (ck (inb w1 34) (wm (wr M 28 (ix w1) w0) fun M11 => (bv (y2 + 1) fun v12 => (k25 y1 v12 M11))))
set_option maxHeartbeats 4000000 in
set_option maxRecDepth 100000 in
theorem zX0_weighBehind_L91 (E : EV) (l : Launch)   (k25 : Int32 → Int32 → Mem → Option (Unit × Mem)) (hk25 : ∀ (y1_ : Int32) (y2_ : Int32) (M_ : Mem), ZZ E l RX0 cX0_weighBehind 5 none wsX0_weighBehind rmX0_weighBehind vV (k25 y1_ y2_ M_) M_ [(0, .ref (eA E 24)), (1, .int y1_), (2, .int y2_)] 25 []) : ∀ (y1 : Int32) (y2 : Int32) (w0 : Int32) (w1 : Int32) (M : Mem), ZZ E l RX0 cX0_weighBehind 5 none wsX0_weighBehind rmX0_weighBehind vV (fX0_weighBehind_L91 k25 y1 y2 w0 w1 M) M [(0, .ref (eA E 24)), (1, .int y1), (2, .int y2)] 91 [.int w0, .int w1, .ref (eA E 28)] := by
  intro y1 y2 w0 w1 M
  unfold fX0_weighBehind_L91
  refine zz_iast (npc := 92) (by decide) (by rfl) dX0_weighBehind_91 rfl (fun M11 => ?_)
  refine zz_iincB (npc := 95) (y2 + 1) (lv1 := fun v12 => [(2, .int v12), (0, .ref (eA E 24)), (1, .int y1)]) dX0_weighBehind_92 rfl 2 rfl rfl (by decide) (fun _ => rfl) (fun v12 => ?_)
  refine zz_goto (npc := 0) (tgt := 25) dX0_weighBehind_95 (by decide) ?_
  refine zz_sub (npc := 0) (lv1 := [(0, .ref (eA E 24)), (1, .int y1), (2, .int v12)]) [1, 2, 0] rfl ?_
  exact hk25 y1 v12 M11
noncomputable def fX0_weighBehind_L25  (k19 : Int32 → Mem → Option (Unit × Mem)) : Nat → Int32 → Int32 → Mem → Option (Unit × Mem)
  | 0, _, _, _ => none
  | n + 1, y1, y2, M => (if 2 ≤ y2 then (bv (y1 + (-1)) fun v3 => (k19 v3 M)) else (bd (fX0_worthOf y2 y1 M) fun r5 M4 => (bd (fX0_worthOf (1 - y2) y1 M4) fun r7 M6 => (bv (r7 - 1) fun v8 => (bd (fX7_bit (M6 24 4) y1 M6) fun r10 M9 => (if r10 = 1 then (fX0_weighBehind_L91 (fX0_weighBehind_L25 k19 n) y1 y2 (imax r5 v8) ((2 * y1) + y2) M9) else (ck (inb (((2 * y1) + 2) + y2) 34) (fX0_weighBehind_L91 (fX0_weighBehind_L25 k19 n) y1 y2 (M9 28 (ix (((2 * y1) + 2) + y2))) ((2 * y1) + y2) M9))))))))
set_option maxHeartbeats 4000000 in
set_option maxRecDepth 100000 in
theorem zX0_weighBehind_L25 (E : EV) (l : Launch)   (k19 : Int32 → Mem → Option (Unit × Mem)) (hk19 : ∀ (y1_ : Int32) (M_ : Mem), ZZ E l RX0 cX0_weighBehind 5 none wsX0_weighBehind rmX0_weighBehind vV (k19 y1_ M_) M_ [(0, .ref (eA E 24)), (1, .int y1_)] 19 []) : ∀ (n : Nat) (y1 : Int32) (y2 : Int32) (M : Mem), ZZ E l RX0 cX0_weighBehind 5 none wsX0_weighBehind rmX0_weighBehind vV (fX0_weighBehind_L25 k19 n y1 y2 M) M [(0, .ref (eA E 24)), (1, .int y1), (2, .int y2)] 25 [] := by
  intro n
  induction n with
  | zero => intros; exact zz_none
  | succ n ih =>
    intro y1 y2 M
    rw [fX0_weighBehind_L25]
    refine zz_iload_n (npc := 26) 2 rfl rfl dX0_weighBehind_25 rfl ?_
    refine zz_iconst (npc := 27) 2 (by decide) dX0_weighBehind_26 rfl ?_
    refine zz_icmp_ge (tgt := 98) (npc := 30) dX0_weighBehind_27 (by decide) rfl ?_ ?_
    · refine zz_iincB (npc := 101) (y1 + (-1)) (lv1 := fun v3 => [(1, .int v3), (0, .ref (eA E 24)), (2, .int y2)]) dX0_weighBehind_98 rfl 1 rfl rfl (by decide) (fun _ => rfl) (fun v3 => ?_)
      refine zz_goto (npc := 0) (tgt := 19) dX0_weighBehind_101 (by decide) ?_
      refine zz_sub (npc := 0) (lv1 := [(0, .ref (eA E 24)), (1, .int v3)]) [1, 0] rfl ?_
      exact hk19 v3 M
    · refine zz_aload_n (npc := 31) 0 rfl rfl dX0_weighBehind_30 rfl ?_
      refine zz_iload_n (npc := 32) 2 rfl rfl dX0_weighBehind_31 rfl ?_
      refine zz_iload_n (npc := 33) 1 rfl rfl dX0_weighBehind_32 rfl ?_
      refine zz_callVi (npc := 36) (n := 2) (As := [.int y2, .int y1]) (by decide) (by rfl) rfl gX0_weighBehind_X0_worthOf rfl rfl rfl (by decide +kernel) ⟨Nat.le_of_ble_eq_true rfl, Nat.le_of_ble_eq_true rfl⟩ rfl rfl (Nat.le_of_ble_eq_true rfl) (mtX0_worthOf E l  y2 y1 M) dX0_weighBehind_33 rfl (fun r5 M4 _ => ?_)
      refine zz_istore_n (npc := 37) (lv1 := [(3, .int r5), (0, .ref (eA E 24)), (1, .int y1), (2, .int y2)]) rfl dX0_weighBehind_36 rfl (by decide) rfl ?_
      refine zz_aload_n (npc := 38) 1 rfl rfl dX0_weighBehind_37 rfl ?_
      refine zz_iconst (npc := 39) 1 (by decide) dX0_weighBehind_38 rfl ?_
      refine zz_iload_n (npc := 40) 3 rfl rfl dX0_weighBehind_39 rfl ?_
      refine zz_isub (npc := 41) dX0_weighBehind_40 rfl ?_
      refine zz_iload_n (npc := 42) 2 rfl rfl dX0_weighBehind_41 rfl ?_
      refine zz_callVi (npc := 45) (n := 2) (As := [.int (1 - y2), .int y1]) (by decide) (by rfl) rfl gX0_weighBehind_X0_worthOf rfl rfl rfl (by decide +kernel) ⟨Nat.le_of_ble_eq_true rfl, Nat.le_of_ble_eq_true rfl⟩ rfl rfl (Nat.le_of_ble_eq_true rfl) (mtX0_worthOf E l  (1 - y2) y1 M4) dX0_weighBehind_42 rfl (fun r7 M6 _ => ?_)
      refine zz_iconst (npc := 46) 1 (by decide) dX0_weighBehind_45 rfl ?_
      refine zz_isub (npc := 47) dX0_weighBehind_46 rfl ?_
      refine zz_istoreB (npc := 49) (lv1 := fun v8 => [(4, .int v8), (3, .int r5), (0, .ref (eA E 24)), (1, .int y1), (2, .int y2)]) dX0_weighBehind_47 rfl (by decide) (fun _ => rfl) (fun v8 => ?_)
      refine zz_aload_n (npc := 50) 2 rfl rfl dX0_weighBehind_49 rfl ?_
      refine zz_getR (npc := 53) (i := 3) (C0 := RX0) (T := TX0) (N := 6) (by decide) (by rfl) rfl (by decide) iX0_weighBehind_0 (List.mem_of_getElem? (i := 1) rfl) rfl dX0_weighBehind_50 rfl ?_
      refine zz_iconst (npc := 54) 2 (by decide) dX0_weighBehind_53 rfl ?_
      refine zz_iload_n (npc := 55) 3 rfl rfl dX0_weighBehind_54 rfl ?_
      refine zz_imul (npc := 56) dX0_weighBehind_55 rfl ?_
      refine zz_iload_n (npc := 57) 4 rfl rfl dX0_weighBehind_56 rfl ?_
      refine zz_iadd (npc := 58) dX0_weighBehind_57 rfl ?_
      refine zz_aload_n (npc := 59) 2 rfl rfl dX0_weighBehind_58 rfl ?_
      refine zz_getI (npc := 62) (i := 4) (C0 := RX0) (T := TX0) (N := 6) (by decide) (by rfl) rfl (by decide) iX0_weighBehind_0 (List.mem_of_getElem? (i := 2) rfl) rfl dX0_weighBehind_59 rfl ?_
      refine zz_iload_n (npc := 63) 3 rfl rfl dX0_weighBehind_62 rfl ?_
      refine zz_callNi (npc := 66) (n := 2) (As := [.int (M6 24 4), .int y1]) (host := "SharedShadow") gX0_weighBehind_X7_bit_n63 (List.mem_of_getElem? (i := 8) rfl) (List.mem_of_getElem? (i := 13) rfl) (List.mem_of_getElem? (i := 14) rfl) rfl rfl rfl (by decide +kernel) ⟨Nat.le_of_ble_eq_true rfl, Nat.le_of_ble_eq_true rfl⟩ rfl rfl (Nat.le_of_ble_eq_true rfl) (mtX7_bit E l  (M6 24 4) y1 M6) dX0_weighBehind_63 rfl (fun r10 M9 _ => ?_)
      refine zz_iconst (npc := 67) 1 (by decide) dX0_weighBehind_66 rfl ?_
      refine zz_icmp_ne (tgt := 79) (npc := 70) dX0_weighBehind_67 (by decide) rfl ?_ ?_
      · refine zz_aload_n (npc := 80) 2 rfl rfl dX0_weighBehind_79 rfl ?_
        refine zz_getR (npc := 83) (i := 3) (C0 := RX0) (T := TX0) (N := 6) (by decide) (by rfl) rfl (by decide) iX0_weighBehind_0 (List.mem_of_getElem? (i := 1) rfl) rfl dX0_weighBehind_80 rfl ?_
        refine zz_iconst (npc := 84) 2 (by decide) dX0_weighBehind_83 rfl ?_
        refine zz_iload_n (npc := 85) 3 rfl rfl dX0_weighBehind_84 rfl ?_
        refine zz_imul (npc := 86) dX0_weighBehind_85 rfl ?_
        refine zz_iconst (npc := 87) 2 (by decide) dX0_weighBehind_86 rfl ?_
        refine zz_iadd (npc := 88) dX0_weighBehind_87 rfl ?_
        refine zz_iload_n (npc := 89) 4 rfl rfl dX0_weighBehind_88 rfl ?_
        refine zz_iadd (npc := 90) dX0_weighBehind_89 rfl ?_
        refine zz_iald (npc := 91) (by decide) (by rfl) dX0_weighBehind_90 rfl ?_
        refine zz_sub (npc := 0) (lv1 := [(0, .ref (eA E 24)), (1, .int y1), (2, .int y2)]) [2, 3, 4] rfl ?_
        exact zX0_weighBehind_L91 E l (fX0_weighBehind_L25 k19 n) ih y1 y2 (M9 28 (ix (((2 * y1) + 2) + y2))) ((2 * y1) + y2) M9
      · refine zz_iload_n (npc := 71) 1 rfl rfl dX0_weighBehind_70 rfl ?_
        refine zz_iload (npc := 73) 0 rfl dX0_weighBehind_71 rfl ?_
        refine zz_mmax (npc := 76) (List.mem_of_getElem? (i := 3) rfl) (List.mem_of_getElem? (i := 4) rfl) (List.mem_of_getElem? (i := 5) rfl) (List.mem_of_getElem? (i := 6) rfl) (Nat.le_of_ble_eq_true rfl) (Nat.le_of_ble_eq_true rfl) dX0_weighBehind_73 rfl ?_
        refine zz_goto (npc := 0) (tgt := 91) dX0_weighBehind_76 (by decide) ?_
        refine zz_sub (npc := 0) (lv1 := [(0, .ref (eA E 24)), (1, .int y1), (2, .int y2)]) [2, 3, 4] rfl ?_
        exact zX0_weighBehind_L91 E l (fX0_weighBehind_L25 k19 n) ih y1 y2 (imax r5 v8) ((2 * y1) + y2) M9
noncomputable def fX0_weighBehind_L19   : Nat → Int32 → Mem → Option (Unit × Mem)
  | 0, _, _ => none
  | n + 1, y1, M => (if y1 < 0 then (some ((), M)) else (fX0_weighBehind_L25 (fX0_weighBehind_L19  n) fu y1 0 M))
set_option maxHeartbeats 4000000 in
set_option maxRecDepth 100000 in
theorem zX0_weighBehind_L19 (E : EV) (l : Launch)     : ∀ (n : Nat) (y1 : Int32) (M : Mem), ZZ E l RX0 cX0_weighBehind 5 none wsX0_weighBehind rmX0_weighBehind vV (fX0_weighBehind_L19 n y1 M) M [(0, .ref (eA E 24)), (1, .int y1)] 19 [] := by
  intro n
  induction n with
  | zero => intros; exact zz_none
  | succ n ih =>
    intro y1 M
    rw [fX0_weighBehind_L19]
    refine zz_iload_n (npc := 20) 1 rfl rfl dX0_weighBehind_19 rfl ?_
    refine zz_if_lt (tgt := 104) (npc := 23) dX0_weighBehind_20 (by decide) rfl ?_ ?_
    · exact zz_vret dX0_weighBehind_104
    · refine zz_iconst (npc := 24) 0 (by decide) dX0_weighBehind_23 rfl ?_
      refine zz_istore_n (npc := 25) (lv1 := [(2, .int 0), (0, .ref (eA E 24)), (1, .int y1)]) rfl dX0_weighBehind_24 rfl (by decide) rfl ?_
      refine zz_sub (npc := 0) (lv1 := [(0, .ref (eA E 24)), (1, .int y1), (2, .int 0)]) [1, 2, 0] rfl ?_
      exact zX0_weighBehind_L25 E l (fX0_weighBehind_L19  n) ih fu y1 0 M
noncomputable def fX0_weighBehind   (M : Mem) : Option (Unit × Mem) := (ck (inb 32 34) (wm (wr M 28 (ix 32) 0) fun M1 => (ck (inb 33 34) (wm (wr M1 28 (ix 33) 0) fun M2 => (fX0_weighBehind_L19  fu 15 M2)))))
set_option maxHeartbeats 4000000 in
set_option maxRecDepth 100000 in
theorem mtX0_weighBehind (E : EV) (l : Launch)    (M : Mem) : CT E l yX0_weighBehind wsX0_weighBehind rmX0_weighBehind vV [.ref (eA E 24)] (fX0_weighBehind  M) M := by
  refine ct_of (cc := cX0_weighBehind) (nL := 5) (ret := none) (by decide +kernel) rfl (Nat.le_of_ble_eq_true rfl) ?_
  show ZZ E l RX0 cX0_weighBehind 5 none wsX0_weighBehind rmX0_weighBehind vV (fX0_weighBehind  M) M [(0, .ref (eA E 24))] 0 []
  unfold fX0_weighBehind
  refine zz_aload_n (npc := 1) 0 rfl rfl dX0_weighBehind_0 rfl ?_
  refine zz_getR (npc := 4) (i := 3) (C0 := RX0) (T := TX0) (N := 6) (by decide) (by rfl) rfl (by decide) iX0_weighBehind_0 (List.mem_of_getElem? (i := 1) rfl) rfl dX0_weighBehind_1 rfl ?_
  refine zz_bipush (npc := 6) 32 (by decide) dX0_weighBehind_4 rfl ?_
  refine zz_iconst (npc := 7) 0 (by decide) dX0_weighBehind_6 rfl ?_
  refine zz_iast (npc := 8) (by decide) (by rfl) dX0_weighBehind_7 rfl (fun M1 => ?_)
  refine zz_aload_n (npc := 9) 0 rfl rfl dX0_weighBehind_8 rfl ?_
  refine zz_getR (npc := 12) (i := 3) (C0 := RX0) (T := TX0) (N := 6) (by decide) (by rfl) rfl (by decide) iX0_weighBehind_0 (List.mem_of_getElem? (i := 1) rfl) rfl dX0_weighBehind_9 rfl ?_
  refine zz_bipush (npc := 14) 33 (by decide) dX0_weighBehind_12 rfl ?_
  refine zz_iconst (npc := 15) 0 (by decide) dX0_weighBehind_14 rfl ?_
  refine zz_iast (npc := 16) (by decide) (by rfl) dX0_weighBehind_15 rfl (fun M2 => ?_)
  refine zz_bipush (npc := 18) 15 (by decide) dX0_weighBehind_16 rfl ?_
  refine zz_istore_n (npc := 19) (lv1 := [(1, .int 15), (0, .ref (eA E 24))]) rfl dX0_weighBehind_18 rfl (by decide) rfl ?_
  refine zz_sub (npc := 0) (lv1 := [(0, .ref (eA E 24)), (1, .int 15)]) [1, 0] rfl ?_
  exact zX0_weighBehind_L19 E l  fu 15 M2
abbrev rmX0_choose : Room := { frames := 2, cells := 0, slots := 0, locals := 43 }
theorem iX0_choose_0 : ∀ w ∈ u_ws RX0 TX0 6, w ∈ wsX0_choose := fun w h => List.mem_cons_of_mem _ (List.mem_append_right _ h)
noncomputable def fX0_choose_L96  (k18 : Int32 → Int32 → Mem → Option (Unit × Mem)) (y1 : Int32) (y2 : Int32) (M : Mem) : Option (Unit × Mem) := (bv (y2 + 1) fun v7 => (k18 y1 v7 M))
set_option maxHeartbeats 4000000 in
set_option maxRecDepth 100000 in
theorem zX0_choose_L96 (E : EV) (l : Launch)   (k18 : Int32 → Int32 → Mem → Option (Unit × Mem)) (hk18 : ∀ (y1_ : Int32) (y2_ : Int32) (M_ : Mem), ZZ E l RX0 cX0_choose 5 none wsX0_choose rmX0_choose vV (k18 y1_ y2_ M_) M_ [(0, .ref (eA E 24)), (1, .int y1_), (2, .int y2_)] 18 []) : ∀ (y1 : Int32) (y2 : Int32) (M : Mem), ZZ E l RX0 cX0_choose 5 none wsX0_choose rmX0_choose vV (fX0_choose_L96 k18 y1 y2 M) M [(0, .ref (eA E 24)), (1, .int y1), (2, .int y2)] 96 [] := by
  intro y1 y2 M
  unfold fX0_choose_L96
  refine zz_iincB (npc := 99) (y2 + 1) (lv1 := fun v7 => [(2, .int v7), (0, .ref (eA E 24)), (1, .int y1)]) dX0_choose_96 rfl 2 rfl rfl (by decide) (fun _ => rfl) (fun v7 => ?_)
  refine zz_goto (npc := 0) (tgt := 18) dX0_choose_99 (by decide) ?_
  refine zz_sub (npc := 0) (lv1 := [(0, .ref (eA E 24)), (1, .int y1), (2, .int v7)]) [1, 2, 0] rfl ?_
  exact hk18 y1 v7 M
noncomputable def fX0_choose_L83  (k18 : Int32 → Int32 → Mem → Option (Unit × Mem)) (y2 : Int32) (w0 : Int32) (M : Mem) : Option (Unit × Mem) := (ck (inb w0 2) (ck (inb w0 2) (wm (wr M 27 (ix w0) ((M 27 (ix w0)) ||| (shl 1 y2))) fun M12 => (fX0_choose_L96 k18 w0 y2 M12))))
set_option maxHeartbeats 4000000 in
set_option maxRecDepth 100000 in
theorem zX0_choose_L83 (E : EV) (l : Launch)   (k18 : Int32 → Int32 → Mem → Option (Unit × Mem)) (hk18 : ∀ (y1_ : Int32) (y2_ : Int32) (M_ : Mem), ZZ E l RX0 cX0_choose 5 none wsX0_choose rmX0_choose vV (k18 y1_ y2_ M_) M_ [(0, .ref (eA E 24)), (1, .int y1_), (2, .int y2_)] 18 []) : ∀ (y2 : Int32) (w0 : Int32) (M : Mem), ZZ E l RX0 cX0_choose 5 none wsX0_choose rmX0_choose vV (fX0_choose_L83 k18 y2 w0 M) M [(0, .ref (eA E 24)), (2, .int y2)] 83 [.int w0] := by
  intro y2 w0 M
  unfold fX0_choose_L83
  refine zz_istore_n (npc := 84) (lv1 := [(1, .int w0), (0, .ref (eA E 24)), (2, .int y2)]) rfl dX0_choose_83 rfl (by decide) rfl ?_
  refine zz_aload_n (npc := 85) 1 rfl rfl dX0_choose_84 rfl ?_
  refine zz_getR (npc := 88) (i := 2) (C0 := RX0) (T := TX0) (N := 6) (by decide) (by rfl) rfl (by decide) iX0_choose_0 (List.mem_of_getElem? (i := 1) rfl) rfl dX0_choose_85 rfl ?_
  refine zz_iload_n (npc := 89) 0 rfl rfl dX0_choose_88 rfl ?_
  refine zz_dup2 (npc := 90) rfl rfl dX0_choose_89 rfl ?_
  refine zz_iald (npc := 91) (by decide) (by rfl) dX0_choose_90 rfl ?_
  refine zz_iconst (npc := 92) 1 (by decide) dX0_choose_91 rfl ?_
  refine zz_iload_n (npc := 93) 2 rfl rfl dX0_choose_92 rfl ?_
  refine zz_ishl (npc := 94) dX0_choose_93 rfl ?_
  refine zz_ior (npc := 95) dX0_choose_94 rfl ?_
  refine zz_iast (npc := 96) (by decide) (by rfl) dX0_choose_95 rfl (fun M12 => ?_)
  refine zz_sub (npc := 0) (lv1 := [(0, .ref (eA E 24)), (1, .int w0), (2, .int y2)]) [1, 0, 2] rfl ?_
  exact zX0_choose_L96 E l k18 hk18 w0 y2 M12
noncomputable def fX0_choose_L69  (k18 : Int32 → Int32 → Mem → Option (Unit × Mem)) (y2 : Int32) (y3 : Int32) (w0 : Int32) (w1 : Int32) (M : Mem) : Option (Unit × Mem) := (bv (w1 - w0) fun v11 => (if v11 ≤ y3 then (fX0_choose_L83 k18 y2 0 M) else (fX0_choose_L83 k18 y2 1 M)))
set_option maxHeartbeats 4000000 in
set_option maxRecDepth 100000 in
theorem zX0_choose_L69 (E : EV) (l : Launch)   (k18 : Int32 → Int32 → Mem → Option (Unit × Mem)) (hk18 : ∀ (y1_ : Int32) (y2_ : Int32) (M_ : Mem), ZZ E l RX0 cX0_choose 5 none wsX0_choose rmX0_choose vV (k18 y1_ y2_ M_) M_ [(0, .ref (eA E 24)), (1, .int y1_), (2, .int y2_)] 18 []) : ∀ (y2 : Int32) (y3 : Int32) (w0 : Int32) (w1 : Int32) (M : Mem), ZZ E l RX0 cX0_choose 5 none wsX0_choose rmX0_choose vV (fX0_choose_L69 k18 y2 y3 w0 w1 M) M [(0, .ref (eA E 24)), (2, .int y2), (3, .int y3)] 69 [.int w0, .int w1] := by
  intro y2 y3 w0 w1 M
  unfold fX0_choose_L69
  refine zz_isub (npc := 70) dX0_choose_69 rfl ?_
  refine zz_istoreB (npc := 72) (lv1 := fun v11 => [(4, .int v11), (0, .ref (eA E 24)), (2, .int y2), (3, .int y3)]) dX0_choose_70 rfl (by decide) (fun _ => rfl) (fun v11 => ?_)
  refine zz_iload (npc := 74) 0 rfl dX0_choose_72 rfl ?_
  refine zz_iload_n (npc := 75) 3 rfl rfl dX0_choose_74 rfl ?_
  refine zz_icmp_le (tgt := 82) (npc := 78) dX0_choose_75 (by decide) rfl ?_ ?_
  · refine zz_iconst (npc := 83) 0 (by decide) dX0_choose_82 rfl ?_
    refine zz_sub (npc := 0) (lv1 := [(0, .ref (eA E 24)), (2, .int y2)]) [1, 2] rfl ?_
    exact zX0_choose_L83 E l k18 hk18 y2 0 M
  · refine zz_iconst (npc := 79) 1 (by decide) dX0_choose_78 rfl ?_
    refine zz_goto (npc := 0) (tgt := 83) dX0_choose_79 (by decide) ?_
    refine zz_sub (npc := 0) (lv1 := [(0, .ref (eA E 24)), (2, .int y2)]) [1, 2] rfl ?_
    exact zX0_choose_L83 E l k18 hk18 y2 1 M
noncomputable def fX0_choose_L52  (k18 : Int32 → Int32 → Mem → Option (Unit × Mem)) (y1 : Int32) (y2 : Int32) (w0 : Int32) (w1 : Int32) (M : Mem) : Option (Unit × Mem) := (bv (w1 - w0) fun v8 => (bd (fX0_worthOf 1 y2 M) fun r10 M9 => (if y1 = 0 then (fX0_choose_L69 k18 y2 v8 1 r10 M9) else (fX0_choose_L69 k18 y2 v8 0 r10 M9))))
set_option maxHeartbeats 4000000 in
set_option maxRecDepth 100000 in
theorem zX0_choose_L52 (E : EV) (l : Launch)   (k18 : Int32 → Int32 → Mem → Option (Unit × Mem)) (hk18 : ∀ (y1_ : Int32) (y2_ : Int32) (M_ : Mem), ZZ E l RX0 cX0_choose 5 none wsX0_choose rmX0_choose vV (k18 y1_ y2_ M_) M_ [(0, .ref (eA E 24)), (1, .int y1_), (2, .int y2_)] 18 []) : ∀ (y1 : Int32) (y2 : Int32) (w0 : Int32) (w1 : Int32) (M : Mem), ZZ E l RX0 cX0_choose 5 none wsX0_choose rmX0_choose vV (fX0_choose_L52 k18 y1 y2 w0 w1 M) M [(0, .ref (eA E 24)), (1, .int y1), (2, .int y2)] 52 [.int w0, .int w1] := by
  intro y1 y2 w0 w1 M
  unfold fX0_choose_L52
  refine zz_isub (npc := 53) dX0_choose_52 rfl ?_
  refine zz_istore_nB (npc := 54) (lv1 := fun v8 => [(3, .int v8), (0, .ref (eA E 24)), (1, .int y1), (2, .int y2)]) rfl dX0_choose_53 rfl (by decide) (fun _ => rfl) (fun v8 => ?_)
  refine zz_aload_n (npc := 55) 1 rfl rfl dX0_choose_54 rfl ?_
  refine zz_iconst (npc := 56) 1 (by decide) dX0_choose_55 rfl ?_
  refine zz_iload_n (npc := 57) 3 rfl rfl dX0_choose_56 rfl ?_
  refine zz_callVi (npc := 60) (n := 2) (As := [.int 1, .int y2]) (by decide) (by rfl) rfl gX0_choose_X0_worthOf rfl rfl rfl (by decide +kernel) ⟨Nat.le_of_ble_eq_true rfl, Nat.le_of_ble_eq_true rfl⟩ rfl rfl (Nat.le_of_ble_eq_true rfl) (mtX0_worthOf E l  1 y2 M) dX0_choose_57 rfl (fun r10 M9 _ => ?_)
  refine zz_iload_n (npc := 61) 2 rfl rfl dX0_choose_60 rfl ?_
  refine zz_if_ne (tgt := 68) (npc := 64) dX0_choose_61 (by decide) rfl ?_ ?_
  · refine zz_iconst (npc := 69) 0 (by decide) dX0_choose_68 rfl ?_
    refine zz_sub (npc := 0) (lv1 := [(0, .ref (eA E 24)), (2, .int y2), (3, .int v8)]) [1, 3, 0] rfl ?_
    exact zX0_choose_L69 E l k18 hk18 y2 v8 0 r10 M9
  · refine zz_iconst (npc := 65) 1 (by decide) dX0_choose_64 rfl ?_
    refine zz_goto (npc := 0) (tgt := 69) dX0_choose_65 (by decide) ?_
    refine zz_sub (npc := 0) (lv1 := [(0, .ref (eA E 24)), (2, .int y2), (3, .int v8)]) [1, 3, 0] rfl ?_
    exact zX0_choose_L69 E l k18 hk18 y2 v8 1 r10 M9
noncomputable def fX0_choose_L18   : Nat → Int32 → Int32 → Mem → Option (Unit × Mem)
  | 0, _, _, _ => none
  | n + 1, y1, y2, M => (if 16 ≤ y2 then (some ((), M)) else (bd (fX7_bit (M 24 4) y2 M) fun r4 M3 => (if r4 = 1 then (bd (fX0_worthOf 0 y2 M3) fun r6 M5 => (if y1 = 1 then (fX0_choose_L52 (fX0_choose_L18  n) y1 y2 1 r6 M5) else (fX0_choose_L52 (fX0_choose_L18  n) y1 y2 0 r6 M5))) else (fX0_choose_L96 (fX0_choose_L18  n) y1 y2 M3))))
set_option maxHeartbeats 4000000 in
set_option maxRecDepth 100000 in
theorem zX0_choose_L18 (E : EV) (l : Launch)     : ∀ (n : Nat) (y1 : Int32) (y2 : Int32) (M : Mem), ZZ E l RX0 cX0_choose 5 none wsX0_choose rmX0_choose vV (fX0_choose_L18 n y1 y2 M) M [(0, .ref (eA E 24)), (1, .int y1), (2, .int y2)] 18 [] := by
  intro n
  induction n with
  | zero => intros; exact zz_none
  | succ n ih =>
    intro y1 y2 M
    rw [fX0_choose_L18]
    refine zz_iload_n (npc := 19) 2 rfl rfl dX0_choose_18 rfl ?_
    refine zz_bipush (npc := 21) 16 (by decide) dX0_choose_19 rfl ?_
    refine zz_icmp_ge (tgt := 102) (npc := 24) dX0_choose_21 (by decide) rfl ?_ ?_
    · exact zz_vret dX0_choose_102
    · refine zz_aload_n (npc := 25) 0 rfl rfl dX0_choose_24 rfl ?_
      refine zz_getI (npc := 28) (i := 4) (C0 := RX0) (T := TX0) (N := 6) (by decide) (by rfl) rfl (by decide) iX0_choose_0 (List.mem_of_getElem? (i := 2) rfl) rfl dX0_choose_25 rfl ?_
      refine zz_iload_n (npc := 29) 2 rfl rfl dX0_choose_28 rfl ?_
      refine zz_callNi (npc := 32) (n := 2) (As := [.int (M 24 4), .int y2]) (host := "SharedShadow") gX0_choose_X7_bit_n63 (List.mem_of_getElem? (i := 8) rfl) (List.mem_of_getElem? (i := 3) rfl) (List.mem_of_getElem? (i := 4) rfl) rfl rfl rfl (by decide +kernel) ⟨Nat.le_of_ble_eq_true rfl, Nat.le_of_ble_eq_true rfl⟩ rfl rfl (Nat.le_of_ble_eq_true rfl) (mtX7_bit E l  (M 24 4) y2 M) dX0_choose_29 rfl (fun r4 M3 _ => ?_)
      refine zz_iconst (npc := 33) 1 (by decide) dX0_choose_32 rfl ?_
      refine zz_icmp_ne (tgt := 96) (npc := 36) dX0_choose_33 (by decide) rfl ?_ ?_
      · exact zX0_choose_L96 E l (fX0_choose_L18  n) ih y1 y2 M3
      · refine zz_aload_n (npc := 37) 0 rfl rfl dX0_choose_36 rfl ?_
        refine zz_iconst (npc := 38) 0 (by decide) dX0_choose_37 rfl ?_
        refine zz_iload_n (npc := 39) 2 rfl rfl dX0_choose_38 rfl ?_
        refine zz_callVi (npc := 42) (n := 2) (As := [.int 0, .int y2]) (by decide) (by rfl) rfl gX0_choose_X0_worthOf rfl rfl rfl (by decide +kernel) ⟨Nat.le_of_ble_eq_true rfl, Nat.le_of_ble_eq_true rfl⟩ rfl rfl (Nat.le_of_ble_eq_true rfl) (mtX0_worthOf E l  0 y2 M3) dX0_choose_39 rfl (fun r6 M5 _ => ?_)
        refine zz_iload_n (npc := 43) 1 rfl rfl dX0_choose_42 rfl ?_
        refine zz_iconst (npc := 44) 1 (by decide) dX0_choose_43 rfl ?_
        refine zz_icmp_ne (tgt := 51) (npc := 47) dX0_choose_44 (by decide) rfl ?_ ?_
        · refine zz_iconst (npc := 52) 0 (by decide) dX0_choose_51 rfl ?_
          exact zX0_choose_L52 E l (fX0_choose_L18  n) ih y1 y2 0 r6 M5
        · refine zz_iconst (npc := 48) 1 (by decide) dX0_choose_47 rfl ?_
          refine zz_goto (npc := 0) (tgt := 52) dX0_choose_48 (by decide) ?_
          exact zX0_choose_L52 E l (fX0_choose_L18  n) ih y1 y2 1 r6 M5
noncomputable def fX0_choose   (M : Mem) : Option (Unit × Mem) := (ck (inb 0 2) (wm (wr M 27 (ix 0) 0) fun M1 => (ck (inb 1 2) (wm (wr M1 27 (ix 1) 0) fun M2 => (fX0_choose_L18  fu (-1) 0 M2)))))
set_option maxHeartbeats 4000000 in
set_option maxRecDepth 100000 in
theorem mtX0_choose (E : EV) (l : Launch)    (M : Mem) : CT E l yX0_choose wsX0_choose rmX0_choose vV [.ref (eA E 24)] (fX0_choose  M) M := by
  refine ct_of (cc := cX0_choose) (nL := 5) (ret := none) (by decide +kernel) rfl (Nat.le_of_ble_eq_true rfl) ?_
  show ZZ E l RX0 cX0_choose 5 none wsX0_choose rmX0_choose vV (fX0_choose  M) M [(0, .ref (eA E 24))] 0 []
  unfold fX0_choose
  refine zz_aload_n (npc := 1) 0 rfl rfl dX0_choose_0 rfl ?_
  refine zz_getR (npc := 4) (i := 2) (C0 := RX0) (T := TX0) (N := 6) (by decide) (by rfl) rfl (by decide) iX0_choose_0 (List.mem_of_getElem? (i := 1) rfl) rfl dX0_choose_1 rfl ?_
  refine zz_iconst (npc := 5) 0 (by decide) dX0_choose_4 rfl ?_
  refine zz_iconst (npc := 6) 0 (by decide) dX0_choose_5 rfl ?_
  refine zz_iast (npc := 7) (by decide) (by rfl) dX0_choose_6 rfl (fun M1 => ?_)
  refine zz_aload_n (npc := 8) 0 rfl rfl dX0_choose_7 rfl ?_
  refine zz_getR (npc := 11) (i := 2) (C0 := RX0) (T := TX0) (N := 6) (by decide) (by rfl) rfl (by decide) iX0_choose_0 (List.mem_of_getElem? (i := 1) rfl) rfl dX0_choose_8 rfl ?_
  refine zz_iconst (npc := 12) 1 (by decide) dX0_choose_11 rfl ?_
  refine zz_iconst (npc := 13) 0 (by decide) dX0_choose_12 rfl ?_
  refine zz_iast (npc := 14) (by decide) (by rfl) dX0_choose_13 rfl (fun M2 => ?_)
  refine zz_iconst (npc := 15) (-1) (by decide) dX0_choose_14 rfl ?_
  refine zz_istore_n (npc := 16) (lv1 := [(1, .int (-1)), (0, .ref (eA E 24))]) rfl dX0_choose_15 rfl (by decide) rfl ?_
  refine zz_iconst (npc := 17) 0 (by decide) dX0_choose_16 rfl ?_
  refine zz_istore_n (npc := 18) (lv1 := [(2, .int 0), (1, .int (-1)), (0, .ref (eA E 24))]) rfl dX0_choose_17 rfl (by decide) rfl ?_
  refine zz_sub (npc := 0) (lv1 := [(0, .ref (eA E 24)), (1, .int (-1)), (2, .int 0)]) [2, 1, 0] rfl ?_
  exact zX0_choose_L18 E l  fu (-1) 0 M2
abbrev rmX0_make : Room := { frames := 3, cells := 0, slots := 0, locals := 67 }
theorem iX0_make_0 : ∀ w ∈ u_ws RX0 TX0 6, w ∈ wsX0_make := fun w h => List.mem_cons_of_mem _ (List.mem_append_left _ (List.mem_append_right _ h))
theorem iX0_make_1 : ∀ w ∈ u_ws RX1 TX1 12, w ∈ wsX0_make := fun w h => List.mem_cons_of_mem _ (List.mem_append_right _ h)
noncomputable def fX0_make (d1 : Nat) (x2 : Int32) (x3 : Int32) (M : Mem) : Option (Unit × Mem) := (bd (fX1_areTwo d1 x2 x3 M) fun r2 M1 => (if r2 = 0 then (some ((), M1)) else (ck (inb 0 2) (wm (wr M1 25 (ix 0) (imin x2 x3)) fun M3 => (ck (inb 1 2) (wm (wr M3 25 (ix 1) (imax x2 x3)) fun M4 => (ck (inb 0 2) (ck (inb (M4 25 (ix 0)) 8) (ck (inb 0 2) (wm (wr M4 26 (ix 0) (M4 (d1 + 4) (ix (M4 25 (ix 0))))) fun M5 => (ck (inb 1 2) (ck (inb (M5 25 (ix 1)) 8) (ck (inb 1 2) (wm (wr M5 26 (ix 1) (M5 (d1 + 4) (ix (M5 25 (ix 1))))) fun M6 => (bd (fX1_hoursLeft d1 M6) fun r8 M7 => (wm (wr M7 24 4 (r8 &&& (M7 d1 7))) fun M9 => (bd (fX1_hoursLeft d1 M9) fun r11 M10 => (wm (wr M10 24 5 (r11 &&& ((M10 d1 7) ^^^ (-1)))) fun M12 => (bd (fX0_weighBehind M12) fun _ M13 => (bd (fX0_choose M13) fun _ M14 => (some ((), M14))))))))))))))))))))))
set_option maxHeartbeats 4000000 in
set_option maxRecDepth 100000 in
theorem mtX0_make (E : EV) (l : Launch) (d1 : Nat) (hd1 : isLd d1) (x2 : Int32) (x3 : Int32) (M : Mem) : CT E l yX0_make wsX0_make rmX0_make vV [.ref (eA E 24), .ref (eA E d1), .int x2, .int x3] (fX0_make d1 x2 x3 M) M := by
  refine ct_of (cc := cX0_make) (nL := 4) (ret := none) (by decide +kernel) rfl (Nat.le_of_ble_eq_true rfl) ?_
  show ZZ E l RX0 cX0_make 4 none wsX0_make rmX0_make vV (fX0_make d1 x2 x3 M) M [(0, .ref (eA E 24)), (1, .ref (eA E d1)), (2, .int x2), (3, .int x3)] 0 []
  unfold fX0_make
  refine zz_aload_n (npc := 1) 1 rfl rfl dX0_make_0 rfl ?_
  refine zz_iload_n (npc := 2) 2 rfl rfl dX0_make_1 rfl ?_
  refine zz_iload_n (npc := 3) 3 rfl rfl dX0_make_2 rfl ?_
  refine zz_callVi (npc := 6) (n := 2) (As := [.int x2, .int x3]) (ld_lt0 hd1) (ld_o hd1) rfl gX0_make_X1_areTwo rfl rfl rfl (by decide +kernel) ⟨Nat.le_of_ble_eq_true rfl, Nat.le_of_ble_eq_true rfl⟩ rfl rfl (Nat.le_of_ble_eq_true rfl) (mtX1_areTwo E l d1 hd1 x2 x3 M) dX0_make_3 rfl (fun r2 M1 _ => ?_)
  refine zz_if_ne (tgt := 10) (npc := 9) dX0_make_6 (by decide) rfl ?_ ?_
  · refine zz_aload_n (npc := 11) 0 rfl rfl dX0_make_10 rfl ?_
    refine zz_getR (npc := 14) (i := 0) (C0 := RX0) (T := TX0) (N := 6) (by decide) (by rfl) rfl (by decide) iX0_make_0 (List.mem_of_getElem? (i := 1) rfl) rfl dX0_make_11 rfl ?_
    refine zz_iconst (npc := 15) 0 (by decide) dX0_make_14 rfl ?_
    refine zz_iload_n (npc := 16) 2 rfl rfl dX0_make_15 rfl ?_
    refine zz_iload_n (npc := 17) 3 rfl rfl dX0_make_16 rfl ?_
    refine zz_mmin (npc := 20) (List.mem_of_getElem? (i := 2) rfl) (List.mem_of_getElem? (i := 3) rfl) (List.mem_of_getElem? (i := 4) rfl) (List.mem_of_getElem? (i := 5) rfl) (Nat.le_of_ble_eq_true rfl) (Nat.le_of_ble_eq_true rfl) dX0_make_17 rfl ?_
    refine zz_iast (npc := 21) (by decide) (by rfl) dX0_make_20 rfl (fun M3 => ?_)
    refine zz_aload_n (npc := 22) 0 rfl rfl dX0_make_21 rfl ?_
    refine zz_getR (npc := 25) (i := 0) (C0 := RX0) (T := TX0) (N := 6) (by decide) (by rfl) rfl (by decide) iX0_make_0 (List.mem_of_getElem? (i := 1) rfl) rfl dX0_make_22 rfl ?_
    refine zz_iconst (npc := 26) 1 (by decide) dX0_make_25 rfl ?_
    refine zz_iload_n (npc := 27) 2 rfl rfl dX0_make_26 rfl ?_
    refine zz_iload_n (npc := 28) 3 rfl rfl dX0_make_27 rfl ?_
    refine zz_mmax (npc := 31) (List.mem_of_getElem? (i := 6) rfl) (List.mem_of_getElem? (i := 7) rfl) (List.mem_of_getElem? (i := 4) rfl) (List.mem_of_getElem? (i := 8) rfl) (Nat.le_of_ble_eq_true rfl) (Nat.le_of_ble_eq_true rfl) dX0_make_28 rfl ?_
    refine zz_iast (npc := 32) (by decide) (by rfl) dX0_make_31 rfl (fun M4 => ?_)
    refine zz_aload_n (npc := 33) 0 rfl rfl dX0_make_32 rfl ?_
    refine zz_getR (npc := 36) (i := 1) (C0 := RX0) (T := TX0) (N := 6) (by decide) (by rfl) rfl (by decide) iX0_make_0 (List.mem_of_getElem? (i := 9) rfl) rfl dX0_make_33 rfl ?_
    refine zz_iconst (npc := 37) 0 (by decide) dX0_make_36 rfl ?_
    refine zz_aload_n (npc := 38) 1 rfl rfl dX0_make_37 rfl ?_
    refine zz_getR (npc := 41) (i := 3) (C0 := RX1) (T := TX1) (N := 12) (ld_lt0 hd1) (ld_o hd1) rfl (by decide) iX0_make_1 (List.mem_of_getElem? (i := 10) rfl) rfl dX0_make_38 rfl ?_
    refine zz_aload_n (npc := 42) 0 rfl rfl dX0_make_41 rfl ?_
    refine zz_getR (npc := 45) (i := 0) (C0 := RX0) (T := TX0) (N := 6) (by decide) (by rfl) rfl (by decide) iX0_make_0 (List.mem_of_getElem? (i := 1) rfl) rfl dX0_make_42 rfl ?_
    refine zz_iconst (npc := 46) 0 (by decide) dX0_make_45 rfl ?_
    refine zz_iald (npc := 47) (by decide) (by rfl) dX0_make_46 rfl ?_
    refine zz_iald (npc := 48) (ld_lt4 hd1) (ld_a4 hd1) dX0_make_47 rfl ?_
    refine zz_iast (npc := 49) (by decide) (by rfl) dX0_make_48 rfl (fun M5 => ?_)
    refine zz_aload_n (npc := 50) 0 rfl rfl dX0_make_49 rfl ?_
    refine zz_getR (npc := 53) (i := 1) (C0 := RX0) (T := TX0) (N := 6) (by decide) (by rfl) rfl (by decide) iX0_make_0 (List.mem_of_getElem? (i := 9) rfl) rfl dX0_make_50 rfl ?_
    refine zz_iconst (npc := 54) 1 (by decide) dX0_make_53 rfl ?_
    refine zz_aload_n (npc := 55) 1 rfl rfl dX0_make_54 rfl ?_
    refine zz_getR (npc := 58) (i := 3) (C0 := RX1) (T := TX1) (N := 12) (ld_lt0 hd1) (ld_o hd1) rfl (by decide) iX0_make_1 (List.mem_of_getElem? (i := 10) rfl) rfl dX0_make_55 rfl ?_
    refine zz_aload_n (npc := 59) 0 rfl rfl dX0_make_58 rfl ?_
    refine zz_getR (npc := 62) (i := 0) (C0 := RX0) (T := TX0) (N := 6) (by decide) (by rfl) rfl (by decide) iX0_make_0 (List.mem_of_getElem? (i := 1) rfl) rfl dX0_make_59 rfl ?_
    refine zz_iconst (npc := 63) 1 (by decide) dX0_make_62 rfl ?_
    refine zz_iald (npc := 64) (by decide) (by rfl) dX0_make_63 rfl ?_
    refine zz_iald (npc := 65) (ld_lt4 hd1) (ld_a4 hd1) dX0_make_64 rfl ?_
    refine zz_iast (npc := 66) (by decide) (by rfl) dX0_make_65 rfl (fun M6 => ?_)
    refine zz_aload_n (npc := 67) 0 rfl rfl dX0_make_66 rfl ?_
    refine zz_aload_n (npc := 68) 1 rfl rfl dX0_make_67 rfl ?_
    refine zz_callVi (npc := 71) (n := 0) (As := []) (ld_lt0 hd1) (ld_o hd1) rfl gX0_make_X1_hoursLeft rfl rfl rfl (by decide +kernel) ⟨Nat.le_of_ble_eq_true rfl, Nat.le_of_ble_eq_true rfl⟩ rfl rfl (Nat.le_of_ble_eq_true rfl) (mtX1_hoursLeft E l d1 hd1  M6) dX0_make_68 rfl (fun r8 M7 _ => ?_)
    refine zz_aload_n (npc := 72) 1 rfl rfl dX0_make_71 rfl ?_
    refine zz_getI (npc := 75) (i := 7) (C0 := RX1) (T := TX1) (N := 12) (ld_lt0 hd1) (ld_o hd1) rfl (by decide) iX0_make_1 (List.mem_of_getElem? (i := 11) rfl) rfl dX0_make_72 rfl ?_
    refine zz_iand (npc := 76) dX0_make_75 rfl ?_
    refine zz_putI (npc := 79) (i := 4) (C0 := RX0) (T := TX0) (N := 6) (by decide) (by rfl) rfl (by decide) iX0_make_0 (List.mem_of_getElem? (i := 12) rfl) tyX0_ok nmX0 rfl rfl rfl dX0_make_76 rfl (fun M9 => ?_)
    refine zz_aload_n (npc := 80) 0 rfl rfl dX0_make_79 rfl ?_
    refine zz_aload_n (npc := 81) 1 rfl rfl dX0_make_80 rfl ?_
    refine zz_callVi (npc := 84) (n := 0) (As := []) (ld_lt0 hd1) (ld_o hd1) rfl gX0_make_X1_hoursLeft rfl rfl rfl (by decide +kernel) ⟨Nat.le_of_ble_eq_true rfl, Nat.le_of_ble_eq_true rfl⟩ rfl rfl (Nat.le_of_ble_eq_true rfl) (mtX1_hoursLeft E l d1 hd1  M9) dX0_make_81 rfl (fun r11 M10 _ => ?_)
    refine zz_aload_n (npc := 85) 1 rfl rfl dX0_make_84 rfl ?_
    refine zz_getI (npc := 88) (i := 7) (C0 := RX1) (T := TX1) (N := 12) (ld_lt0 hd1) (ld_o hd1) rfl (by decide) iX0_make_1 (List.mem_of_getElem? (i := 11) rfl) rfl dX0_make_85 rfl ?_
    refine zz_iconst (npc := 89) (-1) (by decide) dX0_make_88 rfl ?_
    refine zz_ixor (npc := 90) dX0_make_89 rfl ?_
    refine zz_iand (npc := 91) dX0_make_90 rfl ?_
    refine zz_putI (npc := 94) (i := 5) (C0 := RX0) (T := TX0) (N := 6) (by decide) (by rfl) rfl (by decide) iX0_make_0 (List.mem_of_getElem? (i := 13) rfl) tyX0_ok nmX0 rfl rfl rfl dX0_make_91 rfl (fun M12 => ?_)
    refine zz_aload_n (npc := 95) 0 rfl rfl dX0_make_94 rfl ?_
    refine zz_callVv (npc := 98) (n := 0) (As := []) (by decide) (by rfl) rfl gX0_make_X0_weighBehind rfl rfl rfl (by decide +kernel) ⟨Nat.le_of_ble_eq_true rfl, Nat.le_of_ble_eq_true rfl⟩ rfl rfl (Nat.le_of_ble_eq_true rfl) (mtX0_weighBehind E l   M12) dX0_make_95 rfl (fun _ M13 _ => ?_)
    refine zz_aload_n (npc := 99) 0 rfl rfl dX0_make_98 rfl ?_
    refine zz_callVv (npc := 102) (n := 0) (As := []) (by decide) (by rfl) rfl gX0_make_X0_choose rfl rfl rfl (by decide +kernel) ⟨Nat.le_of_ble_eq_true rfl, Nat.le_of_ble_eq_true rfl⟩ rfl rfl (Nat.le_of_ble_eq_true rfl) (mtX0_choose E l   M13) dX0_make_99 rfl (fun _ M14 _ => ?_)
    exact zz_vret dX0_make_102
  · exact zz_vret dX0_make_9
abbrev rmX0_holderAt : Room := { frames := 1, cells := 0, slots := 0, locals := 21 }
theorem iX0_holderAt_0 : ∀ w ∈ u_ws RX0 TX0 6, w ∈ wsX0_holderAt := fun w h => List.mem_cons_of_mem _ (List.mem_append_right _ h)
noncomputable def fX0_holderAt  (x1 : Int32) (M : Mem) : Option (Int32 × Mem) := (bd (fX7_bit (M 24 4) x1 M) fun r2 M1 => (if r2 = 0 then (some ((-1), M1)) else (ck (inb 1 2) (bd (fX7_bit (M1 27 (ix 1)) x1 M1) fun r4 M3 => (ck (inb r4 2) (some (M3 25 (ix r4), M3)))))))
set_option maxHeartbeats 4000000 in
set_option maxRecDepth 100000 in
theorem mtX0_holderAt (E : EV) (l : Launch)   (x1 : Int32) (M : Mem) : CT E l yX0_holderAt wsX0_holderAt rmX0_holderAt vI [.ref (eA E 24), .int x1] (fX0_holderAt x1 M) M := by
  refine ct_of (cc := cX0_holderAt) (nL := 2) (ret := (some .int)) (by decide +kernel) rfl (Nat.le_of_ble_eq_true rfl) ?_
  show ZZ E l RX0 cX0_holderAt 2 (some .int) wsX0_holderAt rmX0_holderAt vI (fX0_holderAt x1 M) M [(0, .ref (eA E 24)), (1, .int x1)] 0 []
  unfold fX0_holderAt
  refine zz_aload_n (npc := 1) 0 rfl rfl dX0_holderAt_0 rfl ?_
  refine zz_getI (npc := 4) (i := 4) (C0 := RX0) (T := TX0) (N := 6) (by decide) (by rfl) rfl (by decide) iX0_holderAt_0 (List.mem_of_getElem? (i := 1) rfl) rfl dX0_holderAt_1 rfl ?_
  refine zz_iload_n (npc := 5) 1 rfl rfl dX0_holderAt_4 rfl ?_
  refine zz_callNi (npc := 8) (n := 2) (As := [.int (M 24 4), .int x1]) (host := "SharedShadow") gX0_holderAt_X7_bit_n63 (List.mem_of_getElem? (i := 8) rfl) (List.mem_of_getElem? (i := 4) rfl) (List.mem_of_getElem? (i := 5) rfl) rfl rfl rfl (by decide +kernel) ⟨Nat.le_of_ble_eq_true rfl, Nat.le_of_ble_eq_true rfl⟩ rfl rfl (Nat.le_of_ble_eq_true rfl) (mtX7_bit E l  (M 24 4) x1 M) dX0_holderAt_5 rfl (fun r2 M1 _ => ?_)
  refine zz_if_ne (tgt := 13) (npc := 11) dX0_holderAt_8 (by decide) rfl ?_ ?_
  · refine zz_aload_n (npc := 14) 0 rfl rfl dX0_holderAt_13 rfl ?_
    refine zz_getR (npc := 17) (i := 0) (C0 := RX0) (T := TX0) (N := 6) (by decide) (by rfl) rfl (by decide) iX0_holderAt_0 (List.mem_of_getElem? (i := 2) rfl) rfl dX0_holderAt_14 rfl ?_
    refine zz_aload_n (npc := 18) 0 rfl rfl dX0_holderAt_17 rfl ?_
    refine zz_getR (npc := 21) (i := 2) (C0 := RX0) (T := TX0) (N := 6) (by decide) (by rfl) rfl (by decide) iX0_holderAt_0 (List.mem_of_getElem? (i := 3) rfl) rfl dX0_holderAt_18 rfl ?_
    refine zz_iconst (npc := 22) 1 (by decide) dX0_holderAt_21 rfl ?_
    refine zz_iald (npc := 23) (by decide) (by rfl) dX0_holderAt_22 rfl ?_
    refine zz_iload_n (npc := 24) 1 rfl rfl dX0_holderAt_23 rfl ?_
    refine zz_callNi (npc := 27) (n := 2) (As := [.int (M1 27 (ix 1)), .int x1]) (host := "SharedShadow") gX0_holderAt_X7_bit_n63 (List.mem_of_getElem? (i := 8) rfl) (List.mem_of_getElem? (i := 4) rfl) (List.mem_of_getElem? (i := 5) rfl) rfl rfl rfl (by decide +kernel) ⟨Nat.le_of_ble_eq_true rfl, Nat.le_of_ble_eq_true rfl⟩ rfl rfl (Nat.le_of_ble_eq_true rfl) (mtX7_bit E l  (M1 27 (ix 1)) x1 M1) dX0_holderAt_24 rfl (fun r4 M3 _ => ?_)
    refine zz_iald (npc := 28) (by decide) (by rfl) dX0_holderAt_27 rfl ?_
    exact zz_iret dX0_holderAt_28
  · refine zz_iconst (npc := 12) (-1) (by decide) dX0_holderAt_11 rfl ?_
    exact zz_iret dX0_holderAt_12
abbrev rmX0_metOfSide : Room := { frames := 1, cells := 0, slots := 0, locals := 21 }
theorem iX0_metOfSide_0 : ∀ w ∈ u_ws RX0 TX0 6, w ∈ wsX0_metOfSide := fun w h => List.mem_cons_of_mem _ (List.mem_append_right _ h)
noncomputable def fX0_metOfSide  (x1 : Int32) (M : Mem) : Option (Int32 × Mem) := (bd (fX7_isWithin x1 1 M) fun r2 M1 => (if r2 = 0 then (some (0, M1)) else (ck (inb x1 2) (ck (inb x1 2) (bd (fJ6_bitCount_0f7a4 ((M1 26 (ix x1)) &&& ((M1 24 5) ||| (M1 27 (ix x1)))) M1) fun r4 M3 => (some (r4, M3)))))))
set_option maxHeartbeats 4000000 in
set_option maxRecDepth 100000 in
theorem mtX0_metOfSide (E : EV) (l : Launch)   (x1 : Int32) (M : Mem) : CT E l yX0_metOfSide wsX0_metOfSide rmX0_metOfSide vI [.ref (eA E 24), .int x1] (fX0_metOfSide x1 M) M := by
  refine ct_of (cc := cX0_metOfSide) (nL := 2) (ret := (some .int)) (by decide +kernel) rfl (Nat.le_of_ble_eq_true rfl) ?_
  show ZZ E l RX0 cX0_metOfSide 2 (some .int) wsX0_metOfSide rmX0_metOfSide vI (fX0_metOfSide x1 M) M [(0, .ref (eA E 24)), (1, .int x1)] 0 []
  unfold fX0_metOfSide
  refine zz_iload_n (npc := 1) 1 rfl rfl dX0_metOfSide_0 rfl ?_
  refine zz_iconst (npc := 2) 1 (by decide) dX0_metOfSide_1 rfl ?_
  refine zz_callNi (npc := 5) (n := 2) (As := [.int x1, .int 1]) (host := "SharedShadow") gX0_metOfSide_X7_isWithin_n66 (List.mem_of_getElem? (i := 9) rfl) (List.mem_of_getElem? (i := 4) rfl) (List.mem_of_getElem? (i := 5) rfl) rfl rfl rfl (by decide +kernel) ⟨Nat.le_of_ble_eq_true rfl, Nat.le_of_ble_eq_true rfl⟩ rfl rfl (Nat.le_of_ble_eq_true rfl) (mtX7_isWithin E l  x1 1 M) dX0_metOfSide_2 rfl (fun r2 M1 _ => ?_)
  refine zz_if_eq (tgt := 32) (npc := 8) dX0_metOfSide_5 (by decide) rfl ?_ ?_
  · refine zz_iconst (npc := 33) 0 (by decide) dX0_metOfSide_32 rfl ?_
    exact zz_iret dX0_metOfSide_33
  · refine zz_aload_n (npc := 9) 0 rfl rfl dX0_metOfSide_8 rfl ?_
    refine zz_getR (npc := 12) (i := 1) (C0 := RX0) (T := TX0) (N := 6) (by decide) (by rfl) rfl (by decide) iX0_metOfSide_0 (List.mem_of_getElem? (i := 1) rfl) rfl dX0_metOfSide_9 rfl ?_
    refine zz_iload_n (npc := 13) 1 rfl rfl dX0_metOfSide_12 rfl ?_
    refine zz_iald (npc := 14) (by decide) (by rfl) dX0_metOfSide_13 rfl ?_
    refine zz_aload_n (npc := 15) 0 rfl rfl dX0_metOfSide_14 rfl ?_
    refine zz_getI (npc := 18) (i := 5) (C0 := RX0) (T := TX0) (N := 6) (by decide) (by rfl) rfl (by decide) iX0_metOfSide_0 (List.mem_of_getElem? (i := 2) rfl) rfl dX0_metOfSide_15 rfl ?_
    refine zz_aload_n (npc := 19) 0 rfl rfl dX0_metOfSide_18 rfl ?_
    refine zz_getR (npc := 22) (i := 2) (C0 := RX0) (T := TX0) (N := 6) (by decide) (by rfl) rfl (by decide) iX0_metOfSide_0 (List.mem_of_getElem? (i := 3) rfl) rfl dX0_metOfSide_19 rfl ?_
    refine zz_iload_n (npc := 23) 1 rfl rfl dX0_metOfSide_22 rfl ?_
    refine zz_iald (npc := 24) (by decide) (by rfl) dX0_metOfSide_23 rfl ?_
    refine zz_ior (npc := 25) dX0_metOfSide_24 rfl ?_
    refine zz_iand (npc := 26) dX0_metOfSide_25 rfl ?_
    refine zz_callSi (npc := 29) (n := 1) (As := [.int ((M1 26 (ix x1)) &&& ((M1 24 5) ||| (M1 27 (ix x1))))]) gX0_metOfSide_J6_bitCount_0f7a4 rfl rfl rfl (by decide +kernel) ⟨Nat.le_of_ble_eq_true rfl, Nat.le_of_ble_eq_true rfl⟩ rfl rfl (Nat.le_of_ble_eq_true rfl) (mtJ6_bitCount_0f7a4 E l  ((M1 26 (ix x1)) &&& ((M1 24 5) ||| (M1 27 (ix x1)))) M1) dX0_metOfSide_26 rfl (fun r4 M3 _ => ?_)
    refine zz_goto (npc := 0) (tgt := 33) dX0_metOfSide_29 (by decide) ?_
    exact zz_iret dX0_metOfSide_33
abbrev rmX0_metOfBoth : Room := { frames := 2, cells := 0, slots := 0, locals := 42 }
noncomputable def fX0_metOfBoth   (M : Mem) : Option (Int32 × Mem) := (bd (fX0_metOfSide 0 M) fun r2 M1 => (bd (fX0_metOfSide 1 M1) fun r4 M3 => (some (r2 + r4, M3))))
set_option maxHeartbeats 4000000 in
set_option maxRecDepth 100000 in
theorem mtX0_metOfBoth (E : EV) (l : Launch)    (M : Mem) : CT E l yX0_metOfBoth wsX0_metOfBoth rmX0_metOfBoth vI [.ref (eA E 24)] (fX0_metOfBoth  M) M := by
  refine ct_of (cc := cX0_metOfBoth) (nL := 1) (ret := (some .int)) (by decide +kernel) rfl (Nat.le_of_ble_eq_true rfl) ?_
  show ZZ E l RX0 cX0_metOfBoth 1 (some .int) wsX0_metOfBoth rmX0_metOfBoth vI (fX0_metOfBoth  M) M [(0, .ref (eA E 24))] 0 []
  unfold fX0_metOfBoth
  refine zz_aload_n (npc := 1) 0 rfl rfl dX0_metOfBoth_0 rfl ?_
  refine zz_iconst (npc := 2) 0 (by decide) dX0_metOfBoth_1 rfl ?_
  refine zz_callVi (npc := 5) (n := 1) (As := [.int 0]) (by decide) (by rfl) rfl gX0_metOfBoth_X0_metOfSide rfl rfl rfl (by decide +kernel) ⟨Nat.le_of_ble_eq_true rfl, Nat.le_of_ble_eq_true rfl⟩ rfl rfl (Nat.le_of_ble_eq_true rfl) (mtX0_metOfSide E l  0 M) dX0_metOfBoth_2 rfl (fun r2 M1 _ => ?_)
  refine zz_aload_n (npc := 6) 0 rfl rfl dX0_metOfBoth_5 rfl ?_
  refine zz_iconst (npc := 7) 1 (by decide) dX0_metOfBoth_6 rfl ?_
  refine zz_callVi (npc := 10) (n := 1) (As := [.int 1]) (by decide) (by rfl) rfl gX0_metOfBoth_X0_metOfSide rfl rfl rfl (by decide +kernel) ⟨Nat.le_of_ble_eq_true rfl, Nat.le_of_ble_eq_true rfl⟩ rfl rfl (Nat.le_of_ble_eq_true rfl) (mtX0_metOfSide E l  1 M1) dX0_metOfBoth_7 rfl (fun r4 M3 _ => ?_)
  refine zz_iadd (npc := 11) dX0_metOfBoth_10 rfl ?_
  exact zz_iret dX0_metOfBoth_11
abbrev rmX0_countChanges : Room := { frames := 1, cells := 0, slots := 0, locals := 21 }
theorem iX0_countChanges_0 : ∀ w ∈ u_ws RX0 TX0 6, w ∈ wsX0_countChanges := fun w h => List.mem_cons_of_mem _ (List.mem_append_right _ h)
noncomputable def fX0_countChanges_L58  (k6 : Int32 → Int32 → Int32 → Mem → Option (Int32 × Mem)) (y1 : Int32) (y2 : Int32) (y3 : Int32) (M : Mem) : Option (Int32 × Mem) := (bv (y3 + 1) fun v5 => (k6 y1 y2 v5 M))
set_option maxHeartbeats 4000000 in
set_option maxRecDepth 100000 in
theorem zX0_countChanges_L58 (E : EV) (l : Launch)   (k6 : Int32 → Int32 → Int32 → Mem → Option (Int32 × Mem)) (hk6 : ∀ (y1_ : Int32) (y2_ : Int32) (y3_ : Int32) (M_ : Mem), ZZ E l RX0 cX0_countChanges 5 (some .int) wsX0_countChanges rmX0_countChanges vI (k6 y1_ y2_ y3_ M_) M_ [(0, .ref (eA E 24)), (1, .int y1_), (2, .int y2_), (3, .int y3_)] 6 []) : ∀ (y1 : Int32) (y2 : Int32) (y3 : Int32) (M : Mem), ZZ E l RX0 cX0_countChanges 5 (some .int) wsX0_countChanges rmX0_countChanges vI (fX0_countChanges_L58 k6 y1 y2 y3 M) M [(0, .ref (eA E 24)), (1, .int y1), (2, .int y2), (3, .int y3)] 58 [] := by
  intro y1 y2 y3 M
  unfold fX0_countChanges_L58
  refine zz_iincB (npc := 61) (y3 + 1) (lv1 := fun v5 => [(3, .int v5), (0, .ref (eA E 24)), (1, .int y1), (2, .int y2)]) dX0_countChanges_58 rfl 3 rfl rfl (by decide) (fun _ => rfl) (fun v5 => ?_)
  refine zz_goto (npc := 0) (tgt := 6) dX0_countChanges_61 (by decide) ?_
  refine zz_sub (npc := 0) (lv1 := [(0, .ref (eA E 24)), (1, .int y1), (2, .int y2), (3, .int v5)]) [1, 2, 3, 0] rfl ?_
  exact hk6 y1 y2 v5 M
noncomputable def fX0_countChanges_L53  (k6 : Int32 → Int32 → Int32 → Mem → Option (Int32 × Mem)) (y3 : Int32) (y4 : Int32) (w0 : Int32) (w1 : Int32) (M : Mem) : Option (Int32 × Mem) := (bv (w1 + w0) fun v6 => (fX0_countChanges_L58 k6 v6 y4 y3 M))
set_option maxHeartbeats 4000000 in
set_option maxRecDepth 100000 in
theorem zX0_countChanges_L53 (E : EV) (l : Launch)   (k6 : Int32 → Int32 → Int32 → Mem → Option (Int32 × Mem)) (hk6 : ∀ (y1_ : Int32) (y2_ : Int32) (y3_ : Int32) (M_ : Mem), ZZ E l RX0 cX0_countChanges 5 (some .int) wsX0_countChanges rmX0_countChanges vI (k6 y1_ y2_ y3_ M_) M_ [(0, .ref (eA E 24)), (1, .int y1_), (2, .int y2_), (3, .int y3_)] 6 []) : ∀ (y3 : Int32) (y4 : Int32) (w0 : Int32) (w1 : Int32) (M : Mem), ZZ E l RX0 cX0_countChanges 5 (some .int) wsX0_countChanges rmX0_countChanges vI (fX0_countChanges_L53 k6 y3 y4 w0 w1 M) M [(0, .ref (eA E 24)), (3, .int y3), (4, .int y4)] 53 [.int w0, .int w1] := by
  intro y3 y4 w0 w1 M
  unfold fX0_countChanges_L53
  refine zz_iadd (npc := 54) dX0_countChanges_53 rfl ?_
  refine zz_istore_nB (npc := 55) (lv1 := fun v6 => [(1, .int v6), (0, .ref (eA E 24)), (3, .int y3), (4, .int y4)]) rfl dX0_countChanges_54 rfl (by decide) (fun _ => rfl) (fun v6 => ?_)
  refine zz_iload (npc := 57) 3 rfl dX0_countChanges_55 rfl ?_
  refine zz_istore_n (npc := 58) (lv1 := [(2, .int y4), (1, .int v6), (0, .ref (eA E 24)), (3, .int y3), (4, .int y4)]) rfl dX0_countChanges_57 rfl (by decide) rfl ?_
  refine zz_sub (npc := 0) (lv1 := [(0, .ref (eA E 24)), (1, .int v6), (2, .int y4), (3, .int y3)]) [2, 1, 0, 3] rfl ?_
  exact zX0_countChanges_L58 E l k6 hk6 v6 y4 y3 M
noncomputable def fX0_countChanges_L48  (k6 : Int32 → Int32 → Int32 → Mem → Option (Int32 × Mem)) (y3 : Int32) (y4 : Int32) (w0 : Int32) (M : Mem) : Option (Int32 × Mem) := (fX0_countChanges_L53 k6 y3 y4 0 w0 M)
set_option maxHeartbeats 4000000 in
set_option maxRecDepth 100000 in
theorem zX0_countChanges_L48 (E : EV) (l : Launch)   (k6 : Int32 → Int32 → Int32 → Mem → Option (Int32 × Mem)) (hk6 : ∀ (y1_ : Int32) (y2_ : Int32) (y3_ : Int32) (M_ : Mem), ZZ E l RX0 cX0_countChanges 5 (some .int) wsX0_countChanges rmX0_countChanges vI (k6 y1_ y2_ y3_ M_) M_ [(0, .ref (eA E 24)), (1, .int y1_), (2, .int y2_), (3, .int y3_)] 6 []) : ∀ (y3 : Int32) (y4 : Int32) (w0 : Int32) (M : Mem), ZZ E l RX0 cX0_countChanges 5 (some .int) wsX0_countChanges rmX0_countChanges vI (fX0_countChanges_L48 k6 y3 y4 w0 M) M [(0, .ref (eA E 24)), (3, .int y3), (4, .int y4)] 48 [.int w0] := by
  intro y3 y4 w0 M
  unfold fX0_countChanges_L48
  refine zz_iconst (npc := 49) 0 (by decide) dX0_countChanges_48 rfl ?_
  refine zz_goto (npc := 0) (tgt := 53) dX0_countChanges_49 (by decide) ?_
  exact zX0_countChanges_L53 E l k6 hk6 y3 y4 0 w0 M
noncomputable def fX0_countChanges_L6   : Nat → Int32 → Int32 → Int32 → Mem → Option (Int32 × Mem)
  | 0, _, _, _, _ => none
  | n + 1, y1, y2, y3, M => (if 16 ≤ y3 then (some (y1, M)) else (bd (fX7_bit (M 24 4) y3 M) fun r2 M1 => (if r2 = 1 then (ck (inb 1 2) (bd (fX7_bit (M1 27 (ix 1)) y3 M1) fun r4 M3 => (if y2 = (-1) then (fX0_countChanges_L48 (fX0_countChanges_L6  n) y3 r4 y1 M3) else (if y2 = r4 then (fX0_countChanges_L48 (fX0_countChanges_L6  n) y3 r4 y1 M3) else (fX0_countChanges_L53 (fX0_countChanges_L6  n) y3 r4 1 y1 M3))))) else (fX0_countChanges_L58 (fX0_countChanges_L6  n) y1 y2 y3 M1))))
set_option maxHeartbeats 4000000 in
set_option maxRecDepth 100000 in
theorem zX0_countChanges_L6 (E : EV) (l : Launch)     : ∀ (n : Nat) (y1 : Int32) (y2 : Int32) (y3 : Int32) (M : Mem), ZZ E l RX0 cX0_countChanges 5 (some .int) wsX0_countChanges rmX0_countChanges vI (fX0_countChanges_L6 n y1 y2 y3 M) M [(0, .ref (eA E 24)), (1, .int y1), (2, .int y2), (3, .int y3)] 6 [] := by
  intro n
  induction n with
  | zero => intros; exact zz_none
  | succ n ih =>
    intro y1 y2 y3 M
    rw [fX0_countChanges_L6]
    refine zz_iload_n (npc := 7) 3 rfl rfl dX0_countChanges_6 rfl ?_
    refine zz_bipush (npc := 9) 16 (by decide) dX0_countChanges_7 rfl ?_
    refine zz_icmp_ge (tgt := 64) (npc := 12) dX0_countChanges_9 (by decide) rfl ?_ ?_
    · refine zz_iload_n (npc := 65) 1 rfl rfl dX0_countChanges_64 rfl ?_
      exact zz_iret dX0_countChanges_65
    · refine zz_aload_n (npc := 13) 0 rfl rfl dX0_countChanges_12 rfl ?_
      refine zz_getI (npc := 16) (i := 4) (C0 := RX0) (T := TX0) (N := 6) (by decide) (by rfl) rfl (by decide) iX0_countChanges_0 (List.mem_of_getElem? (i := 1) rfl) rfl dX0_countChanges_13 rfl ?_
      refine zz_iload_n (npc := 17) 3 rfl rfl dX0_countChanges_16 rfl ?_
      refine zz_callNi (npc := 20) (n := 2) (As := [.int (M 24 4), .int y3]) (host := "SharedShadow") gX0_countChanges_X7_bit_n63 (List.mem_of_getElem? (i := 8) rfl) (List.mem_of_getElem? (i := 3) rfl) (List.mem_of_getElem? (i := 4) rfl) rfl rfl rfl (by decide +kernel) ⟨Nat.le_of_ble_eq_true rfl, Nat.le_of_ble_eq_true rfl⟩ rfl rfl (Nat.le_of_ble_eq_true rfl) (mtX7_bit E l  (M 24 4) y3 M) dX0_countChanges_17 rfl (fun r2 M1 _ => ?_)
      refine zz_iconst (npc := 21) 1 (by decide) dX0_countChanges_20 rfl ?_
      refine zz_icmp_ne (tgt := 58) (npc := 24) dX0_countChanges_21 (by decide) rfl ?_ ?_
      · exact zX0_countChanges_L58 E l (fX0_countChanges_L6  n) ih y1 y2 y3 M1
      · refine zz_aload_n (npc := 25) 0 rfl rfl dX0_countChanges_24 rfl ?_
        refine zz_getR (npc := 28) (i := 2) (C0 := RX0) (T := TX0) (N := 6) (by decide) (by rfl) rfl (by decide) iX0_countChanges_0 (List.mem_of_getElem? (i := 2) rfl) rfl dX0_countChanges_25 rfl ?_
        refine zz_iconst (npc := 29) 1 (by decide) dX0_countChanges_28 rfl ?_
        refine zz_iald (npc := 30) (by decide) (by rfl) dX0_countChanges_29 rfl ?_
        refine zz_iload_n (npc := 31) 3 rfl rfl dX0_countChanges_30 rfl ?_
        refine zz_callNi (npc := 34) (n := 2) (As := [.int (M1 27 (ix 1)), .int y3]) (host := "SharedShadow") gX0_countChanges_X7_bit_n63 (List.mem_of_getElem? (i := 8) rfl) (List.mem_of_getElem? (i := 3) rfl) (List.mem_of_getElem? (i := 4) rfl) rfl rfl rfl (by decide +kernel) ⟨Nat.le_of_ble_eq_true rfl, Nat.le_of_ble_eq_true rfl⟩ rfl rfl (Nat.le_of_ble_eq_true rfl) (mtX7_bit E l  (M1 27 (ix 1)) y3 M1) dX0_countChanges_31 rfl (fun r4 M3 _ => ?_)
        refine zz_istore (npc := 36) (lv1 := [(4, .int r4), (0, .ref (eA E 24)), (1, .int y1), (2, .int y2), (3, .int y3)]) dX0_countChanges_34 rfl (by decide) rfl ?_
        refine zz_iload_n (npc := 37) 2 rfl rfl dX0_countChanges_36 rfl ?_
        refine zz_iload_n (npc := 38) 3 rfl rfl dX0_countChanges_37 rfl ?_
        refine zz_iconst (npc := 39) (-1) (by decide) dX0_countChanges_38 rfl ?_
        refine zz_icmp_eq (tgt := 48) (npc := 42) dX0_countChanges_39 (by decide) rfl ?_ ?_
        · refine zz_sub (npc := 0) (lv1 := [(0, .ref (eA E 24)), (3, .int y3), (4, .int r4)]) [1, 4, 0] rfl ?_
          exact zX0_countChanges_L48 E l (fX0_countChanges_L6  n) ih y3 r4 y1 M3
        · refine zz_iload_n (npc := 43) 3 rfl rfl dX0_countChanges_42 rfl ?_
          refine zz_iload (npc := 45) 0 rfl dX0_countChanges_43 rfl ?_
          refine zz_icmp_ne (tgt := 52) (npc := 48) dX0_countChanges_45 (by decide) rfl ?_ ?_
          · refine zz_iconst (npc := 53) 1 (by decide) dX0_countChanges_52 rfl ?_
            refine zz_sub (npc := 0) (lv1 := [(0, .ref (eA E 24)), (3, .int y3), (4, .int r4)]) [1, 4, 0] rfl ?_
            exact zX0_countChanges_L53 E l (fX0_countChanges_L6  n) ih y3 r4 1 y1 M3
          · refine zz_sub (npc := 0) (lv1 := [(0, .ref (eA E 24)), (3, .int y3), (4, .int r4)]) [1, 4, 0] rfl ?_
            exact zX0_countChanges_L48 E l (fX0_countChanges_L6  n) ih y3 r4 y1 M3
noncomputable def fX0_countChanges   (M : Mem) : Option (Int32 × Mem) := (fX0_countChanges_L6  fu 0 (-1) 0 M)
set_option maxHeartbeats 4000000 in
set_option maxRecDepth 100000 in
theorem mtX0_countChanges (E : EV) (l : Launch)    (M : Mem) : CT E l yX0_countChanges wsX0_countChanges rmX0_countChanges vI [.ref (eA E 24)] (fX0_countChanges  M) M := by
  refine ct_of (cc := cX0_countChanges) (nL := 5) (ret := (some .int)) (by decide +kernel) rfl (Nat.le_of_ble_eq_true rfl) ?_
  show ZZ E l RX0 cX0_countChanges 5 (some .int) wsX0_countChanges rmX0_countChanges vI (fX0_countChanges  M) M [(0, .ref (eA E 24))] 0 []
  unfold fX0_countChanges
  refine zz_iconst (npc := 1) 0 (by decide) dX0_countChanges_0 rfl ?_
  refine zz_istore_n (npc := 2) (lv1 := [(1, .int 0), (0, .ref (eA E 24))]) rfl dX0_countChanges_1 rfl (by decide) rfl ?_
  refine zz_iconst (npc := 3) (-1) (by decide) dX0_countChanges_2 rfl ?_
  refine zz_istore_n (npc := 4) (lv1 := [(2, .int (-1)), (1, .int 0), (0, .ref (eA E 24))]) rfl dX0_countChanges_3 rfl (by decide) rfl ?_
  refine zz_iconst (npc := 5) 0 (by decide) dX0_countChanges_4 rfl ?_
  refine zz_istore_n (npc := 6) (lv1 := [(3, .int 0), (2, .int (-1)), (1, .int 0), (0, .ref (eA E 24))]) rfl dX0_countChanges_5 rfl (by decide) rfl ?_
  refine zz_sub (npc := 0) (lv1 := [(0, .ref (eA E 24)), (1, .int 0), (2, .int (-1)), (3, .int 0)]) [3, 2, 1, 0] rfl ?_
  exact zX0_countChanges_L6 E l  fu 0 (-1) 0 M

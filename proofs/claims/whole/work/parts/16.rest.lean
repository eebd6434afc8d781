abbrev rmX4_begin : Room := { frames := 2, cells := 0, slots := 0, locals := 121 }
theorem iX4_begin_1 : ∀ w ∈ u_ws RX1 TX1 12, w ∈ wsX4_begin := fun w h => List.mem_cons_of_mem _ (List.mem_append_right _ h)
theorem iX4_begin_4 : ∀ w ∈ u_ws RX4 TX4 4, w ∈ wsX4_begin := fun w h => List.mem_cons_of_mem _ (List.mem_append_left _ (List.mem_append_right _ h))
noncomputable def fX4_begin (d1 : Nat)  (M : Mem) : Option (Unit × Mem) := (bd (fX1_become 16 d1 M) fun _ M1 => (wm (wr M1 15 2 (M1 d1 8)) fun M2 => (bd (fX1_hoursLeft d1 M2) fun r4 M3 => (wm (wr M3 15 3 r4) fun M5 => (some ((), M5))))))
set_option maxHeartbeats 4000000 in
set_option maxRecDepth 100000 in
theorem mtX4_begin (E : EV) (l : Launch) (d1 : Nat) (hd1 : isLd d1)  (M : Mem) : CT E l yX4_begin wsX4_begin rmX4_begin vV [.ref (eA E 15), .ref (eA E d1)] (fX4_begin d1 M) M := by
  refine ct_of (cc := cX4_begin) (nL := 2) (ret := none) (by decide +kernel) rfl (Nat.le_of_ble_eq_true rfl) ?_
  show ZZ E l RX4 cX4_begin 2 none wsX4_begin rmX4_begin vV (fX4_begin d1 M) M [(0, .ref (eA E 15)), (1, .ref (eA E d1))] 0 []
  unfold fX4_begin
  refine zz_aload_n (npc := 1) 0 rfl rfl dX4_begin_0 rfl ?_
  refine zz_getR (npc := 4) (i := 0) (C0 := RX4) (T := TX4) (N := 4) (by decide) (by rfl) rfl (by decide) iX4_begin_4 (List.mem_of_getElem? (i := 1) rfl) rfl dX4_begin_1 rfl ?_
  refine zz_aload_n (npc := 5) 1 rfl rfl dX4_begin_4 rfl ?_
  refine zz_callVv (npc := 8) (n := 1) (As := [.ref (eA E d1)]) (by decide) (by rfl) rfl gX4_begin_X1_become rfl rfl rfl (by decide +kernel) ⟨Nat.le_of_ble_eq_true rfl, Nat.le_of_ble_eq_true rfl⟩ rfl rfl (Nat.le_of_ble_eq_true rfl) (mtX1_become E l 16 d1 ld_c16 hd1  M) dX4_begin_5 rfl (fun _ M1 _ => ?_)
  refine zz_aload_n (npc := 9) 0 rfl rfl dX4_begin_8 rfl ?_
  refine zz_aload_n (npc := 10) 1 rfl rfl dX4_begin_9 rfl ?_
  refine zz_getI (npc := 13) (i := 8) (C0 := RX1) (T := TX1) (N := 12) (ld_lt0 hd1) (ld_o hd1) rfl (by decide) iX4_begin_1 (List.mem_of_getElem? (i := 2) rfl) rfl dX4_begin_10 rfl ?_
  refine zz_putI (npc := 16) (i := 2) (C0 := RX4) (T := TX4) (N := 4) (by decide) (by rfl) rfl (by decide) iX4_begin_4 (List.mem_of_getElem? (i := 3) rfl) tyX4_ok nmX4 rfl rfl rfl dX4_begin_13 rfl (fun M2 => ?_)
  refine zz_aload_n (npc := 17) 0 rfl rfl dX4_begin_16 rfl ?_
  refine zz_aload_n (npc := 18) 1 rfl rfl dX4_begin_17 rfl ?_
  refine zz_callVi (npc := 21) (n := 0) (As := []) (ld_lt0 hd1) (ld_o hd1) rfl gX4_begin_X1_hoursLeft rfl rfl rfl (by decide +kernel) ⟨Nat.le_of_ble_eq_true rfl, Nat.le_of_ble_eq_true rfl⟩ rfl rfl (Nat.le_of_ble_eq_true rfl) (mtX1_hoursLeft E l d1 hd1  M2) dX4_begin_18 rfl (fun r4 M3 _ => ?_)
  refine zz_putI (npc := 24) (i := 3) (C0 := RX4) (T := TX4) (N := 4) (by decide) (by rfl) rfl (by decide) iX4_begin_4 (List.mem_of_getElem? (i := 4) rfl) tyX4_ok nmX4 rfl rfl rfl dX4_begin_21 rfl (fun M5 => ?_)
  exact zz_vret dX4_begin_24
abbrev rmX4_run : Room := { frames := 3, cells := 0, slots := 0, locals := 71 }
theorem iX4_run_4 : ∀ w ∈ u_ws RX4 TX4 4, w ∈ wsX4_run := fun w h => List.mem_cons_of_mem _ (List.mem_append_left _ (List.mem_append_right _ h))
noncomputable def fX4_run_L5   : Nat → Int32 → Mem → Option (Unit × Mem)
  | 0, _, _ => none
  | n + 1, y1, M => (if 16 ≤ y1 then (some ((), M)) else (bd (fX1_havers 16 M) fun r3 M2 => (ck (inb y1 16) (wm (wr M2 23 (ix y1) r3) fun M4 => (ck (inb y1 16) (bd (fX1_passHour 16 (M4 23 (ix y1)) M4) fun _ M5 => (bv (y1 + 1) fun v6 => (fX4_run_L5  n v6 M5))))))))
set_option maxHeartbeats 4000000 in
set_option maxRecDepth 100000 in
theorem zX4_run_L5 (E : EV) (l : Launch)     : ∀ (n : Nat) (y1 : Int32) (M : Mem), ZZ E l RX4 cX4_run 2 none wsX4_run rmX4_run vV (fX4_run_L5 n y1 M) M [(0, .ref (eA E 15)), (1, .int y1)] 5 [] := by
  intro n
  induction n with
  | zero => intros; exact zz_none
  | succ n ih =>
    intro y1 M
    rw [fX4_run_L5]
    refine zz_iload_n (npc := 6) 1 rfl rfl dX4_run_5 rfl ?_
    refine zz_bipush (npc := 8) 16 (by decide) dX4_run_6 rfl ?_
    refine zz_icmp_ge (tgt := 43) (npc := 11) dX4_run_8 (by decide) rfl ?_ ?_
    · exact zz_vret dX4_run_43
    · refine zz_aload_n (npc := 12) 0 rfl rfl dX4_run_11 rfl ?_
      refine zz_getR (npc := 15) (i := 1) (C0 := RX4) (T := TX4) (N := 4) (by decide) (by rfl) rfl (by decide) iX4_run_4 (List.mem_of_getElem? (i := 2) rfl) rfl dX4_run_12 rfl ?_
      refine zz_iload_n (npc := 16) 1 rfl rfl dX4_run_15 rfl ?_
      refine zz_aload_n (npc := 17) 0 rfl rfl dX4_run_16 rfl ?_
      refine zz_getR (npc := 20) (i := 0) (C0 := RX4) (T := TX4) (N := 4) (by decide) (by rfl) rfl (by decide) iX4_run_4 (List.mem_of_getElem? (i := 3) rfl) rfl dX4_run_17 rfl ?_
      refine zz_callVi (npc := 23) (n := 0) (As := []) (by decide) (by rfl) rfl gX4_run_X1_havers rfl rfl rfl (by decide +kernel) ⟨Nat.le_of_ble_eq_true rfl, Nat.le_of_ble_eq_true rfl⟩ rfl rfl (Nat.le_of_ble_eq_true rfl) (mtX1_havers E l 16 ld_c16  M) dX4_run_20 rfl (fun r3 M2 _ => ?_)
      refine zz_iast (npc := 24) (by decide) (by rfl) dX4_run_23 rfl (fun M4 => ?_)
      refine zz_aload_n (npc := 25) 0 rfl rfl dX4_run_24 rfl ?_
      refine zz_getR (npc := 28) (i := 0) (C0 := RX4) (T := TX4) (N := 4) (by decide) (by rfl) rfl (by decide) iX4_run_4 (List.mem_of_getElem? (i := 3) rfl) rfl dX4_run_25 rfl ?_
      refine zz_aload_n (npc := 29) 0 rfl rfl dX4_run_28 rfl ?_
      refine zz_getR (npc := 32) (i := 1) (C0 := RX4) (T := TX4) (N := 4) (by decide) (by rfl) rfl (by decide) iX4_run_4 (List.mem_of_getElem? (i := 2) rfl) rfl dX4_run_29 rfl ?_
      refine zz_iload_n (npc := 33) 1 rfl rfl dX4_run_32 rfl ?_
      refine zz_iald (npc := 34) (by decide) (by rfl) dX4_run_33 rfl ?_
      refine zz_callVv (npc := 37) (n := 1) (As := [.int (M4 23 (ix y1))]) (by decide) (by rfl) rfl gX4_run_X1_passHour rfl rfl rfl (by decide +kernel) ⟨Nat.le_of_ble_eq_true rfl, Nat.le_of_ble_eq_true rfl⟩ rfl rfl (Nat.le_of_ble_eq_true rfl) (mtX1_passHour E l 16 ld_c16 (M4 23 (ix y1)) M4) dX4_run_34 rfl (fun _ M5 _ => ?_)
      refine zz_iincB (npc := 40) (y1 + 1) (lv1 := fun v6 => [(1, .int v6), (0, .ref (eA E 15))]) dX4_run_37 rfl 1 rfl rfl (by decide) (fun _ => rfl) (fun v6 => ?_)
      refine zz_goto (npc := 0) (tgt := 5) dX4_run_40 (by decide) ?_
      refine zz_sub (npc := 0) (lv1 := [(0, .ref (eA E 15)), (1, .int v6)]) [1, 0] rfl ?_
      exact ih v6 M5
noncomputable def fX4_run   (M : Mem) : Option (Unit × Mem) := (bv (M 15 2) fun v1 => (fX4_run_L5  fu v1 M))
set_option maxHeartbeats 4000000 in
set_option maxRecDepth 100000 in
theorem mtX4_run (E : EV) (l : Launch)    (M : Mem) : CT E l yX4_run wsX4_run rmX4_run vV [.ref (eA E 15)] (fX4_run  M) M := by
  refine ct_of (cc := cX4_run) (nL := 2) (ret := none) (by decide +kernel) rfl (Nat.le_of_ble_eq_true rfl) ?_
  show ZZ E l RX4 cX4_run 2 none wsX4_run rmX4_run vV (fX4_run  M) M [(0, .ref (eA E 15))] 0 []
  unfold fX4_run
  refine zz_aload_n (npc := 1) 0 rfl rfl dX4_run_0 rfl ?_
  refine zz_getI (npc := 4) (i := 2) (C0 := RX4) (T := TX4) (N := 4) (by decide) (by rfl) rfl (by decide) iX4_run_4 (List.mem_of_getElem? (i := 1) rfl) rfl dX4_run_1 rfl ?_
  refine zz_istore_nB (npc := 5) (lv1 := fun v1 => [(1, .int v1), (0, .ref (eA E 15))]) rfl dX4_run_4 rfl (by decide) (fun _ => rfl) (fun v1 => ?_)
  refine zz_sub (npc := 0) (lv1 := [(0, .ref (eA E 15)), (1, .int v1)]) [1, 0] rfl ?_
  exact zX4_run_L5 E l  fu v1 M
abbrev rmX4_see : Room := { frames := 4, cells := 0, slots := 0, locals := 142 }
noncomputable def fX4_see (d1 : Nat)  (M : Mem) : Option (Unit × Mem) := (bd (fX4_begin d1 M) fun _ M1 => (bd (fX4_run M1) fun _ M2 => (some ((), M2))))
set_option maxHeartbeats 4000000 in
set_option maxRecDepth 100000 in
theorem mtX4_see (E : EV) (l : Launch) (d1 : Nat) (hd1 : isLd d1)  (M : Mem) : CT E l yX4_see wsX4_see rmX4_see vV [.ref (eA E 15), .ref (eA E d1)] (fX4_see d1 M) M := by
  refine ct_of (cc := cX4_see) (nL := 2) (ret := none) (by decide +kernel) rfl (Nat.le_of_ble_eq_true rfl) ?_
  show ZZ E l RX4 cX4_see 2 none wsX4_see rmX4_see vV (fX4_see d1 M) M [(0, .ref (eA E 15)), (1, .ref (eA E d1))] 0 []
  unfold fX4_see
  refine zz_aload_n (npc := 1) 0 rfl rfl dX4_see_0 rfl ?_
  refine zz_aload_n (npc := 2) 1 rfl rfl dX4_see_1 rfl ?_
  refine zz_callVv (npc := 5) (n := 1) (As := [.ref (eA E d1)]) (by decide) (by rfl) rfl gX4_see_X4_begin rfl rfl rfl (by decide +kernel) ⟨Nat.le_of_ble_eq_true rfl, Nat.le_of_ble_eq_true rfl⟩ rfl rfl (Nat.le_of_ble_eq_true rfl) (mtX4_begin E l d1 hd1  M) dX4_see_2 rfl (fun _ M1 _ => ?_)
  refine zz_aload_n (npc := 6) 0 rfl rfl dX4_see_5 rfl ?_
  refine zz_callVv (npc := 9) (n := 0) (As := []) (by decide) (by rfl) rfl gX4_see_X4_run rfl rfl rfl (by decide +kernel) ⟨Nat.le_of_ble_eq_true rfl, Nat.le_of_ble_eq_true rfl⟩ rfl rfl (Nat.le_of_ble_eq_true rfl) (mtX4_run E l   M1) dX4_see_6 rfl (fun _ M2 _ => ?_)
  exact zz_vret dX4_see_9
abbrev rmX4_shadeOf : Room := { frames := 1, cells := 0, slots := 0, locals := 21 }
theorem iX4_shadeOf_4 : ∀ w ∈ u_ws RX4 TX4 4, w ∈ wsX4_shadeOf := fun w h => List.mem_cons_of_mem _ (List.mem_append_right _ h)
noncomputable def fX4_shadeOf_L42  (k4 : Int32 → Int32 → Int32 → Mem → Option (Int32 × Mem)) (y1 : Int32) (y2 : Int32) (y3 : Int32) (M : Mem) : Option (Int32 × Mem) := (bv (y3 + 1) fun v6 => (k4 y1 y2 v6 M))
set_option maxHeartbeats 4000000 in
set_option maxRecDepth 100000 in
theorem zX4_shadeOf_L42 (E : EV) (l : Launch)   (k4 : Int32 → Int32 → Int32 → Mem → Option (Int32 × Mem)) (hk4 : ∀ (y1_ : Int32) (y2_ : Int32) (y3_ : Int32) (M_ : Mem), ZZ E l RX4 cX4_shadeOf 4 (some .int) wsX4_shadeOf rmX4_shadeOf vI (k4 y1_ y2_ y3_ M_) M_ [(0, .ref (eA E 15)), (1, .int y1_), (2, .int y2_), (3, .int y3_)] 4 []) : ∀ (y1 : Int32) (y2 : Int32) (y3 : Int32) (M : Mem), ZZ E l RX4 cX4_shadeOf 4 (some .int) wsX4_shadeOf rmX4_shadeOf vI (fX4_shadeOf_L42 k4 y1 y2 y3 M) M [(0, .ref (eA E 15)), (1, .int y1), (2, .int y2), (3, .int y3)] 42 [] := by
  intro y1 y2 y3 M
  unfold fX4_shadeOf_L42
  refine zz_iincB (npc := 45) (y3 + 1) (lv1 := fun v6 => [(3, .int v6), (0, .ref (eA E 15)), (1, .int y1), (2, .int y2)]) dX4_shadeOf_42 rfl 3 rfl rfl (by decide) (fun _ => rfl) (fun v6 => ?_)
  refine zz_goto (npc := 0) (tgt := 4) dX4_shadeOf_45 (by decide) ?_
  refine zz_sub (npc := 0) (lv1 := [(0, .ref (eA E 15)), (1, .int y1), (2, .int y2), (3, .int v6)]) [1, 2, 3, 0] rfl ?_
  exact hk4 y1 y2 v6 M
noncomputable def fX4_shadeOf_L4   : Nat → Int32 → Int32 → Int32 → Mem → Option (Int32 × Mem)
  | 0, _, _, _, _ => none
  | n + 1, y1, y2, y3, M => (if 16 ≤ y3 then (some (y2, M)) else (bd (fX7_bit (M 15 3) y3 M) fun r2 M1 => (if r2 = 1 then (ck (inb y3 16) (bd (fX7_bit (M1 23 (ix y3)) y1 M1) fun r4 M3 => (if r4 = 1 then (bv (y2 ||| (shl 1 y3)) fun v5 => (fX4_shadeOf_L42 (fX4_shadeOf_L4  n) y1 v5 y3 M3)) else (fX4_shadeOf_L42 (fX4_shadeOf_L4  n) y1 y2 y3 M3)))) else (fX4_shadeOf_L42 (fX4_shadeOf_L4  n) y1 y2 y3 M1))))
set_option maxHeartbeats 4000000 in
set_option maxRecDepth 100000 in
theorem zX4_shadeOf_L4 (E : EV) (l : Launch)     : ∀ (n : Nat) (y1 : Int32) (y2 : Int32) (y3 : Int32) (M : Mem), ZZ E l RX4 cX4_shadeOf 4 (some .int) wsX4_shadeOf rmX4_shadeOf vI (fX4_shadeOf_L4 n y1 y2 y3 M) M [(0, .ref (eA E 15)), (1, .int y1), (2, .int y2), (3, .int y3)] 4 [] := by
  intro n
  induction n with
  | zero => intros; exact zz_none
  | succ n ih =>
    intro y1 y2 y3 M
    rw [fX4_shadeOf_L4]
    refine zz_iload_n (npc := 5) 3 rfl rfl dX4_shadeOf_4 rfl ?_
    refine zz_bipush (npc := 7) 16 (by decide) dX4_shadeOf_5 rfl ?_
    refine zz_icmp_ge (tgt := 48) (npc := 10) dX4_shadeOf_7 (by decide) rfl ?_ ?_
    · refine zz_iload_n (npc := 49) 2 rfl rfl dX4_shadeOf_48 rfl ?_
      exact zz_iret dX4_shadeOf_49
    · refine zz_aload_n (npc := 11) 0 rfl rfl dX4_shadeOf_10 rfl ?_
      refine zz_getI (npc := 14) (i := 3) (C0 := RX4) (T := TX4) (N := 4) (by decide) (by rfl) rfl (by decide) iX4_shadeOf_4 (List.mem_of_getElem? (i := 1) rfl) rfl dX4_shadeOf_11 rfl ?_
      refine zz_iload_n (npc := 15) 3 rfl rfl dX4_shadeOf_14 rfl ?_
      refine zz_callNi (npc := 18) (n := 2) (As := [.int (M 15 3), .int y3]) (host := "SharedShadow") gX4_shadeOf_X7_bit_n53 (List.mem_of_getElem? (i := 7) rfl) (List.mem_of_getElem? (i := 3) rfl) (List.mem_of_getElem? (i := 4) rfl) rfl rfl rfl (by decide +kernel) ⟨Nat.le_of_ble_eq_true rfl, Nat.le_of_ble_eq_true rfl⟩ rfl rfl (Nat.le_of_ble_eq_true rfl) (mtX7_bit E l  (M 15 3) y3 M) dX4_shadeOf_15 rfl (fun r2 M1 _ => ?_)
      refine zz_iconst (npc := 19) 1 (by decide) dX4_shadeOf_18 rfl ?_
      refine zz_icmp_ne (tgt := 42) (npc := 22) dX4_shadeOf_19 (by decide) rfl ?_ ?_
      · exact zX4_shadeOf_L42 E l (fX4_shadeOf_L4  n) ih y1 y2 y3 M1
      · refine zz_aload_n (npc := 23) 0 rfl rfl dX4_shadeOf_22 rfl ?_
        refine zz_getR (npc := 26) (i := 1) (C0 := RX4) (T := TX4) (N := 4) (by decide) (by rfl) rfl (by decide) iX4_shadeOf_4 (List.mem_of_getElem? (i := 2) rfl) rfl dX4_shadeOf_23 rfl ?_
        refine zz_iload_n (npc := 27) 3 rfl rfl dX4_shadeOf_26 rfl ?_
        refine zz_iald (npc := 28) (by decide) (by rfl) dX4_shadeOf_27 rfl ?_
        refine zz_iload_n (npc := 29) 1 rfl rfl dX4_shadeOf_28 rfl ?_
        refine zz_callNi (npc := 32) (n := 2) (As := [.int (M1 23 (ix y3)), .int y1]) (host := "SharedShadow") gX4_shadeOf_X7_bit_n53 (List.mem_of_getElem? (i := 7) rfl) (List.mem_of_getElem? (i := 3) rfl) (List.mem_of_getElem? (i := 4) rfl) rfl rfl rfl (by decide +kernel) ⟨Nat.le_of_ble_eq_true rfl, Nat.le_of_ble_eq_true rfl⟩ rfl rfl (Nat.le_of_ble_eq_true rfl) (mtX7_bit E l  (M1 23 (ix y3)) y1 M1) dX4_shadeOf_29 rfl (fun r4 M3 _ => ?_)
        refine zz_iconst (npc := 33) 1 (by decide) dX4_shadeOf_32 rfl ?_
        refine zz_icmp_ne (tgt := 42) (npc := 36) dX4_shadeOf_33 (by decide) rfl ?_ ?_
        · exact zX4_shadeOf_L42 E l (fX4_shadeOf_L4  n) ih y1 y2 y3 M3
        · refine zz_iload_n (npc := 37) 2 rfl rfl dX4_shadeOf_36 rfl ?_
          refine zz_iconst (npc := 38) 1 (by decide) dX4_shadeOf_37 rfl ?_
          refine zz_iload_n (npc := 39) 3 rfl rfl dX4_shadeOf_38 rfl ?_
          refine zz_ishl (npc := 40) dX4_shadeOf_39 rfl ?_
          refine zz_ior (npc := 41) dX4_shadeOf_40 rfl ?_
          refine zz_istore_nB (npc := 42) (lv1 := fun v5 => [(2, .int v5), (0, .ref (eA E 15)), (1, .int y1), (3, .int y3)]) rfl dX4_shadeOf_41 rfl (by decide) (fun _ => rfl) (fun v5 => ?_)
          refine zz_sub (npc := 0) (lv1 := [(0, .ref (eA E 15)), (1, .int y1), (2, .int v5), (3, .int y3)]) [1, 2, 0, 3] rfl ?_
          exact zX4_shadeOf_L42 E l (fX4_shadeOf_L4  n) ih y1 v5 y3 M3
noncomputable def fX4_shadeOf  (x1 : Int32) (M : Mem) : Option (Int32 × Mem) := (fX4_shadeOf_L4  fu x1 0 0 M)
set_option maxHeartbeats 4000000 in
set_option maxRecDepth 100000 in
theorem mtX4_shadeOf (E : EV) (l : Launch)   (x1 : Int32) (M : Mem) : CT E l yX4_shadeOf wsX4_shadeOf rmX4_shadeOf vI [.ref (eA E 15), .int x1] (fX4_shadeOf x1 M) M := by
  refine ct_of (cc := cX4_shadeOf) (nL := 4) (ret := (some .int)) (by decide +kernel) rfl (Nat.le_of_ble_eq_true rfl) ?_
  show ZZ E l RX4 cX4_shadeOf 4 (some .int) wsX4_shadeOf rmX4_shadeOf vI (fX4_shadeOf x1 M) M [(0, .ref (eA E 15)), (1, .int x1)] 0 []
  unfold fX4_shadeOf
  refine zz_iconst (npc := 1) 0 (by decide) dX4_shadeOf_0 rfl ?_
  refine zz_istore_n (npc := 2) (lv1 := [(2, .int 0), (0, .ref (eA E 15)), (1, .int x1)]) rfl dX4_shadeOf_1 rfl (by decide) rfl ?_
  refine zz_iconst (npc := 3) 0 (by decide) dX4_shadeOf_2 rfl ?_
  refine zz_istore_n (npc := 4) (lv1 := [(3, .int 0), (2, .int 0), (0, .ref (eA E 15)), (1, .int x1)]) rfl dX4_shadeOf_3 rfl (by decide) rfl ?_
  refine zz_sub (npc := 0) (lv1 := [(0, .ref (eA E 15)), (1, .int x1), (2, .int 0), (3, .int 0)]) [2, 3, 1, 0] rfl ?_
  exact zX4_shadeOf_L4 E l  fu x1 0 0 M
abbrev rmX4_servedOf : Room := { frames := 2, cells := 0, slots := 0, locals := 44 }
theorem iX4_servedOf_1 : ∀ w ∈ u_ws RX1 TX1 12, w ∈ wsX4_servedOf := fun w h => List.mem_cons_of_mem _ (List.mem_append_right _ h)
theorem iX4_servedOf_4 : ∀ w ∈ u_ws RX4 TX4 4, w ∈ wsX4_servedOf := fun w h => List.mem_cons_of_mem _ (List.mem_append_left _ (List.mem_append_right _ h))
noncomputable def fX4_servedOf  (x1 : Int32) (M : Mem) : Option (Int32 × Mem) := (ck (inb x1 8) (bd (fX4_shadeOf x1 M) fun r2 M1 => (some (((((M 20 (ix x1)) ^^^ (-1)) ||| ((M 16 7) ^^^ (-1))) ||| r2) &&& (M1 15 3), M1))))
set_option maxHeartbeats 4000000 in
set_option maxRecDepth 100000 in
theorem mtX4_servedOf (E : EV) (l : Launch)   (x1 : Int32) (M : Mem) : CT E l yX4_servedOf wsX4_servedOf rmX4_servedOf vI [.ref (eA E 15), .int x1] (fX4_servedOf x1 M) M := by
  refine ct_of (cc := cX4_servedOf) (nL := 2) (ret := (some .int)) (by decide +kernel) rfl (Nat.le_of_ble_eq_true rfl) ?_
  show ZZ E l RX4 cX4_servedOf 2 (some .int) wsX4_servedOf rmX4_servedOf vI (fX4_servedOf x1 M) M [(0, .ref (eA E 15)), (1, .int x1)] 0 []
  unfold fX4_servedOf
  refine zz_aload_n (npc := 1) 0 rfl rfl dX4_servedOf_0 rfl ?_
  refine zz_getR (npc := 4) (i := 0) (C0 := RX4) (T := TX4) (N := 4) (by decide) (by rfl) rfl (by decide) iX4_servedOf_4 (List.mem_of_getElem? (i := 1) rfl) rfl dX4_servedOf_1 rfl ?_
  refine zz_getR (npc := 7) (i := 3) (C0 := RX1) (T := TX1) (N := 12) (by decide) (by rfl) rfl (by decide) iX4_servedOf_1 (List.mem_of_getElem? (i := 2) rfl) rfl dX4_servedOf_4 rfl ?_
  refine zz_iload_n (npc := 8) 1 rfl rfl dX4_servedOf_7 rfl ?_
  refine zz_iald (npc := 9) (by decide) (by rfl) dX4_servedOf_8 rfl ?_
  refine zz_iconst (npc := 10) (-1) (by decide) dX4_servedOf_9 rfl ?_
  refine zz_ixor (npc := 11) dX4_servedOf_10 rfl ?_
  refine zz_aload_n (npc := 12) 0 rfl rfl dX4_servedOf_11 rfl ?_
  refine zz_getR (npc := 15) (i := 0) (C0 := RX4) (T := TX4) (N := 4) (by decide) (by rfl) rfl (by decide) iX4_servedOf_4 (List.mem_of_getElem? (i := 1) rfl) rfl dX4_servedOf_12 rfl ?_
  refine zz_getI (npc := 18) (i := 7) (C0 := RX1) (T := TX1) (N := 12) (by decide) (by rfl) rfl (by decide) iX4_servedOf_1 (List.mem_of_getElem? (i := 3) rfl) rfl dX4_servedOf_15 rfl ?_
  refine zz_iconst (npc := 19) (-1) (by decide) dX4_servedOf_18 rfl ?_
  refine zz_ixor (npc := 20) dX4_servedOf_19 rfl ?_
  refine zz_ior (npc := 21) dX4_servedOf_20 rfl ?_
  refine zz_aload_n (npc := 22) 0 rfl rfl dX4_servedOf_21 rfl ?_
  refine zz_iload_n (npc := 23) 1 rfl rfl dX4_servedOf_22 rfl ?_
  refine zz_callVi (npc := 26) (n := 1) (As := [.int x1]) (by decide) (by rfl) rfl gX4_servedOf_X4_shadeOf rfl rfl rfl (by decide +kernel) ⟨Nat.le_of_ble_eq_true rfl, Nat.le_of_ble_eq_true rfl⟩ rfl rfl (Nat.le_of_ble_eq_true rfl) (mtX4_shadeOf E l  x1 M) dX4_servedOf_23 rfl (fun r2 M1 _ => ?_)
  refine zz_ior (npc := 27) dX4_servedOf_26 rfl ?_
  refine zz_aload_n (npc := 28) 0 rfl rfl dX4_servedOf_27 rfl ?_
  refine zz_getI (npc := 31) (i := 3) (C0 := RX4) (T := TX4) (N := 4) (by decide) (by rfl) rfl (by decide) iX4_servedOf_4 (List.mem_of_getElem? (i := 4) rfl) rfl dX4_servedOf_28 rfl ?_
  refine zz_iand (npc := 32) dX4_servedOf_31 rfl ?_
  exact zz_iret dX4_servedOf_32
abbrev rmX4_metOf : Room := { frames := 3, cells := 0, slots := 0, locals := 65 }
theorem iX4_metOf_1 : ∀ w ∈ u_ws RX1 TX1 12, w ∈ wsX4_metOf := fun w h => List.mem_cons_of_mem _ (List.mem_append_right _ h)
theorem iX4_metOf_4 : ∀ w ∈ u_ws RX4 TX4 4, w ∈ wsX4_metOf := fun w h => List.mem_cons_of_mem _ (List.mem_append_left _ (List.mem_append_right _ h))
noncomputable def fX4_metOf  (x1 : Int32) (M : Mem) : Option (Int32 × Mem) := (bd (fX1_isPerson 16 x1 M) fun r2 M1 => (if r2 = 0 then (some (0, M1)) else (ck (inb x1 8) (bd (fX4_servedOf x1 M1) fun r4 M3 => (bd (fJ6_bitCount_0f7a4 ((M1 20 (ix x1)) &&& r4) M3) fun r6 M5 => (some (r6, M5)))))))
set_option maxHeartbeats 4000000 in
set_option maxRecDepth 100000 in
theorem mtX4_metOf (E : EV) (l : Launch)   (x1 : Int32) (M : Mem) : CT E l yX4_metOf wsX4_metOf rmX4_metOf vI [.ref (eA E 15), .int x1] (fX4_metOf x1 M) M := by
  refine ct_of (cc := cX4_metOf) (nL := 2) (ret := (some .int)) (by decide +kernel) rfl (Nat.le_of_ble_eq_true rfl) ?_
  show ZZ E l RX4 cX4_metOf 2 (some .int) wsX4_metOf rmX4_metOf vI (fX4_metOf x1 M) M [(0, .ref (eA E 15)), (1, .int x1)] 0 []
  unfold fX4_metOf
  refine zz_aload_n (npc := 1) 0 rfl rfl dX4_metOf_0 rfl ?_
  refine zz_getR (npc := 4) (i := 0) (C0 := RX4) (T := TX4) (N := 4) (by decide) (by rfl) rfl (by decide) iX4_metOf_4 (List.mem_of_getElem? (i := 1) rfl) rfl dX4_metOf_1 rfl ?_
  refine zz_iload_n (npc := 5) 1 rfl rfl dX4_metOf_4 rfl ?_
  refine zz_callVi (npc := 8) (n := 1) (As := [.int x1]) (by decide) (by rfl) rfl gX4_metOf_X1_isPerson rfl rfl rfl (by decide +kernel) ⟨Nat.le_of_ble_eq_true rfl, Nat.le_of_ble_eq_true rfl⟩ rfl rfl (Nat.le_of_ble_eq_true rfl) (mtX1_isPerson E l 16 ld_c16 x1 M) dX4_metOf_5 rfl (fun r2 M1 _ => ?_)
  refine zz_if_eq (tgt := 32) (npc := 11) dX4_metOf_8 (by decide) rfl ?_ ?_
  · refine zz_iconst (npc := 33) 0 (by decide) dX4_metOf_32 rfl ?_
    exact zz_iret dX4_metOf_33
  · refine zz_aload_n (npc := 12) 0 rfl rfl dX4_metOf_11 rfl ?_
    refine zz_getR (npc := 15) (i := 0) (C0 := RX4) (T := TX4) (N := 4) (by decide) (by rfl) rfl (by decide) iX4_metOf_4 (List.mem_of_getElem? (i := 1) rfl) rfl dX4_metOf_12 rfl ?_
    refine zz_getR (npc := 18) (i := 3) (C0 := RX1) (T := TX1) (N := 12) (by decide) (by rfl) rfl (by decide) iX4_metOf_1 (List.mem_of_getElem? (i := 2) rfl) rfl dX4_metOf_15 rfl ?_
    refine zz_iload_n (npc := 19) 1 rfl rfl dX4_metOf_18 rfl ?_
    refine zz_iald (npc := 20) (by decide) (by rfl) dX4_metOf_19 rfl ?_
    refine zz_aload_n (npc := 21) 0 rfl rfl dX4_metOf_20 rfl ?_
    refine zz_iload_n (npc := 22) 1 rfl rfl dX4_metOf_21 rfl ?_
    refine zz_callVi (npc := 25) (n := 1) (As := [.int x1]) (by decide) (by rfl) rfl gX4_metOf_X4_servedOf rfl rfl rfl (by decide +kernel) ⟨Nat.le_of_ble_eq_true rfl, Nat.le_of_ble_eq_true rfl⟩ rfl rfl (Nat.le_of_ble_eq_true rfl) (mtX4_servedOf E l  x1 M1) dX4_metOf_22 rfl (fun r4 M3 _ => ?_)
    refine zz_iand (npc := 26) dX4_metOf_25 rfl ?_
    refine zz_callSi (npc := 29) (n := 1) (As := [.int ((M1 20 (ix x1)) &&& r4)]) gX4_metOf_J6_bitCount_0f7a4 rfl rfl rfl (by decide +kernel) ⟨Nat.le_of_ble_eq_true rfl, Nat.le_of_ble_eq_true rfl⟩ rfl rfl (Nat.le_of_ble_eq_true rfl) (mtJ6_bitCount_0f7a4 E l  ((M1 20 (ix x1)) &&& r4) M3) dX4_metOf_26 rfl (fun r6 M5 _ => ?_)
    refine zz_goto (npc := 0) (tgt := 33) dX4_metOf_29 (by decide) ?_
    exact zz_iret dX4_metOf_33
abbrev rmX4_metOfAll : Room := { frames := 4, cells := 0, slots := 0, locals := 86 }
theorem iX4_metOfAll_1 : ∀ w ∈ u_ws RX1 TX1 12, w ∈ wsX4_metOfAll := fun w h => List.mem_cons_of_mem _ (List.mem_append_right _ h)
theorem iX4_metOfAll_4 : ∀ w ∈ u_ws RX4 TX4 4, w ∈ wsX4_metOfAll := fun w h => List.mem_cons_of_mem _ (List.mem_append_left _ (List.mem_append_right _ h))
noncomputable def fX4_metOfAll_L4   : Nat → Int32 → Int32 → Mem → Option (Int32 × Mem)
  | 0, _, _, _ => none
  | n + 1, y1, y2, M => (if (M 16 6) ≤ y2 then (some (y1, M)) else (bd (fX4_metOf y2 M) fun r2 M1 => (bv (y1 + r2) fun v3 => (bv (y2 + 1) fun v4 => (fX4_metOfAll_L4  n v3 v4 M1)))))
set_option maxHeartbeats 4000000 in
set_option maxRecDepth 100000 in
theorem zX4_metOfAll_L4 (E : EV) (l : Launch)     : ∀ (n : Nat) (y1 : Int32) (y2 : Int32) (M : Mem), ZZ E l RX4 cX4_metOfAll 3 (some .int) wsX4_metOfAll rmX4_metOfAll vI (fX4_metOfAll_L4 n y1 y2 M) M [(0, .ref (eA E 15)), (1, .int y1), (2, .int y2)] 4 [] := by
  intro n
  induction n with
  | zero => intros; exact zz_none
  | succ n ih =>
    intro y1 y2 M
    rw [fX4_metOfAll_L4]
    refine zz_iload_n (npc := 5) 2 rfl rfl dX4_metOfAll_4 rfl ?_
    refine zz_aload_n (npc := 6) 0 rfl rfl dX4_metOfAll_5 rfl ?_
    refine zz_getR (npc := 9) (i := 0) (C0 := RX4) (T := TX4) (N := 4) (by decide) (by rfl) rfl (by decide) iX4_metOfAll_4 (List.mem_of_getElem? (i := 1) rfl) rfl dX4_metOfAll_6 rfl ?_
    refine zz_getI (npc := 12) (i := 6) (C0 := RX1) (T := TX1) (N := 12) (by decide) (by rfl) rfl (by decide) iX4_metOfAll_1 (List.mem_of_getElem? (i := 2) rfl) rfl dX4_metOfAll_9 rfl ?_
    refine zz_icmp_ge (tgt := 29) (npc := 15) dX4_metOfAll_12 (by decide) rfl ?_ ?_
    · refine zz_iload_n (npc := 30) 1 rfl rfl dX4_metOfAll_29 rfl ?_
      exact zz_iret dX4_metOfAll_30
    · refine zz_iload_n (npc := 16) 1 rfl rfl dX4_metOfAll_15 rfl ?_
      refine zz_aload_n (npc := 17) 0 rfl rfl dX4_metOfAll_16 rfl ?_
      refine zz_iload_n (npc := 18) 2 rfl rfl dX4_metOfAll_17 rfl ?_
      refine zz_callVi (npc := 21) (n := 1) (As := [.int y2]) (by decide) (by rfl) rfl gX4_metOfAll_X4_metOf rfl rfl rfl (by decide +kernel) ⟨Nat.le_of_ble_eq_true rfl, Nat.le_of_ble_eq_true rfl⟩ rfl rfl (Nat.le_of_ble_eq_true rfl) (mtX4_metOf E l  y2 M) dX4_metOfAll_18 rfl (fun r2 M1 _ => ?_)
      refine zz_iadd (npc := 22) dX4_metOfAll_21 rfl ?_
      refine zz_istore_nB (npc := 23) (lv1 := fun v3 => [(1, .int v3), (0, .ref (eA E 15)), (2, .int y2)]) rfl dX4_metOfAll_22 rfl (by decide) (fun _ => rfl) (fun v3 => ?_)
      refine zz_iincB (npc := 26) (y2 + 1) (lv1 := fun v4 => [(2, .int v4), (1, .int v3), (0, .ref (eA E 15))]) dX4_metOfAll_23 rfl 2 rfl rfl (by decide) (fun _ => rfl) (fun v4 => ?_)
      refine zz_goto (npc := 0) (tgt := 4) dX4_metOfAll_26 (by decide) ?_
      refine zz_sub (npc := 0) (lv1 := [(0, .ref (eA E 15)), (1, .int v3), (2, .int v4)]) [2, 1, 0] rfl ?_
      exact ih v3 v4 M1
noncomputable def fX4_metOfAll   (M : Mem) : Option (Int32 × Mem) := (fX4_metOfAll_L4  fu 0 0 M)
set_option maxHeartbeats 4000000 in
set_option maxRecDepth 100000 in
theorem mtX4_metOfAll (E : EV) (l : Launch)    (M : Mem) : CT E l yX4_metOfAll wsX4_metOfAll rmX4_metOfAll vI [.ref (eA E 15)] (fX4_metOfAll  M) M := by
  refine ct_of (cc := cX4_metOfAll) (nL := 3) (ret := (some .int)) (by decide +kernel) rfl (Nat.le_of_ble_eq_true rfl) ?_
  show ZZ E l RX4 cX4_metOfAll 3 (some .int) wsX4_metOfAll rmX4_metOfAll vI (fX4_metOfAll  M) M [(0, .ref (eA E 15))] 0 []
  unfold fX4_metOfAll
  refine zz_iconst (npc := 1) 0 (by decide) dX4_metOfAll_0 rfl ?_
  refine zz_istore_n (npc := 2) (lv1 := [(1, .int 0), (0, .ref (eA E 15))]) rfl dX4_metOfAll_1 rfl (by decide) rfl ?_
  refine zz_iconst (npc := 3) 0 (by decide) dX4_metOfAll_2 rfl ?_
  refine zz_istore_n (npc := 4) (lv1 := [(2, .int 0), (1, .int 0), (0, .ref (eA E 15))]) rfl dX4_metOfAll_3 rfl (by decide) rfl ?_
  refine zz_sub (npc := 0) (lv1 := [(0, .ref (eA E 15)), (1, .int 0), (2, .int 0)]) [2, 1, 0] rfl ?_
  exact zX4_metOfAll_L4 E l  fu 0 0 M
abbrev rmX4_firstCold : Room := { frames := 3, cells := 0, slots := 0, locals := 65 }
theorem iX4_firstCold_4 : ∀ w ∈ u_ws RX4 TX4 4, w ∈ wsX4_firstCold := fun w h => List.mem_cons_of_mem _ (List.mem_append_left _ (List.mem_append_right _ h))
noncomputable def fX4_firstCold_L29   : Nat → Int32 → Int32 → Mem → Option (Int32 × Mem)
  | 0, _, _, _ => none
  | n + 1, y2, y3, M => (if 16 ≤ y3 then (some (16, M)) else (bd (fX7_bit y2 y3 M) fun r7 M6 => (if r7 = 1 then (some (y3, M6)) else (bv (y3 + 1) fun v8 => (fX4_firstCold_L29  n y2 v8 M6)))))
set_option maxHeartbeats 4000000 in
set_option maxRecDepth 100000 in
theorem zX4_firstCold_L29 (E : EV) (l : Launch)     : ∀ (n : Nat) (y2 : Int32) (y3 : Int32) (M : Mem), ZZ E l RX4 cX4_firstCold 4 (some .int) wsX4_firstCold rmX4_firstCold vI (fX4_firstCold_L29 n y2 y3 M) M [(2, .int y2), (3, .int y3)] 29 [] := by
  intro n
  induction n with
  | zero => intros; exact zz_none
  | succ n ih =>
    intro y2 y3 M
    rw [fX4_firstCold_L29]
    refine zz_iload_n (npc := 30) 1 rfl rfl dX4_firstCold_29 rfl ?_
    refine zz_bipush (npc := 32) 16 (by decide) dX4_firstCold_30 rfl ?_
    refine zz_icmp_ge (tgt := 52) (npc := 35) dX4_firstCold_32 (by decide) rfl ?_ ?_
    · refine zz_bipush (npc := 54) 16 (by decide) dX4_firstCold_52 rfl ?_
      exact zz_iret dX4_firstCold_54
    · refine zz_iload_n (npc := 36) 0 rfl rfl dX4_firstCold_35 rfl ?_
      refine zz_iload_n (npc := 37) 1 rfl rfl dX4_firstCold_36 rfl ?_
      refine zz_callNi (npc := 40) (n := 2) (As := [.int y2, .int y3]) (host := "SharedShadow") gX4_firstCold_X7_bit_n53 (List.mem_of_getElem? (i := 7) rfl) (List.mem_of_getElem? (i := 21) rfl) (List.mem_of_getElem? (i := 22) rfl) rfl rfl rfl (by decide +kernel) ⟨Nat.le_of_ble_eq_true rfl, Nat.le_of_ble_eq_true rfl⟩ rfl rfl (Nat.le_of_ble_eq_true rfl) (mtX7_bit E l  y2 y3 M) dX4_firstCold_37 rfl (fun r7 M6 _ => ?_)
      refine zz_iconst (npc := 41) 1 (by decide) dX4_firstCold_40 rfl ?_
      refine zz_icmp_ne (tgt := 46) (npc := 44) dX4_firstCold_41 (by decide) rfl ?_ ?_
      · refine zz_iincB (npc := 49) (y3 + 1) (lv1 := fun v8 => [(3, .int v8), (2, .int y2)]) dX4_firstCold_46 rfl 1 rfl rfl (by decide) (fun _ => rfl) (fun v8 => ?_)
        refine zz_goto (npc := 0) (tgt := 29) dX4_firstCold_49 (by decide) ?_
        refine zz_sub (npc := 0) (lv1 := [(2, .int y2), (3, .int v8)]) [1, 0] rfl ?_
        exact ih y2 v8 M6
      · refine zz_iload_n (npc := 45) 1 rfl rfl dX4_firstCold_44 rfl ?_
        exact zz_iret dX4_firstCold_45
noncomputable def fX4_firstCold  (x1 : Int32) (M : Mem) : Option (Int32 × Mem) := (bd (fX1_isPerson 16 x1 M) fun r2 M1 => (if r2 = 0 then (some (16, M1)) else (bd (fX4_servedOf x1 M1) fun r4 M3 => (bv ((M1 15 3) &&& (r4 ^^^ (-1))) fun v5 => (fX4_firstCold_L29  fu v5 0 M3)))))
set_option maxHeartbeats 4000000 in
set_option maxRecDepth 100000 in
theorem mtX4_firstCold (E : EV) (l : Launch)   (x1 : Int32) (M : Mem) : CT E l yX4_firstCold wsX4_firstCold rmX4_firstCold vI [.ref (eA E 15), .int x1] (fX4_firstCold x1 M) M := by
  refine ct_of (cc := cX4_firstCold) (nL := 4) (ret := (some .int)) (by decide +kernel) rfl (Nat.le_of_ble_eq_true rfl) ?_
  show ZZ E l RX4 cX4_firstCold 4 (some .int) wsX4_firstCold rmX4_firstCold vI (fX4_firstCold x1 M) M [(0, .ref (eA E 15)), (1, .int x1)] 0 []
  unfold fX4_firstCold
  refine zz_aload_n (npc := 1) 0 rfl rfl dX4_firstCold_0 rfl ?_
  refine zz_getR (npc := 4) (i := 0) (C0 := RX4) (T := TX4) (N := 4) (by decide) (by rfl) rfl (by decide) iX4_firstCold_4 (List.mem_of_getElem? (i := 1) rfl) rfl dX4_firstCold_1 rfl ?_
  refine zz_iload_n (npc := 5) 1 rfl rfl dX4_firstCold_4 rfl ?_
  refine zz_callVi (npc := 8) (n := 1) (As := [.int x1]) (by decide) (by rfl) rfl gX4_firstCold_X1_isPerson rfl rfl rfl (by decide +kernel) ⟨Nat.le_of_ble_eq_true rfl, Nat.le_of_ble_eq_true rfl⟩ rfl rfl (Nat.le_of_ble_eq_true rfl) (mtX1_isPerson E l 16 ld_c16 x1 M) dX4_firstCold_5 rfl (fun r2 M1 _ => ?_)
  refine zz_if_ne (tgt := 14) (npc := 11) dX4_firstCold_8 (by decide) rfl ?_ ?_
  · refine zz_aload_n (npc := 15) 0 rfl rfl dX4_firstCold_14 rfl ?_
    refine zz_getI (npc := 18) (i := 3) (C0 := RX4) (T := TX4) (N := 4) (by decide) (by rfl) rfl (by decide) iX4_firstCold_4 (List.mem_of_getElem? (i := 2) rfl) rfl dX4_firstCold_15 rfl ?_
    refine zz_aload_n (npc := 19) 0 rfl rfl dX4_firstCold_18 rfl ?_
    refine zz_iload_n (npc := 20) 1 rfl rfl dX4_firstCold_19 rfl ?_
    refine zz_callVi (npc := 23) (n := 1) (As := [.int x1]) (by decide) (by rfl) rfl gX4_firstCold_X4_servedOf rfl rfl rfl (by decide +kernel) ⟨Nat.le_of_ble_eq_true rfl, Nat.le_of_ble_eq_true rfl⟩ rfl rfl (Nat.le_of_ble_eq_true rfl) (mtX4_servedOf E l  x1 M1) dX4_firstCold_20 rfl (fun r4 M3 _ => ?_)
    refine zz_iconst (npc := 24) (-1) (by decide) dX4_firstCold_23 rfl ?_
    refine zz_ixor (npc := 25) dX4_firstCold_24 rfl ?_
    refine zz_iand (npc := 26) dX4_firstCold_25 rfl ?_
    refine zz_istore_nB (npc := 27) (lv1 := fun v5 => [(2, .int v5), (0, .ref (eA E 15)), (1, .int x1)]) rfl dX4_firstCold_26 rfl (by decide) (fun _ => rfl) (fun v5 => ?_)
    refine zz_iconst (npc := 28) 0 (by decide) dX4_firstCold_27 rfl ?_
    refine zz_istore_n (npc := 29) (lv1 := [(3, .int 0), (2, .int v5), (0, .ref (eA E 15)), (1, .int x1)]) rfl dX4_firstCold_28 rfl (by decide) rfl ?_
    refine zz_sub (npc := 0) (lv1 := [(2, .int v5), (3, .int 0)]) [1, 0] rfl ?_
    exact zX4_firstCold_L29 E l  fu v5 0 M3
  · refine zz_bipush (npc := 13) 16 (by decide) dX4_firstCold_11 rfl ?_
    exact zz_iret dX4_firstCold_13
abbrev rmX4_sunOf : Room := { frames := 1, cells := 0, slots := 0, locals := 21 }
theorem iX4_sunOf_1 : ∀ w ∈ u_ws RX1 TX1 12, w ∈ wsX4_sunOf := fun w h => List.mem_cons_of_mem _ (List.mem_append_right _ h)
theorem iX4_sunOf_4 : ∀ w ∈ u_ws RX4 TX4 4, w ∈ wsX4_sunOf := fun w h => List.mem_cons_of_mem _ (List.mem_append_left _ (List.mem_append_right _ h))
noncomputable def fX4_sunOf  (x1 : Int32) (M : Mem) : Option (Int32 × Mem) := (bd (fX1_isPerson 16 x1 M) fun r2 M1 => (if r2 = 0 then (some (0, M1)) else (ck (inb x1 8) (some (M1 18 (ix x1), M1)))))
set_option maxHeartbeats 4000000 in
set_option maxRecDepth 100000 in
theorem mtX4_sunOf (E : EV) (l : Launch)   (x1 : Int32) (M : Mem) : CT E l yX4_sunOf wsX4_sunOf rmX4_sunOf vI [.ref (eA E 15), .int x1] (fX4_sunOf x1 M) M := by
  refine ct_of (cc := cX4_sunOf) (nL := 2) (ret := (some .int)) (by decide +kernel) rfl (Nat.le_of_ble_eq_true rfl) ?_
  show ZZ E l RX4 cX4_sunOf 2 (some .int) wsX4_sunOf rmX4_sunOf vI (fX4_sunOf x1 M) M [(0, .ref (eA E 15)), (1, .int x1)] 0 []
  unfold fX4_sunOf
  refine zz_aload_n (npc := 1) 0 rfl rfl dX4_sunOf_0 rfl ?_
  refine zz_getR (npc := 4) (i := 0) (C0 := RX4) (T := TX4) (N := 4) (by decide) (by rfl) rfl (by decide) iX4_sunOf_4 (List.mem_of_getElem? (i := 1) rfl) rfl dX4_sunOf_1 rfl ?_
  refine zz_iload_n (npc := 5) 1 rfl rfl dX4_sunOf_4 rfl ?_
  refine zz_callVi (npc := 8) (n := 1) (As := [.int x1]) (by decide) (by rfl) rfl gX4_sunOf_X1_isPerson rfl rfl rfl (by decide +kernel) ⟨Nat.le_of_ble_eq_true rfl, Nat.le_of_ble_eq_true rfl⟩ rfl rfl (Nat.le_of_ble_eq_true rfl) (mtX1_isPerson E l 16 ld_c16 x1 M) dX4_sunOf_5 rfl (fun r2 M1 _ => ?_)
  refine zz_if_eq (tgt := 23) (npc := 11) dX4_sunOf_8 (by decide) rfl ?_ ?_
  · refine zz_iconst (npc := 24) 0 (by decide) dX4_sunOf_23 rfl ?_
    exact zz_iret dX4_sunOf_24
  · refine zz_aload_n (npc := 12) 0 rfl rfl dX4_sunOf_11 rfl ?_
    refine zz_getR (npc := 15) (i := 0) (C0 := RX4) (T := TX4) (N := 4) (by decide) (by rfl) rfl (by decide) iX4_sunOf_4 (List.mem_of_getElem? (i := 1) rfl) rfl dX4_sunOf_12 rfl ?_
    refine zz_getR (npc := 18) (i := 1) (C0 := RX1) (T := TX1) (N := 12) (by decide) (by rfl) rfl (by decide) iX4_sunOf_1 (List.mem_of_getElem? (i := 2) rfl) rfl dX4_sunOf_15 rfl ?_
    refine zz_iload_n (npc := 19) 1 rfl rfl dX4_sunOf_18 rfl ?_
    refine zz_iald (npc := 20) (by decide) (by rfl) dX4_sunOf_19 rfl ?_
    refine zz_goto (npc := 0) (tgt := 24) dX4_sunOf_20 (by decide) ?_
    exact zz_iret dX4_sunOf_24
abbrev rmX4_isShadowSet : Room := { frames := 0, cells := 0, slots := 0, locals := 0 }
theorem iX4_isShadowSet_4 : ∀ w ∈ u_ws RX4 TX4 4, w ∈ wsX4_isShadowSet := fun w h => List.mem_cons_of_mem _ (List.mem_append_right _ h)
noncomputable def fX4_isShadowSet  (x1 : Int32) (x2 : Int32) (M : Mem) : Option (Int32 × Mem) := (if x1 < (M 15 2) then (ck (isb 0) (some (0, M))) else (if 16 ≤ x1 then (ck (isb 0) (some (0, M))) else (ck (inb x1 16) (if (M 23 (ix x1)) = x2 then (ck (isb 1) (some (1, M))) else (ck (isb 0) (some (0, M)))))))
set_option maxHeartbeats 4000000 in
set_option maxRecDepth 100000 in
theorem mtX4_isShadowSet (E : EV) (l : Launch)   (x1 : Int32) (x2 : Int32) (M : Mem) : CT E l yX4_isShadowSet wsX4_isShadowSet rmX4_isShadowSet vI [.ref (eA E 15), .int x1, .int x2] (fX4_isShadowSet x1 x2 M) M := by
  refine ct_of (cc := cX4_isShadowSet) (nL := 3) (ret := (some .boolean)) (by decide +kernel) rfl (Nat.le_of_ble_eq_true rfl) ?_
  show ZZ E l RX4 cX4_isShadowSet 3 (some .boolean) wsX4_isShadowSet rmX4_isShadowSet vI (fX4_isShadowSet x1 x2 M) M [(0, .ref (eA E 15)), (1, .int x1), (2, .int x2)] 0 []
  unfold fX4_isShadowSet
  refine zz_iload_n (npc := 1) 1 rfl rfl dX4_isShadowSet_0 rfl ?_
  refine zz_aload_n (npc := 2) 0 rfl rfl dX4_isShadowSet_1 rfl ?_
  refine zz_getI (npc := 5) (i := 2) (C0 := RX4) (T := TX4) (N := 4) (by decide) (by rfl) rfl (by decide) iX4_isShadowSet_4 (List.mem_of_getElem? (i := 1) rfl) rfl dX4_isShadowSet_2 rfl ?_
  refine zz_icmp_lt (tgt := 28) (npc := 8) dX4_isShadowSet_5 (by decide) rfl ?_ ?_
  · refine zz_iconst (npc := 29) 0 (by decide) dX4_isShadowSet_28 rfl ?_
    exact zz_zret dX4_isShadowSet_29
  · refine zz_iload_n (npc := 9) 1 rfl rfl dX4_isShadowSet_8 rfl ?_
    refine zz_bipush (npc := 11) 16 (by decide) dX4_isShadowSet_9 rfl ?_
    refine zz_icmp_ge (tgt := 28) (npc := 14) dX4_isShadowSet_11 (by decide) rfl ?_ ?_
    · refine zz_iconst (npc := 29) 0 (by decide) dX4_isShadowSet_28 rfl ?_
      exact zz_zret dX4_isShadowSet_29
    · refine zz_aload_n (npc := 15) 0 rfl rfl dX4_isShadowSet_14 rfl ?_
      refine zz_getR (npc := 18) (i := 1) (C0 := RX4) (T := TX4) (N := 4) (by decide) (by rfl) rfl (by decide) iX4_isShadowSet_4 (List.mem_of_getElem? (i := 2) rfl) rfl dX4_isShadowSet_15 rfl ?_
      refine zz_iload_n (npc := 19) 1 rfl rfl dX4_isShadowSet_18 rfl ?_
      refine zz_iald (npc := 20) (by decide) (by rfl) dX4_isShadowSet_19 rfl ?_
      refine zz_iload_n (npc := 21) 2 rfl rfl dX4_isShadowSet_20 rfl ?_
      refine zz_icmp_ne (tgt := 28) (npc := 24) dX4_isShadowSet_21 (by decide) rfl ?_ ?_
      · refine zz_iconst (npc := 29) 0 (by decide) dX4_isShadowSet_28 rfl ?_
        exact zz_zret dX4_isShadowSet_29
      · refine zz_iconst (npc := 25) 1 (by decide) dX4_isShadowSet_24 rfl ?_
        refine zz_goto (npc := 0) (tgt := 29) dX4_isShadowSet_25 (by decide) ?_
        exact zz_zret dX4_isShadowSet_29
abbrev rmX4_isShadeOf : Room := { frames := 1, cells := 0, slots := 0, locals := 21 }
theorem iX4_isShadeOf_4 : ∀ w ∈ u_ws RX4 TX4 4, w ∈ wsX4_isShadeOf := fun w h => List.mem_cons_of_mem _ (List.mem_append_left _ (List.mem_append_right _ h))
theorem iX4_isShadeOf_5 : ∀ w ∈ u_ws RX5 TX5 3, w ∈ wsX4_isShadeOf := fun w h => List.mem_cons_of_mem _ (List.mem_append_right _ h)
noncomputable def fX4_isShadeOf_L5 (d2 : Nat)  : Nat → Int32 → Int32 → Mem → Option (Int32 × Mem)
  | 0, _, _, _ => none
  | n + 1, y1, y3, M => (if 16 ≤ y3 then (ck (isb 1) (some (1, M))) else (if (M d2 2) ≤ (y3 - (M 15 2)) then (ck (isb 1) (some (1, M))) else (ck (inb y3 16) (bd (fX7_bit (M 23 (ix y3)) y1 M) fun r3 M2 => (ck (inb (y3 - (M2 15 2)) 40) (bd (fX7_bit (M2 (d2 + 1) (ix (y3 - (M2 15 2)))) y1 M2) fun r5 M4 => (if r3 = r5 then (bv (y3 + 1) fun v6 => (fX4_isShadeOf_L5 d2 n y1 v6 M4)) else (ck (isb 0) (some (0, M4))))))))))
set_option maxHeartbeats 4000000 in
set_option maxRecDepth 100000 in
theorem zX4_isShadeOf_L5 (E : EV) (l : Launch) (d2 : Nat) (hd2 : isSh d2)   : ∀ (n : Nat) (y1 : Int32) (y3 : Int32) (M : Mem), ZZ E l RX4 cX4_isShadeOf 4 (some .boolean) wsX4_isShadeOf rmX4_isShadeOf vI (fX4_isShadeOf_L5 d2 n y1 y3 M) M [(0, .ref (eA E 15)), (1, .int y1), (2, .ref (eA E d2)), (3, .int y3)] 5 [] := by
  intro n
  induction n with
  | zero => intros; exact zz_none
  | succ n ih =>
    intro y1 y3 M
    rw [fX4_isShadeOf_L5]
    refine zz_iload_n (npc := 6) 3 rfl rfl dX4_isShadeOf_5 rfl ?_
    refine zz_bipush (npc := 8) 16 (by decide) dX4_isShadeOf_6 rfl ?_
    refine zz_icmp_ge (tgt := 60) (npc := 11) dX4_isShadeOf_8 (by decide) rfl ?_ ?_
    · refine zz_iconst (npc := 61) 1 (by decide) dX4_isShadeOf_60 rfl ?_
      exact zz_zret dX4_isShadeOf_61
    · refine zz_iload_n (npc := 12) 3 rfl rfl dX4_isShadeOf_11 rfl ?_
      refine zz_aload_n (npc := 13) 0 rfl rfl dX4_isShadeOf_12 rfl ?_
      refine zz_getI (npc := 16) (i := 2) (C0 := RX4) (T := TX4) (N := 4) (by decide) (by rfl) rfl (by decide) iX4_isShadeOf_4 (List.mem_of_getElem? (i := 1) rfl) rfl dX4_isShadeOf_13 rfl ?_
      refine zz_isub (npc := 17) dX4_isShadeOf_16 rfl ?_
      refine zz_aload_n (npc := 18) 2 rfl rfl dX4_isShadeOf_17 rfl ?_
      refine zz_getI (npc := 21) (i := 2) (C0 := RX5) (T := TX5) (N := 3) (sh_lt0 hd2) (sh_o hd2) rfl (by decide) iX4_isShadeOf_5 (List.mem_of_getElem? (i := 2) rfl) rfl dX4_isShadeOf_18 rfl ?_
      refine zz_icmp_ge (tgt := 60) (npc := 24) dX4_isShadeOf_21 (by decide) rfl ?_ ?_
      · refine zz_iconst (npc := 61) 1 (by decide) dX4_isShadeOf_60 rfl ?_
        exact zz_zret dX4_isShadeOf_61
      · refine zz_aload_n (npc := 25) 0 rfl rfl dX4_isShadeOf_24 rfl ?_
        refine zz_getR (npc := 28) (i := 1) (C0 := RX4) (T := TX4) (N := 4) (by decide) (by rfl) rfl (by decide) iX4_isShadeOf_4 (List.mem_of_getElem? (i := 3) rfl) rfl dX4_isShadeOf_25 rfl ?_
        refine zz_iload_n (npc := 29) 3 rfl rfl dX4_isShadeOf_28 rfl ?_
        refine zz_iald (npc := 30) (by decide) (by rfl) dX4_isShadeOf_29 rfl ?_
        refine zz_iload_n (npc := 31) 1 rfl rfl dX4_isShadeOf_30 rfl ?_
        refine zz_callNi (npc := 34) (n := 2) (As := [.int (M 23 (ix y3)), .int y1]) (host := "SharedShadow") gX4_isShadeOf_X7_bit_n53 (List.mem_of_getElem? (i := 7) rfl) (List.mem_of_getElem? (i := 5) rfl) (List.mem_of_getElem? (i := 6) rfl) rfl rfl rfl (by decide +kernel) ⟨Nat.le_of_ble_eq_true rfl, Nat.le_of_ble_eq_true rfl⟩ rfl rfl (Nat.le_of_ble_eq_true rfl) (mtX7_bit E l  (M 23 (ix y3)) y1 M) dX4_isShadeOf_31 rfl (fun r3 M2 _ => ?_)
        refine zz_aload_n (npc := 35) 2 rfl rfl dX4_isShadeOf_34 rfl ?_
        refine zz_getR (npc := 38) (i := 0) (C0 := RX5) (T := TX5) (N := 3) (sh_lt0 hd2) (sh_o hd2) rfl (by decide) iX4_isShadeOf_5 (List.mem_of_getElem? (i := 4) rfl) rfl dX4_isShadeOf_35 rfl ?_
        refine zz_iload_n (npc := 39) 3 rfl rfl dX4_isShadeOf_38 rfl ?_
        refine zz_aload_n (npc := 40) 0 rfl rfl dX4_isShadeOf_39 rfl ?_
        refine zz_getI (npc := 43) (i := 2) (C0 := RX4) (T := TX4) (N := 4) (by decide) (by rfl) rfl (by decide) iX4_isShadeOf_4 (List.mem_of_getElem? (i := 1) rfl) rfl dX4_isShadeOf_40 rfl ?_
        refine zz_isub (npc := 44) dX4_isShadeOf_43 rfl ?_
        refine zz_iald (npc := 45) (sh_lt1 hd2) (sh_a1 hd2) dX4_isShadeOf_44 rfl ?_
        refine zz_iload_n (npc := 46) 1 rfl rfl dX4_isShadeOf_45 rfl ?_
        refine zz_callNi (npc := 49) (n := 2) (As := [.int (M2 (d2 + 1) (ix (y3 - (M2 15 2)))), .int y1]) (host := "SharedShadow") gX4_isShadeOf_X7_bit_n53 (List.mem_of_getElem? (i := 7) rfl) (List.mem_of_getElem? (i := 5) rfl) (List.mem_of_getElem? (i := 6) rfl) rfl rfl rfl (by decide +kernel) ⟨Nat.le_of_ble_eq_true rfl, Nat.le_of_ble_eq_true rfl⟩ rfl rfl (Nat.le_of_ble_eq_true rfl) (mtX7_bit E l  (M2 (d2 + 1) (ix (y3 - (M2 15 2)))) y1 M2) dX4_isShadeOf_46 rfl (fun r5 M4 _ => ?_)
        refine zz_icmp_eq (tgt := 54) (npc := 52) dX4_isShadeOf_49 (by decide) rfl ?_ ?_
        · refine zz_iincB (npc := 57) (y3 + 1) (lv1 := fun v6 => [(3, .int v6), (0, .ref (eA E 15)), (1, .int y1), (2, .ref (eA E d2))]) dX4_isShadeOf_54 rfl 3 rfl rfl (by decide) (fun _ => rfl) (fun v6 => ?_)
          refine zz_goto (npc := 0) (tgt := 5) dX4_isShadeOf_57 (by decide) ?_
          refine zz_sub (npc := 0) (lv1 := [(0, .ref (eA E 15)), (1, .int y1), (2, .ref (eA E d2)), (3, .int v6)]) [1, 2, 3, 0] rfl ?_
          exact ih y1 v6 M4
        · refine zz_iconst (npc := 53) 0 (by decide) dX4_isShadeOf_52 rfl ?_
          exact zz_zret dX4_isShadeOf_53
noncomputable def fX4_isShadeOf (d2 : Nat) (x1 : Int32) (M : Mem) : Option (Int32 × Mem) := (bv (M 15 2) fun v1 => (fX4_isShadeOf_L5 d2 fu x1 v1 M))
set_option maxHeartbeats 4000000 in
set_option maxRecDepth 100000 in
theorem mtX4_isShadeOf (E : EV) (l : Launch) (d2 : Nat) (hd2 : isSh d2) (x1 : Int32) (M : Mem) : CT E l yX4_isShadeOf wsX4_isShadeOf rmX4_isShadeOf vI [.ref (eA E 15), .int x1, .ref (eA E d2)] (fX4_isShadeOf d2 x1 M) M := by
  refine ct_of (cc := cX4_isShadeOf) (nL := 4) (ret := (some .boolean)) (by decide +kernel) rfl (Nat.le_of_ble_eq_true rfl) ?_
  show ZZ E l RX4 cX4_isShadeOf 4 (some .boolean) wsX4_isShadeOf rmX4_isShadeOf vI (fX4_isShadeOf d2 x1 M) M [(0, .ref (eA E 15)), (1, .int x1), (2, .ref (eA E d2))] 0 []
  unfold fX4_isShadeOf
  refine zz_aload_n (npc := 1) 0 rfl rfl dX4_isShadeOf_0 rfl ?_
  refine zz_getI (npc := 4) (i := 2) (C0 := RX4) (T := TX4) (N := 4) (by decide) (by rfl) rfl (by decide) iX4_isShadeOf_4 (List.mem_of_getElem? (i := 1) rfl) rfl dX4_isShadeOf_1 rfl ?_
  refine zz_istore_nB (npc := 5) (lv1 := fun v1 => [(3, .int v1), (0, .ref (eA E 15)), (1, .int x1), (2, .ref (eA E d2))]) rfl dX4_isShadeOf_4 rfl (by decide) (fun _ => rfl) (fun v1 => ?_)
  refine zz_sub (npc := 0) (lv1 := [(0, .ref (eA E 15)), (1, .int x1), (2, .ref (eA E d2)), (3, .int v1)]) [1, 2, 3, 0] rfl ?_
  exact zX4_isShadeOf_L5 E l d2 hd2 fu x1 v1 M

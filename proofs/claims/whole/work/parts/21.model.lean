abbrev rmX8_met : Room := { frames := 8, cells := 0, slots := 0, locals := 187 }
theorem iX8_met_8 : ∀ w ∈ u_ws RX8 TX8 29, w ∈ wsX8_met := fun w h => List.mem_cons_of_mem _ (List.mem_append_right _ h)
noncomputable def fX8_met  (x1 : Int32) (M : Mem) : Option (Int32 × Mem) := (bd (fX8_isPerson x1 M) fun r2 M1 => (if r2 = 0 then (bd (fX8_finding (-1000001) M1) fun r5 M4 => (some (r5, M4))) else (bd (fX8_findRest x1 M1) fun _ M3 => (some (M3 57 7, M3)))))
set_option maxHeartbeats 4000000 in
set_option maxRecDepth 100000 in
theorem mtX8_met (E : EV) (l : Launch)   (x1 : Int32) (M : Mem) : CT E l yX8_met wsX8_met rmX8_met vI [.ref (eA E 57), .int x1] (fX8_met x1 M) M := by
  refine ct_of (cc := cX8_met) (nL := 2) (ret := (some .int)) (by decide +kernel) rfl (Nat.le_of_ble_eq_true rfl) ?_
  show ZZ E l RX8 cX8_met 2 (some .int) wsX8_met rmX8_met vI (fX8_met x1 M) M [(0, .ref (eA E 57)), (1, .int x1)] 0 []
  unfold fX8_met
  refine zz_aload_n (npc := 1) 0 rfl rfl dX8_met_0 rfl ?_
  refine zz_iload_n (npc := 2) 1 rfl rfl dX8_met_1 rfl ?_
  refine zz_callVi (npc := 5) (n := 1) (As := [.int x1]) (by decide) (by rfl) rfl gX8_met_X8_isPerson rfl rfl rfl (by decide +kernel) ⟨Nat.le_of_ble_eq_true rfl, Nat.le_of_ble_eq_true rfl⟩ rfl rfl (Nat.le_of_ble_eq_true rfl) (mtX8_isPerson E l  x1 M) dX8_met_2 rfl (fun r2 M1 _ => ?_)
  refine zz_if_ne (tgt := 15) (npc := 8) dX8_met_5 (by decide) rfl ?_ ?_
  · refine zz_aload_n (npc := 16) 0 rfl rfl dX8_met_15 rfl ?_
    refine zz_iload_n (npc := 17) 1 rfl rfl dX8_met_16 rfl ?_
    refine zz_callVv (npc := 20) (n := 1) (As := [.int x1]) (by decide) (by rfl) rfl gX8_met_X8_findRest rfl rfl rfl (by decide +kernel) ⟨Nat.le_of_ble_eq_true rfl, Nat.le_of_ble_eq_true rfl⟩ rfl rfl (Nat.le_of_ble_eq_true rfl) (mtX8_findRest E l  x1 M1) dX8_met_17 rfl (fun _ M3 _ => ?_)
    refine zz_aload_n (npc := 21) 0 rfl rfl dX8_met_20 rfl ?_
    refine zz_getI (npc := 24) (i := 7) (C0 := RX8) (T := TX8) (N := 29) (by decide) (by rfl) rfl (by decide) iX8_met_8 (List.mem_of_getElem? (i := 2) rfl) rfl dX8_met_21 rfl ?_
    exact zz_iret dX8_met_24
  · refine zz_aload_n (npc := 9) 0 rfl rfl dX8_met_8 rfl ?_
    refine zz_ldc (npc := 11) (-1000001) (List.mem_of_getElem? (i := 1) rfl) dX8_met_9 rfl ?_
    refine zz_callVi (npc := 14) (n := 1) (As := [.int (-1000001)]) (by decide) (by rfl) rfl gX8_met_X8_finding rfl rfl rfl (by decide +kernel) ⟨Nat.le_of_ble_eq_true rfl, Nat.le_of_ble_eq_true rfl⟩ rfl rfl (Nat.le_of_ble_eq_true rfl) (mtX8_finding E l  (-1000001) M1) dX8_met_11 rfl (fun r5 M4 _ => ?_)
    exact zz_iret dX8_met_14
abbrev rmX8_restHours : Room := { frames := 0, cells := 0, slots := 0, locals := 0 }
theorem iX8_restHours_8 : ∀ w ∈ u_ws RX8 TX8 29, w ∈ wsX8_restHours := fun w h => List.mem_cons_of_mem _ (List.mem_append_right _ h)
noncomputable def fX8_restHours   (M : Mem) : Option (Int32 × Mem) := (ck (inb 0 56) (some (65536 - (shl 1 (M 58 (ix 0))), M)))
set_option maxHeartbeats 4000000 in
set_option maxRecDepth 100000 in
theorem mtX8_restHours (E : EV) (l : Launch)    (M : Mem) : CT E l yX8_restHours wsX8_restHours rmX8_restHours vI [.ref (eA E 57)] (fX8_restHours  M) M := by
  refine ct_of (cc := cX8_restHours) (nL := 1) (ret := (some .int)) (by decide +kernel) rfl (Nat.le_of_ble_eq_true rfl) ?_
  show ZZ E l RX8 cX8_restHours 1 (some .int) wsX8_restHours rmX8_restHours vI (fX8_restHours  M) M [(0, .ref (eA E 57))] 0 []
  unfold fX8_restHours
  refine zz_ldc (npc := 2) 65536 (List.mem_of_getElem? (i := 1) rfl) dX8_restHours_0 rfl ?_
  refine zz_iconst (npc := 3) 1 (by decide) dX8_restHours_2 rfl ?_
  refine zz_aload_n (npc := 4) 0 rfl rfl dX8_restHours_3 rfl ?_
  refine zz_getR (npc := 7) (i := 0) (C0 := RX8) (T := TX8) (N := 29) (by decide) (by rfl) rfl (by decide) iX8_restHours_8 (List.mem_of_getElem? (i := 2) rfl) rfl dX8_restHours_4 rfl ?_
  refine zz_iconst (npc := 8) 0 (by decide) dX8_restHours_7 rfl ?_
  refine zz_iald (npc := 9) (by decide) (by rfl) dX8_restHours_8 rfl ?_
  refine zz_ishl (npc := 10) dX8_restHours_9 rfl ?_
  refine zz_isub (npc := 11) dX8_restHours_10 rfl ?_
  exact zz_iret dX8_restHours_11
abbrev rmX8_cold : Room := { frames := 8, cells := 0, slots := 0, locals := 187 }
theorem iX8_cold_8 : ∀ w ∈ u_ws RX8 TX8 29, w ∈ wsX8_cold := fun w h => List.mem_cons_of_mem _ (List.mem_append_right _ h)
noncomputable def fX8_cold_L52   (y2 : Int32) (y3 : Int32) (M : Mem) : Option (Int32 × Mem) := (if y2 = 0 then (bd (fX8_finding (-1000004) M) fun r13 M12 => (some (r13, M12))) else (some (y3, M)))
set_option maxHeartbeats 4000000 in
set_option maxRecDepth 100000 in
theorem zX8_cold_L52 (E : EV) (l : Launch)     : ∀ (y2 : Int32) (y3 : Int32) (M : Mem), ZZ E l RX8 cX8_cold 4 (some .int) wsX8_cold rmX8_cold vI (fX8_cold_L52 y2 y3 M) M [(0, .ref (eA E 57)), (2, .int y2), (3, .int y3)] 52 [] := by
  intro y2 y3 M
  unfold fX8_cold_L52
  refine zz_iload_n (npc := 53) 1 rfl rfl dX8_cold_52 rfl ?_
  refine zz_if_ne (tgt := 65) (npc := 56) dX8_cold_53 (by decide) rfl ?_ ?_
  · refine zz_iload_n (npc := 66) 2 rfl rfl dX8_cold_65 rfl ?_
    exact zz_iret dX8_cold_66
  · refine zz_aload_n (npc := 57) 0 rfl rfl dX8_cold_56 rfl ?_
    refine zz_ldc (npc := 59) (-1000004) (List.mem_of_getElem? (i := 3) rfl) dX8_cold_57 rfl ?_
    refine zz_callVi (npc := 62) (n := 1) (As := [.int (-1000004)]) (by decide) (by rfl) rfl gX8_cold_X8_finding rfl rfl rfl (by decide +kernel) ⟨Nat.le_of_ble_eq_true rfl, Nat.le_of_ble_eq_true rfl⟩ rfl rfl (Nat.le_of_ble_eq_true rfl) (mtX8_finding E l  (-1000004) M) dX8_cold_59 rfl (fun r13 M12 _ => ?_)
    refine zz_goto (npc := 0) (tgt := 66) dX8_cold_62 (by decide) ?_
    exact zz_iret dX8_cold_66
noncomputable def fX8_cold_L34   : Nat → Int32 → Int32 → Mem → Option (Int32 × Mem)
  | 0, _, _, _ => none
  | n + 1, y2, y3, M => (if y2 = 0 then (fX8_cold_L52  y2 y3 M) else (bd (fX8_has y2 y3 M) fun r10 M9 => (if r10 = 0 then (bv (y3 + 1) fun v11 => (fX8_cold_L34  n y2 v11 M9)) else (fX8_cold_L52  y2 y3 M9))))
set_option maxHeartbeats 4000000 in
set_option maxRecDepth 100000 in
theorem zX8_cold_L34 (E : EV) (l : Launch)     : ∀ (n : Nat) (y2 : Int32) (y3 : Int32) (M : Mem), ZZ E l RX8 cX8_cold 4 (some .int) wsX8_cold rmX8_cold vI (fX8_cold_L34 n y2 y3 M) M [(0, .ref (eA E 57)), (2, .int y2), (3, .int y3)] 34 [] := by
  intro n
  induction n with
  | zero => intros; exact zz_none
  | succ n ih =>
    intro y2 y3 M
    rw [fX8_cold_L34]
    refine zz_iload_n (npc := 35) 1 rfl rfl dX8_cold_34 rfl ?_
    refine zz_if_eq (tgt := 52) (npc := 38) dX8_cold_35 (by decide) rfl ?_ ?_
    · exact zX8_cold_L52 E l  y2 y3 M
    · refine zz_iload_n (npc := 39) 1 rfl rfl dX8_cold_38 rfl ?_
      refine zz_iload_n (npc := 40) 2 rfl rfl dX8_cold_39 rfl ?_
      refine zz_callSi (npc := 43) (n := 2) (As := [.int y2, .int y3]) gX8_cold_X8_has rfl rfl rfl (by decide +kernel) ⟨Nat.le_of_ble_eq_true rfl, Nat.le_of_ble_eq_true rfl⟩ rfl rfl (Nat.le_of_ble_eq_true rfl) (mtX8_has E l  y2 y3 M) dX8_cold_40 rfl (fun r10 M9 _ => ?_)
      refine zz_if_ne (tgt := 52) (npc := 46) dX8_cold_43 (by decide) rfl ?_ ?_
      · exact zX8_cold_L52 E l  y2 y3 M9
      · refine zz_iincB (npc := 49) (y3 + 1) (lv1 := fun v11 => [(3, .int v11), (0, .ref (eA E 57)), (2, .int y2)]) dX8_cold_46 rfl 2 rfl rfl (by decide) (fun _ => rfl) (fun v11 => ?_)
        refine zz_goto (npc := 0) (tgt := 34) dX8_cold_49 (by decide) ?_
        refine zz_sub (npc := 0) (lv1 := [(0, .ref (eA E 57)), (2, .int y2), (3, .int v11)]) [1, 2, 0] rfl ?_
        exact ih y2 v11 M9
noncomputable def fX8_cold  (x1 : Int32) (M : Mem) : Option (Int32 × Mem) := (bd (fX8_isPerson x1 M) fun r2 M1 => (if r2 = 0 then (bd (fX8_finding (-1000001) M1) fun r8 M7 => (some (r8, M7))) else (bd (fX8_findRest x1 M1) fun _ M3 => (bd (fX8_restHours M3) fun r5 M4 => (bv (r5 &&& ((M4 57 5) ^^^ (-1))) fun v6 => (fX8_cold_L34  fu v6 0 M4))))))
set_option maxHeartbeats 4000000 in
set_option maxRecDepth 100000 in
theorem mtX8_cold (E : EV) (l : Launch)   (x1 : Int32) (M : Mem) : CT E l yX8_cold wsX8_cold rmX8_cold vI [.ref (eA E 57), .int x1] (fX8_cold x1 M) M := by
  refine ct_of (cc := cX8_cold) (nL := 4) (ret := (some .int)) (by decide +kernel) rfl (Nat.le_of_ble_eq_true rfl) ?_
  show ZZ E l RX8 cX8_cold 4 (some .int) wsX8_cold rmX8_cold vI (fX8_cold x1 M) M [(0, .ref (eA E 57)), (1, .int x1)] 0 []
  unfold fX8_cold
  refine zz_aload_n (npc := 1) 0 rfl rfl dX8_cold_0 rfl ?_
  refine zz_iload_n (npc := 2) 1 rfl rfl dX8_cold_1 rfl ?_
  refine zz_callVi (npc := 5) (n := 1) (As := [.int x1]) (by decide) (by rfl) rfl gX8_cold_X8_isPerson rfl rfl rfl (by decide +kernel) ⟨Nat.le_of_ble_eq_true rfl, Nat.le_of_ble_eq_true rfl⟩ rfl rfl (Nat.le_of_ble_eq_true rfl) (mtX8_isPerson E l  x1 M) dX8_cold_2 rfl (fun r2 M1 _ => ?_)
  refine zz_if_ne (tgt := 15) (npc := 8) dX8_cold_5 (by decide) rfl ?_ ?_
  · refine zz_aload_n (npc := 16) 0 rfl rfl dX8_cold_15 rfl ?_
    refine zz_iload_n (npc := 17) 1 rfl rfl dX8_cold_16 rfl ?_
    refine zz_callVv (npc := 20) (n := 1) (As := [.int x1]) (by decide) (by rfl) rfl gX8_cold_X8_findRest rfl rfl rfl (by decide +kernel) ⟨Nat.le_of_ble_eq_true rfl, Nat.le_of_ble_eq_true rfl⟩ rfl rfl (Nat.le_of_ble_eq_true rfl) (mtX8_findRest E l  x1 M1) dX8_cold_17 rfl (fun _ M3 _ => ?_)
    refine zz_aload_n (npc := 21) 0 rfl rfl dX8_cold_20 rfl ?_
    refine zz_callVi (npc := 24) (n := 0) (As := []) (by decide) (by rfl) rfl gX8_cold_X8_restHours rfl rfl rfl (by decide +kernel) ⟨Nat.le_of_ble_eq_true rfl, Nat.le_of_ble_eq_true rfl⟩ rfl rfl (Nat.le_of_ble_eq_true rfl) (mtX8_restHours E l   M3) dX8_cold_21 rfl (fun r5 M4 _ => ?_)
    refine zz_aload_n (npc := 25) 0 rfl rfl dX8_cold_24 rfl ?_
    refine zz_getI (npc := 28) (i := 5) (C0 := RX8) (T := TX8) (N := 29) (by decide) (by rfl) rfl (by decide) iX8_cold_8 (List.mem_of_getElem? (i := 2) rfl) rfl dX8_cold_25 rfl ?_
    refine zz_iconst (npc := 29) (-1) (by decide) dX8_cold_28 rfl ?_
    refine zz_ixor (npc := 30) dX8_cold_29 rfl ?_
    refine zz_iand (npc := 31) dX8_cold_30 rfl ?_
    refine zz_istore_nB (npc := 32) (lv1 := fun v6 => [(2, .int v6), (0, .ref (eA E 57)), (1, .int x1)]) rfl dX8_cold_31 rfl (by decide) (fun _ => rfl) (fun v6 => ?_)
    refine zz_iconst (npc := 33) 0 (by decide) dX8_cold_32 rfl ?_
    refine zz_istore_n (npc := 34) (lv1 := [(3, .int 0), (2, .int v6), (0, .ref (eA E 57)), (1, .int x1)]) rfl dX8_cold_33 rfl (by decide) rfl ?_
    refine zz_sub (npc := 0) (lv1 := [(0, .ref (eA E 57)), (2, .int v6), (3, .int 0)]) [2, 1, 0] rfl ?_
    exact zX8_cold_L34 E l  fu v6 0 M4
  · refine zz_aload_n (npc := 9) 0 rfl rfl dX8_cold_8 rfl ?_
    refine zz_ldc (npc := 11) (-1000001) (List.mem_of_getElem? (i := 1) rfl) dX8_cold_9 rfl ?_
    refine zz_callVi (npc := 14) (n := 1) (As := [.int (-1000001)]) (by decide) (by rfl) rfl gX8_cold_X8_finding rfl rfl rfl (by decide +kernel) ⟨Nat.le_of_ble_eq_true rfl, Nat.le_of_ble_eq_true rfl⟩ rfl rfl (Nat.le_of_ble_eq_true rfl) (mtX8_finding E l  (-1000001) M1) dX8_cold_11 rfl (fun r8 M7 _ => ?_)
    exact zz_iret dX8_cold_14
abbrev rmX8_shade : Room := { frames := 8, cells := 0, slots := 0, locals := 187 }
theorem iX8_shade_8 : ∀ w ∈ u_ws RX8 TX8 29, w ∈ wsX8_shade := fun w h => List.mem_cons_of_mem _ (List.mem_append_right _ h)
noncomputable def fX8_shade  (x1 : Int32) (M : Mem) : Option (Int32 × Mem) := (bd (fX8_isPerson x1 M) fun r2 M1 => (if r2 = 0 then (bd (fX8_finding (-1000001) M1) fun r5 M4 => (some (r5, M4))) else (bd (fX8_findRest x1 M1) fun _ M3 => (some (M3 57 6, M3)))))
set_option maxHeartbeats 4000000 in
set_option maxRecDepth 100000 in
theorem mtX8_shade (E : EV) (l : Launch)   (x1 : Int32) (M : Mem) : CT E l yX8_shade wsX8_shade rmX8_shade vI [.ref (eA E 57), .int x1] (fX8_shade x1 M) M := by
  refine ct_of (cc := cX8_shade) (nL := 2) (ret := (some .int)) (by decide +kernel) rfl (Nat.le_of_ble_eq_true rfl) ?_
  show ZZ E l RX8 cX8_shade 2 (some .int) wsX8_shade rmX8_shade vI (fX8_shade x1 M) M [(0, .ref (eA E 57)), (1, .int x1)] 0 []
  unfold fX8_shade
  refine zz_aload_n (npc := 1) 0 rfl rfl dX8_shade_0 rfl ?_
  refine zz_iload_n (npc := 2) 1 rfl rfl dX8_shade_1 rfl ?_
  refine zz_callVi (npc := 5) (n := 1) (As := [.int x1]) (by decide) (by rfl) rfl gX8_shade_X8_isPerson rfl rfl rfl (by decide +kernel) ⟨Nat.le_of_ble_eq_true rfl, Nat.le_of_ble_eq_true rfl⟩ rfl rfl (Nat.le_of_ble_eq_true rfl) (mtX8_isPerson E l  x1 M) dX8_shade_2 rfl (fun r2 M1 _ => ?_)
  refine zz_if_ne (tgt := 15) (npc := 8) dX8_shade_5 (by decide) rfl ?_ ?_
  · refine zz_aload_n (npc := 16) 0 rfl rfl dX8_shade_15 rfl ?_
    refine zz_iload_n (npc := 17) 1 rfl rfl dX8_shade_16 rfl ?_
    refine zz_callVv (npc := 20) (n := 1) (As := [.int x1]) (by decide) (by rfl) rfl gX8_shade_X8_findRest rfl rfl rfl (by decide +kernel) ⟨Nat.le_of_ble_eq_true rfl, Nat.le_of_ble_eq_true rfl⟩ rfl rfl (Nat.le_of_ble_eq_true rfl) (mtX8_findRest E l  x1 M1) dX8_shade_17 rfl (fun _ M3 _ => ?_)
    refine zz_aload_n (npc := 21) 0 rfl rfl dX8_shade_20 rfl ?_
    refine zz_getI (npc := 24) (i := 6) (C0 := RX8) (T := TX8) (N := 29) (by decide) (by rfl) rfl (by decide) iX8_shade_8 (List.mem_of_getElem? (i := 2) rfl) rfl dX8_shade_21 rfl ?_
    exact zz_iret dX8_shade_24
  · refine zz_aload_n (npc := 9) 0 rfl rfl dX8_shade_8 rfl ?_
    refine zz_ldc (npc := 11) (-1000001) (List.mem_of_getElem? (i := 1) rfl) dX8_shade_9 rfl ?_
    refine zz_callVi (npc := 14) (n := 1) (As := [.int (-1000001)]) (by decide) (by rfl) rfl gX8_shade_X8_finding rfl rfl rfl (by decide +kernel) ⟨Nat.le_of_ble_eq_true rfl, Nat.le_of_ble_eq_true rfl⟩ rfl rfl (Nat.le_of_ble_eq_true rfl) (mtX8_finding E l  (-1000001) M1) dX8_shade_11 rfl (fun r5 M4 _ => ?_)
    exact zz_iret dX8_shade_14
abbrev rmX8_metByAll : Room := { frames := 8, cells := 0, slots := 0, locals := 186 }
theorem iX8_metByAll_8 : ∀ w ∈ u_ws RX8 TX8 29, w ∈ wsX8_metByAll := fun w h => List.mem_cons_of_mem _ (List.mem_append_right _ h)
noncomputable def fX8_metByAll   (M : Mem) : Option (Int32 × Mem) := (bd (fX8_copyRow 58 60 M) fun _ M1 => (ck (inb 0 56) (bd (fX8_hoursGo (16 - (M1 58 (ix 0))) M1) fun r3 M2 => (ck (inb 1 56) (bd (fX8_putBack (r3 - (M2 60 (ix 1))) M2) fun r5 M4 => (some (r5, M4)))))))
set_option maxHeartbeats 4000000 in
set_option maxRecDepth 100000 in
theorem mtX8_metByAll (E : EV) (l : Launch)    (M : Mem) : CT E l yX8_metByAll wsX8_metByAll rmX8_metByAll vI [.ref (eA E 57)] (fX8_metByAll  M) M := by
  refine ct_of (cc := cX8_metByAll) (nL := 1) (ret := (some .int)) (by decide +kernel) rfl (Nat.le_of_ble_eq_true rfl) ?_
  show ZZ E l RX8 cX8_metByAll 1 (some .int) wsX8_metByAll rmX8_metByAll vI (fX8_metByAll  M) M [(0, .ref (eA E 57))] 0 []
  unfold fX8_metByAll
  refine zz_aload_n (npc := 1) 0 rfl rfl dX8_metByAll_0 rfl ?_
  refine zz_getR (npc := 4) (i := 0) (C0 := RX8) (T := TX8) (N := 29) (by decide) (by rfl) rfl (by decide) iX8_metByAll_8 (List.mem_of_getElem? (i := 1) rfl) rfl dX8_metByAll_1 rfl ?_
  refine zz_aload_n (npc := 5) 0 rfl rfl dX8_metByAll_4 rfl ?_
  refine zz_getR (npc := 8) (i := 2) (C0 := RX8) (T := TX8) (N := 29) (by decide) (by rfl) rfl (by decide) iX8_metByAll_8 (List.mem_of_getElem? (i := 2) rfl) rfl dX8_metByAll_5 rfl ?_
  refine zz_callSv (npc := 11) (n := 2) (As := [.ref (eA E 58), .ref (eA E 60)]) gX8_metByAll_X8_copyRow rfl rfl rfl (by decide +kernel) ⟨Nat.le_of_ble_eq_true rfl, Nat.le_of_ble_eq_true rfl⟩ rfl rfl (Nat.le_of_ble_eq_true rfl) (mtX8_copyRow E l 58 60 ⟨(by decide), (by rfl)⟩ ⟨(by decide), (by rfl)⟩  M) dX8_metByAll_8 rfl (fun _ M1 _ => ?_)
  refine zz_aload_n (npc := 12) 0 rfl rfl dX8_metByAll_11 rfl ?_
  refine zz_aload_n (npc := 13) 0 rfl rfl dX8_metByAll_12 rfl ?_
  refine zz_bipush (npc := 15) 16 (by decide) dX8_metByAll_13 rfl ?_
  refine zz_aload_n (npc := 16) 0 rfl rfl dX8_metByAll_15 rfl ?_
  refine zz_getR (npc := 19) (i := 0) (C0 := RX8) (T := TX8) (N := 29) (by decide) (by rfl) rfl (by decide) iX8_metByAll_8 (List.mem_of_getElem? (i := 1) rfl) rfl dX8_metByAll_16 rfl ?_
  refine zz_iconst (npc := 20) 0 (by decide) dX8_metByAll_19 rfl ?_
  refine zz_iald (npc := 21) (by decide) (by rfl) dX8_metByAll_20 rfl ?_
  refine zz_isub (npc := 22) dX8_metByAll_21 rfl ?_
  refine zz_callVi (npc := 25) (n := 1) (As := [.int (16 - (M1 58 (ix 0)))]) (by decide) (by rfl) rfl gX8_metByAll_X8_hoursGo rfl rfl rfl (by decide +kernel) ⟨Nat.le_of_ble_eq_true rfl, Nat.le_of_ble_eq_true rfl⟩ rfl rfl (Nat.le_of_ble_eq_true rfl) (mtX8_hoursGo E l  (16 - (M1 58 (ix 0))) M1) dX8_metByAll_22 rfl (fun r3 M2 _ => ?_)
  refine zz_aload_n (npc := 26) 0 rfl rfl dX8_metByAll_25 rfl ?_
  refine zz_getR (npc := 29) (i := 2) (C0 := RX8) (T := TX8) (N := 29) (by decide) (by rfl) rfl (by decide) iX8_metByAll_8 (List.mem_of_getElem? (i := 2) rfl) rfl dX8_metByAll_26 rfl ?_
  refine zz_iconst (npc := 30) 1 (by decide) dX8_metByAll_29 rfl ?_
  refine zz_iald (npc := 31) (by decide) (by rfl) dX8_metByAll_30 rfl ?_
  refine zz_isub (npc := 32) dX8_metByAll_31 rfl ?_
  refine zz_callVi (npc := 35) (n := 1) (As := [.int (r3 - (M2 60 (ix 1)))]) (by decide) (by rfl) rfl gX8_metByAll_X8_putBack rfl rfl rfl (by decide +kernel) ⟨Nat.le_of_ble_eq_true rfl, Nat.le_of_ble_eq_true rfl⟩ rfl rfl (Nat.le_of_ble_eq_true rfl) (mtX8_putBack E l  (r3 - (M2 60 (ix 1))) M2) dX8_metByAll_32 rfl (fun r5 M4 _ => ?_)
  exact zz_iret dX8_metByAll_35
abbrev rmX8_all : Room := { frames := 9, cells := 0, slots := 0, locals := 206 }
noncomputable def fX8_all   (M : Mem) : Option (Int32 × Mem) := (bd (fX8_metByAll M) fun r2 M1 => (some (r2, M1)))
set_option maxHeartbeats 4000000 in
set_option maxRecDepth 100000 in
theorem mtX8_all (E : EV) (l : Launch)    (M : Mem) : CT E l yX8_all wsX8_all rmX8_all vI [.ref (eA E 57)] (fX8_all  M) M := by
  refine ct_of (cc := cX8_all) (nL := 1) (ret := (some .int)) (by decide +kernel) rfl (Nat.le_of_ble_eq_true rfl) ?_
  show ZZ E l RX8 cX8_all 1 (some .int) wsX8_all rmX8_all vI (fX8_all  M) M [(0, .ref (eA E 57))] 0 []
  unfold fX8_all
  refine zz_aload_n (npc := 1) 0 rfl rfl dX8_all_0 rfl ?_
  refine zz_callVi (npc := 4) (n := 0) (As := []) (by decide) (by rfl) rfl gX8_all_X8_metByAll rfl rfl rfl (by decide +kernel) ⟨Nat.le_of_ble_eq_true rfl, Nat.le_of_ble_eq_true rfl⟩ rfl rfl (Nat.le_of_ble_eq_true rfl) (mtX8_metByAll E l   M) dX8_all_1 rfl (fun r2 M1 _ => ?_)
  exact zz_iret dX8_all_4
abbrev rmX8_tan : Room := { frames := 8, cells := 0, slots := 0, locals := 187 }
theorem iX8_tan_8 : ∀ w ∈ u_ws RX8 TX8 29, w ∈ wsX8_tan := fun w h => List.mem_cons_of_mem _ (List.mem_append_right _ h)
noncomputable def fX8_tan  (x1 : Int32) (M : Mem) : Option (Int32 × Mem) := (bd (fX8_isPerson x1 M) fun r2 M1 => (if r2 = 0 then (bd (fX8_finding (-1000001) M1) fun r5 M4 => (some (r5, M4))) else (bd (fX8_findRest x1 M1) fun _ M3 => (some (M3 57 8, M3)))))
set_option maxHeartbeats 4000000 in
set_option maxRecDepth 100000 in
theorem mtX8_tan (E : EV) (l : Launch)   (x1 : Int32) (M : Mem) : CT E l yX8_tan wsX8_tan rmX8_tan vI [.ref (eA E 57), .int x1] (fX8_tan x1 M) M := by
  refine ct_of (cc := cX8_tan) (nL := 2) (ret := (some .int)) (by decide +kernel) rfl (Nat.le_of_ble_eq_true rfl) ?_
  show ZZ E l RX8 cX8_tan 2 (some .int) wsX8_tan rmX8_tan vI (fX8_tan x1 M) M [(0, .ref (eA E 57)), (1, .int x1)] 0 []
  unfold fX8_tan
  refine zz_aload_n (npc := 1) 0 rfl rfl dX8_tan_0 rfl ?_
  refine zz_iload_n (npc := 2) 1 rfl rfl dX8_tan_1 rfl ?_
  refine zz_callVi (npc := 5) (n := 1) (As := [.int x1]) (by decide) (by rfl) rfl gX8_tan_X8_isPerson rfl rfl rfl (by decide +kernel) ⟨Nat.le_of_ble_eq_true rfl, Nat.le_of_ble_eq_true rfl⟩ rfl rfl (Nat.le_of_ble_eq_true rfl) (mtX8_isPerson E l  x1 M) dX8_tan_2 rfl (fun r2 M1 _ => ?_)
  refine zz_if_ne (tgt := 15) (npc := 8) dX8_tan_5 (by decide) rfl ?_ ?_
  · refine zz_aload_n (npc := 16) 0 rfl rfl dX8_tan_15 rfl ?_
    refine zz_iload_n (npc := 17) 1 rfl rfl dX8_tan_16 rfl ?_
    refine zz_callVv (npc := 20) (n := 1) (As := [.int x1]) (by decide) (by rfl) rfl gX8_tan_X8_findRest rfl rfl rfl (by decide +kernel) ⟨Nat.le_of_ble_eq_true rfl, Nat.le_of_ble_eq_true rfl⟩ rfl rfl (Nat.le_of_ble_eq_true rfl) (mtX8_findRest E l  x1 M1) dX8_tan_17 rfl (fun _ M3 _ => ?_)
    refine zz_aload_n (npc := 21) 0 rfl rfl dX8_tan_20 rfl ?_
    refine zz_getI (npc := 24) (i := 8) (C0 := RX8) (T := TX8) (N := 29) (by decide) (by rfl) rfl (by decide) iX8_tan_8 (List.mem_of_getElem? (i := 2) rfl) rfl dX8_tan_21 rfl ?_
    exact zz_iret dX8_tan_24
  · refine zz_aload_n (npc := 9) 0 rfl rfl dX8_tan_8 rfl ?_
    refine zz_ldc (npc := 11) (-1000001) (List.mem_of_getElem? (i := 1) rfl) dX8_tan_9 rfl ?_
    refine zz_callVi (npc := 14) (n := 1) (As := [.int (-1000001)]) (by decide) (by rfl) rfl gX8_tan_X8_finding rfl rfl rfl (by decide +kernel) ⟨Nat.le_of_ble_eq_true rfl, Nat.le_of_ble_eq_true rfl⟩ rfl rfl (Nat.le_of_ble_eq_true rfl) (mtX8_finding E l  (-1000001) M1) dX8_tan_11 rfl (fun r5 M4 _ => ?_)
    exact zz_iret dX8_tan_14
abbrev rmX8_strong : Room := { frames := 8, cells := 0, slots := 0, locals := 187 }
theorem iX8_strong_8 : ∀ w ∈ u_ws RX8 TX8 29, w ∈ wsX8_strong := fun w h => List.mem_cons_of_mem _ (List.mem_append_right _ h)
noncomputable def fX8_strong_L72  (k27 : Int32 → Int32 → Int32 → Int32 → Mem → Option (Int32 × Mem)) (y1 : Int32) (y2 : Int32) (y4 : Int32) (w0 : Int32) (M : Mem) : Option (Int32 × Mem) := (bv (y4 + 1) fun v18 => (k27 y1 y2 w0 v18 M))
set_option maxHeartbeats 4000000 in
set_option maxRecDepth 100000 in
theorem zX8_strong_L72 (E : EV) (l : Launch)   (k27 : Int32 → Int32 → Int32 → Int32 → Mem → Option (Int32 × Mem)) (hk27 : ∀ (y1_ : Int32) (y2_ : Int32) (y3_ : Int32) (y4_ : Int32) (M_ : Mem), ZZ E l RX8 cX8_strong 5 (some .int) wsX8_strong rmX8_strong vI (k27 y1_ y2_ y3_ y4_ M_) M_ [(0, .ref (eA E 57)), (1, .int y1_), (2, .int y2_), (3, .int y3_), (4, .int y4_)] 27 []) : ∀ (y1 : Int32) (y2 : Int32) (y4 : Int32) (w0 : Int32) (M : Mem), ZZ E l RX8 cX8_strong 5 (some .int) wsX8_strong rmX8_strong vI (fX8_strong_L72 k27 y1 y2 y4 w0 M) M [(0, .ref (eA E 57)), (1, .int y1), (2, .int y2), (4, .int y4)] 72 [.int w0] := by
  intro y1 y2 y4 w0 M
  unfold fX8_strong_L72
  refine zz_istore_n (npc := 73) (lv1 := [(3, .int w0), (0, .ref (eA E 57)), (1, .int y1), (2, .int y2), (4, .int y4)]) rfl dX8_strong_72 rfl (by decide) rfl ?_
  refine zz_iincB (npc := 76) (y4 + 1) (lv1 := fun v18 => [(4, .int v18), (3, .int w0), (0, .ref (eA E 57)), (1, .int y1), (2, .int y2)]) dX8_strong_73 rfl 4 rfl rfl (by decide) (fun _ => rfl) (fun v18 => ?_)
  refine zz_goto (npc := 0) (tgt := 27) dX8_strong_76 (by decide) ?_
  refine zz_sub (npc := 0) (lv1 := [(0, .ref (eA E 57)), (1, .int y1), (2, .int y2), (3, .int w0), (4, .int v18)]) [2, 3, 4, 1, 0] rfl ?_
  exact hk27 y1 y2 w0 v18 M
noncomputable def fX8_strong_L79   (y1 : Int32) (y2 : Int32) (y3 : Int32) (M : Mem) : Option (Int32 × Mem) := (bd (fX8_at y1 2 M) fun r14 M13 => (ck (inb r14 56) (wm (wr M13 58 (ix r14) y2) fun M15 => (if 0 ≤ y3 then (some (y3, M15)) else (bd (fX8_finding (-1000004) M15) fun r17 M16 => (some (r17, M16)))))))
set_option maxHeartbeats 4000000 in
set_option maxRecDepth 100000 in
theorem zX8_strong_L79 (E : EV) (l : Launch)     : ∀ (y1 : Int32) (y2 : Int32) (y3 : Int32) (M : Mem), ZZ E l RX8 cX8_strong 5 (some .int) wsX8_strong rmX8_strong vI (fX8_strong_L79 y1 y2 y3 M) M [(0, .ref (eA E 57)), (1, .int y1), (2, .int y2), (3, .int y3)] 79 [] := by
  intro y1 y2 y3 M
  unfold fX8_strong_L79
  refine zz_aload_n (npc := 80) 0 rfl rfl dX8_strong_79 rfl ?_
  refine zz_getR (npc := 83) (i := 0) (C0 := RX8) (T := TX8) (N := 29) (by decide) (by rfl) rfl (by decide) iX8_strong_8 (List.mem_of_getElem? (i := 2) rfl) rfl dX8_strong_80 rfl ?_
  refine zz_iload_n (npc := 84) 1 rfl rfl dX8_strong_83 rfl ?_
  refine zz_iconst (npc := 85) 2 (by decide) dX8_strong_84 rfl ?_
  refine zz_callSi (npc := 88) (n := 2) (As := [.int y1, .int 2]) gX8_strong_X8_at rfl rfl rfl (by decide +kernel) ⟨Nat.le_of_ble_eq_true rfl, Nat.le_of_ble_eq_true rfl⟩ rfl rfl (Nat.le_of_ble_eq_true rfl) (mtX8_at E l  y1 2 M) dX8_strong_85 rfl (fun r14 M13 _ => ?_)
  refine zz_iload_n (npc := 89) 2 rfl rfl dX8_strong_88 rfl ?_
  refine zz_iast (npc := 90) (by decide) (by rfl) dX8_strong_89 rfl (fun M15 => ?_)
  refine zz_iload_n (npc := 91) 3 rfl rfl dX8_strong_90 rfl ?_
  refine zz_if_ge (tgt := 103) (npc := 94) dX8_strong_91 (by decide) rfl ?_ ?_
  · refine zz_iload_n (npc := 104) 3 rfl rfl dX8_strong_103 rfl ?_
    exact zz_iret dX8_strong_104
  · refine zz_aload_n (npc := 95) 0 rfl rfl dX8_strong_94 rfl ?_
    refine zz_ldc (npc := 97) (-1000004) (List.mem_of_getElem? (i := 4) rfl) dX8_strong_95 rfl ?_
    refine zz_callVi (npc := 100) (n := 1) (As := [.int (-1000004)]) (by decide) (by rfl) rfl gX8_strong_X8_finding rfl rfl rfl (by decide +kernel) ⟨Nat.le_of_ble_eq_true rfl, Nat.le_of_ble_eq_true rfl⟩ rfl rfl (Nat.le_of_ble_eq_true rfl) (mtX8_finding E l  (-1000004) M15) dX8_strong_97 rfl (fun r17 M16 _ => ?_)
    refine zz_goto (npc := 0) (tgt := 104) dX8_strong_100 (by decide) ?_
    exact zz_iret dX8_strong_104
noncomputable def fX8_strong_L27   : Nat → Int32 → Int32 → Int32 → Int32 → Mem → Option (Int32 × Mem)
  | 0, _, _, _, _, _ => none
  | n + 1, y1, y2, y3, y4, M => (if 9 < y4 then (fX8_strong_L79  y1 y2 y3 M) else (if 0 ≤ y3 then (fX8_strong_L79  y1 y2 y3 M) else (bd (fX8_at y1 2 M) fun r8 M7 => (ck (inb r8 56) (wm (wr M7 58 (ix r8) y4) fun M9 => (bd (fX8_findRest y1 M9) fun _ M10 => (bd (fX8_restHours M10) fun r12 M11 => (if (M10 57 5) = r12 then (fX8_strong_L72 (fX8_strong_L27  n) y1 y2 y4 y4 M11) else (fX8_strong_L72 (fX8_strong_L27  n) y1 y2 y4 (-1) M11)))))))))
set_option maxHeartbeats 4000000 in
set_option maxRecDepth 100000 in
theorem zX8_strong_L27 (E : EV) (l : Launch)     : ∀ (n : Nat) (y1 : Int32) (y2 : Int32) (y3 : Int32) (y4 : Int32) (M : Mem), ZZ E l RX8 cX8_strong 5 (some .int) wsX8_strong rmX8_strong vI (fX8_strong_L27 n y1 y2 y3 y4 M) M [(0, .ref (eA E 57)), (1, .int y1), (2, .int y2), (3, .int y3), (4, .int y4)] 27 [] := by
  intro n
  induction n with
  | zero => intros; exact zz_none
  | succ n ih =>
    intro y1 y2 y3 y4 M
    rw [fX8_strong_L27]
    refine zz_iload (npc := 29) 4 rfl dX8_strong_27 rfl ?_
    refine zz_bipush (npc := 31) 9 (by decide) dX8_strong_29 rfl ?_
    refine zz_icmp_gt (tgt := 79) (npc := 34) dX8_strong_31 (by decide) rfl ?_ ?_
    · refine zz_sub (npc := 0) (lv1 := [(0, .ref (eA E 57)), (1, .int y1), (2, .int y2), (3, .int y3)]) [0, 1, 2, 3] rfl ?_
      exact zX8_strong_L79 E l  y1 y2 y3 M
    · refine zz_iload_n (npc := 35) 3 rfl rfl dX8_strong_34 rfl ?_
      refine zz_if_ge (tgt := 79) (npc := 38) dX8_strong_35 (by decide) rfl ?_ ?_
      · refine zz_sub (npc := 0) (lv1 := [(0, .ref (eA E 57)), (1, .int y1), (2, .int y2), (3, .int y3)]) [0, 1, 2, 3] rfl ?_
        exact zX8_strong_L79 E l  y1 y2 y3 M
      · refine zz_aload_n (npc := 39) 0 rfl rfl dX8_strong_38 rfl ?_
        refine zz_getR (npc := 42) (i := 0) (C0 := RX8) (T := TX8) (N := 29) (by decide) (by rfl) rfl (by decide) iX8_strong_8 (List.mem_of_getElem? (i := 2) rfl) rfl dX8_strong_39 rfl ?_
        refine zz_iload_n (npc := 43) 1 rfl rfl dX8_strong_42 rfl ?_
        refine zz_iconst (npc := 44) 2 (by decide) dX8_strong_43 rfl ?_
        refine zz_callSi (npc := 47) (n := 2) (As := [.int y1, .int 2]) gX8_strong_X8_at rfl rfl rfl (by decide +kernel) ⟨Nat.le_of_ble_eq_true rfl, Nat.le_of_ble_eq_true rfl⟩ rfl rfl (Nat.le_of_ble_eq_true rfl) (mtX8_at E l  y1 2 M) dX8_strong_44 rfl (fun r8 M7 _ => ?_)
        refine zz_iload (npc := 49) 4 rfl dX8_strong_47 rfl ?_
        refine zz_iast (npc := 50) (by decide) (by rfl) dX8_strong_49 rfl (fun M9 => ?_)
        refine zz_aload_n (npc := 51) 0 rfl rfl dX8_strong_50 rfl ?_
        refine zz_iload_n (npc := 52) 1 rfl rfl dX8_strong_51 rfl ?_
        refine zz_callVv (npc := 55) (n := 1) (As := [.int y1]) (by decide) (by rfl) rfl gX8_strong_X8_findRest rfl rfl rfl (by decide +kernel) ⟨Nat.le_of_ble_eq_true rfl, Nat.le_of_ble_eq_true rfl⟩ rfl rfl (Nat.le_of_ble_eq_true rfl) (mtX8_findRest E l  y1 M9) dX8_strong_52 rfl (fun _ M10 _ => ?_)
        refine zz_aload_n (npc := 56) 0 rfl rfl dX8_strong_55 rfl ?_
        refine zz_getI (npc := 59) (i := 5) (C0 := RX8) (T := TX8) (N := 29) (by decide) (by rfl) rfl (by decide) iX8_strong_8 (List.mem_of_getElem? (i := 3) rfl) rfl dX8_strong_56 rfl ?_
        refine zz_aload_n (npc := 60) 0 rfl rfl dX8_strong_59 rfl ?_
        refine zz_callVi (npc := 63) (n := 0) (As := []) (by decide) (by rfl) rfl gX8_strong_X8_restHours rfl rfl rfl (by decide +kernel) ⟨Nat.le_of_ble_eq_true rfl, Nat.le_of_ble_eq_true rfl⟩ rfl rfl (Nat.le_of_ble_eq_true rfl) (mtX8_restHours E l   M10) dX8_strong_60 rfl (fun r12 M11 _ => ?_)
        refine zz_icmp_ne (tgt := 71) (npc := 66) dX8_strong_63 (by decide) rfl ?_ ?_
        · refine zz_iconst (npc := 72) (-1) (by decide) dX8_strong_71 rfl ?_
          refine zz_sub (npc := 0) (lv1 := [(0, .ref (eA E 57)), (1, .int y1), (2, .int y2), (4, .int y4)]) [0, 1, 2, 4] rfl ?_
          exact zX8_strong_L72 E l (fX8_strong_L27  n) ih y1 y2 y4 (-1) M11
        · refine zz_iload (npc := 68) 4 rfl dX8_strong_66 rfl ?_
          refine zz_goto (npc := 0) (tgt := 72) dX8_strong_68 (by decide) ?_
          refine zz_sub (npc := 0) (lv1 := [(0, .ref (eA E 57)), (1, .int y1), (2, .int y2), (4, .int y4)]) [0, 1, 2, 4] rfl ?_
          exact zX8_strong_L72 E l (fX8_strong_L27  n) ih y1 y2 y4 y4 M11
noncomputable def fX8_strong  (x1 : Int32) (M : Mem) : Option (Int32 × Mem) := (bd (fX8_isPerson x1 M) fun r2 M1 => (if r2 = 0 then (bd (fX8_finding (-1000001) M1) fun r6 M5 => (some (r6, M5))) else (bd (fX8_personIs x1 2 M1) fun r4 M3 => (fX8_strong_L27  fu x1 r4 (-1) 0 M3))))
set_option maxHeartbeats 4000000 in
set_option maxRecDepth 100000 in
theorem mtX8_strong (E : EV) (l : Launch)   (x1 : Int32) (M : Mem) : CT E l yX8_strong wsX8_strong rmX8_strong vI [.ref (eA E 57), .int x1] (fX8_strong x1 M) M := by
  refine ct_of (cc := cX8_strong) (nL := 5) (ret := (some .int)) (by decide +kernel) rfl (Nat.le_of_ble_eq_true rfl) ?_
  show ZZ E l RX8 cX8_strong 5 (some .int) wsX8_strong rmX8_strong vI (fX8_strong x1 M) M [(0, .ref (eA E 57)), (1, .int x1)] 0 []
  unfold fX8_strong
  refine zz_aload_n (npc := 1) 0 rfl rfl dX8_strong_0 rfl ?_
  refine zz_iload_n (npc := 2) 1 rfl rfl dX8_strong_1 rfl ?_
  refine zz_callVi (npc := 5) (n := 1) (As := [.int x1]) (by decide) (by rfl) rfl gX8_strong_X8_isPerson rfl rfl rfl (by decide +kernel) ⟨Nat.le_of_ble_eq_true rfl, Nat.le_of_ble_eq_true rfl⟩ rfl rfl (Nat.le_of_ble_eq_true rfl) (mtX8_isPerson E l  x1 M) dX8_strong_2 rfl (fun r2 M1 _ => ?_)
  refine zz_if_ne (tgt := 15) (npc := 8) dX8_strong_5 (by decide) rfl ?_ ?_
  · refine zz_aload_n (npc := 16) 0 rfl rfl dX8_strong_15 rfl ?_
    refine zz_iload_n (npc := 17) 1 rfl rfl dX8_strong_16 rfl ?_
    refine zz_iconst (npc := 18) 2 (by decide) dX8_strong_17 rfl ?_
    refine zz_callVi (npc := 21) (n := 2) (As := [.int x1, .int 2]) (by decide) (by rfl) rfl gX8_strong_X8_personIs rfl rfl rfl (by decide +kernel) ⟨Nat.le_of_ble_eq_true rfl, Nat.le_of_ble_eq_true rfl⟩ rfl rfl (Nat.le_of_ble_eq_true rfl) (mtX8_personIs E l  x1 2 M1) dX8_strong_18 rfl (fun r4 M3 _ => ?_)
    refine zz_istore_n (npc := 22) (lv1 := [(2, .int r4), (0, .ref (eA E 57)), (1, .int x1)]) rfl dX8_strong_21 rfl (by decide) rfl ?_
    refine zz_iconst (npc := 23) (-1) (by decide) dX8_strong_22 rfl ?_
    refine zz_istore_n (npc := 24) (lv1 := [(3, .int (-1)), (2, .int r4), (0, .ref (eA E 57)), (1, .int x1)]) rfl dX8_strong_23 rfl (by decide) rfl ?_
    refine zz_iconst (npc := 25) 0 (by decide) dX8_strong_24 rfl ?_
    refine zz_istore (npc := 27) (lv1 := [(4, .int 0), (3, .int (-1)), (2, .int r4), (0, .ref (eA E 57)), (1, .int x1)]) dX8_strong_25 rfl (by decide) rfl ?_
    refine zz_sub (npc := 0) (lv1 := [(0, .ref (eA E 57)), (1, .int x1), (2, .int r4), (3, .int (-1)), (4, .int 0)]) [3, 4, 2, 1, 0] rfl ?_
    exact zX8_strong_L27 E l  fu x1 r4 (-1) 0 M3
  · refine zz_aload_n (npc := 9) 0 rfl rfl dX8_strong_8 rfl ?_
    refine zz_ldc (npc := 11) (-1000001) (List.mem_of_getElem? (i := 1) rfl) dX8_strong_9 rfl ?_
    refine zz_callVi (npc := 14) (n := 1) (As := [.int (-1000001)]) (by decide) (by rfl) rfl gX8_strong_X8_finding rfl rfl rfl (by decide +kernel) ⟨Nat.le_of_ble_eq_true rfl, Nat.le_of_ble_eq_true rfl⟩ rfl rfl (Nat.le_of_ble_eq_true rfl) (mtX8_finding E l  (-1000001) M1) dX8_strong_11 rfl (fun r6 M5 _ => ?_)
    exact zz_iret dX8_strong_14
abbrev rmX8_kindFor : Room := { frames := 8, cells := 0, slots := 0, locals := 187 }
theorem iX8_kindFor_8 : ∀ w ∈ u_ws RX8 TX8 29, w ∈ wsX8_kindFor := fun w h => List.mem_cons_of_mem _ (List.mem_append_right _ h)
noncomputable def fX8_kindFor_L69  (k30 : Int32 → Int32 → Int32 → Int32 → Int32 → Mem → Option (Int32 × Mem)) (y1 : Int32) (y2 : Int32) (y4 : Int32) (y5 : Int32) (w0 : Int32) (M : Mem) : Option (Int32 × Mem) := (bv (imax y4 (M 57 7)) fun v14 => (bv (y5 + 1) fun v15 => (k30 y1 y2 w0 v14 v15 M)))
set_option maxHeartbeats 4000000 in
set_option maxRecDepth 100000 in
theorem zX8_kindFor_L69 (E : EV) (l : Launch)   (k30 : Int32 → Int32 → Int32 → Int32 → Int32 → Mem → Option (Int32 × Mem)) (hk30 : ∀ (y1_ : Int32) (y2_ : Int32) (y3_ : Int32) (y4_ : Int32) (y5_ : Int32) (M_ : Mem), ZZ E l RX8 cX8_kindFor 6 (some .int) wsX8_kindFor rmX8_kindFor vI (k30 y1_ y2_ y3_ y4_ y5_ M_) M_ [(0, .ref (eA E 57)), (1, .int y1_), (2, .int y2_), (3, .int y3_), (4, .int y4_), (5, .int y5_)] 30 []) : ∀ (y1 : Int32) (y2 : Int32) (y4 : Int32) (y5 : Int32) (w0 : Int32) (M : Mem), ZZ E l RX8 cX8_kindFor 6 (some .int) wsX8_kindFor rmX8_kindFor vI (fX8_kindFor_L69 k30 y1 y2 y4 y5 w0 M) M [(0, .ref (eA E 57)), (1, .int y1), (2, .int y2), (4, .int y4), (5, .int y5)] 69 [.int w0] := by
  intro y1 y2 y4 y5 w0 M
  unfold fX8_kindFor_L69
  refine zz_istore_n (npc := 70) (lv1 := [(3, .int w0), (0, .ref (eA E 57)), (1, .int y1), (2, .int y2), (4, .int y4), (5, .int y5)]) rfl dX8_kindFor_69 rfl (by decide) rfl ?_
  refine zz_iload (npc := 72) 4 rfl dX8_kindFor_70 rfl ?_
  refine zz_aload_n (npc := 73) 1 rfl rfl dX8_kindFor_72 rfl ?_
  refine zz_getI (npc := 76) (i := 7) (C0 := RX8) (T := TX8) (N := 29) (by decide) (by rfl) rfl (by decide) iX8_kindFor_8 (List.mem_of_getElem? (i := 3) rfl) rfl dX8_kindFor_73 rfl ?_
  refine zz_mmax (npc := 79) (List.mem_of_getElem? (i := 4) rfl) (List.mem_of_getElem? (i := 5) rfl) (List.mem_of_getElem? (i := 6) rfl) (List.mem_of_getElem? (i := 7) rfl) (Nat.le_of_ble_eq_true rfl) (Nat.le_of_ble_eq_true rfl) dX8_kindFor_76 rfl ?_
  refine zz_istoreB (npc := 81) (lv1 := fun v14 => [(4, .int v14), (3, .int w0), (0, .ref (eA E 57)), (1, .int y1), (2, .int y2), (5, .int y5)]) dX8_kindFor_79 rfl (by decide) (fun _ => rfl) (fun v14 => ?_)
  refine zz_iincB (npc := 84) (y5 + 1) (lv1 := fun v15 => [(5, .int v15), (4, .int v14), (3, .int w0), (0, .ref (eA E 57)), (1, .int y1), (2, .int y2)]) dX8_kindFor_81 rfl 5 rfl rfl (by decide) (fun _ => rfl) (fun v15 => ?_)
  refine zz_goto (npc := 0) (tgt := 30) dX8_kindFor_84 (by decide) ?_
  refine zz_sub (npc := 0) (lv1 := [(0, .ref (eA E 57)), (1, .int y1), (2, .int y2), (3, .int w0), (4, .int v14), (5, .int v15)]) [3, 4, 5, 2, 1, 0] rfl ?_
  exact hk30 y1 y2 w0 v14 v15 M
noncomputable def fX8_kindFor_L30   : Nat → Int32 → Int32 → Int32 → Int32 → Int32 → Mem → Option (Int32 × Mem)
  | 0, _, _, _, _, _, _ => none
  | n + 1, y1, y2, y3, y4, y5, M => (if 6 < y5 then (bd (fX8_at y1 0 M) fun r8 M7 => (ck (inb r8 56) (wm (wr M7 58 (ix r8) y2) fun M9 => (some (y3, M9))))) else (bd (fX8_at y1 0 M) fun r11 M10 => (ck (inb r11 56) (wm (wr M10 58 (ix r11) y5) fun M12 => (bd (fX8_findRest y1 M12) fun _ M13 => (if (M13 57 7) ≤ y4 then (fX8_kindFor_L69 (fX8_kindFor_L30  n) y1 y2 y4 y5 y3 M13) else (fX8_kindFor_L69 (fX8_kindFor_L30  n) y1 y2 y4 y5 y5 M13)))))))
set_option maxHeartbeats 4000000 in
set_option maxRecDepth 100000 in
theorem zX8_kindFor_L30 (E : EV) (l : Launch)     : ∀ (n : Nat) (y1 : Int32) (y2 : Int32) (y3 : Int32) (y4 : Int32) (y5 : Int32) (M : Mem), ZZ E l RX8 cX8_kindFor 6 (some .int) wsX8_kindFor rmX8_kindFor vI (fX8_kindFor_L30 n y1 y2 y3 y4 y5 M) M [(0, .ref (eA E 57)), (1, .int y1), (2, .int y2), (3, .int y3), (4, .int y4), (5, .int y5)] 30 [] := by
  intro n
  induction n with
  | zero => intros; exact zz_none
  | succ n ih =>
    intro y1 y2 y3 y4 y5 M
    rw [fX8_kindFor_L30]
    refine zz_iload (npc := 32) 5 rfl dX8_kindFor_30 rfl ?_
    refine zz_bipush (npc := 34) 6 (by decide) dX8_kindFor_32 rfl ?_
    refine zz_icmp_gt (tgt := 87) (npc := 37) dX8_kindFor_34 (by decide) rfl ?_ ?_
    · refine zz_aload_n (npc := 88) 0 rfl rfl dX8_kindFor_87 rfl ?_
      refine zz_getR (npc := 91) (i := 0) (C0 := RX8) (T := TX8) (N := 29) (by decide) (by rfl) rfl (by decide) iX8_kindFor_8 (List.mem_of_getElem? (i := 2) rfl) rfl dX8_kindFor_88 rfl ?_
      refine zz_iload_n (npc := 92) 1 rfl rfl dX8_kindFor_91 rfl ?_
      refine zz_iconst (npc := 93) 0 (by decide) dX8_kindFor_92 rfl ?_
      refine zz_callSi (npc := 96) (n := 2) (As := [.int y1, .int 0]) gX8_kindFor_X8_at rfl rfl rfl (by decide +kernel) ⟨Nat.le_of_ble_eq_true rfl, Nat.le_of_ble_eq_true rfl⟩ rfl rfl (Nat.le_of_ble_eq_true rfl) (mtX8_at E l  y1 0 M) dX8_kindFor_93 rfl (fun r8 M7 _ => ?_)
      refine zz_iload_n (npc := 97) 2 rfl rfl dX8_kindFor_96 rfl ?_
      refine zz_iast (npc := 98) (by decide) (by rfl) dX8_kindFor_97 rfl (fun M9 => ?_)
      refine zz_iload_n (npc := 99) 3 rfl rfl dX8_kindFor_98 rfl ?_
      exact zz_iret dX8_kindFor_99
    · refine zz_aload_n (npc := 38) 0 rfl rfl dX8_kindFor_37 rfl ?_
      refine zz_getR (npc := 41) (i := 0) (C0 := RX8) (T := TX8) (N := 29) (by decide) (by rfl) rfl (by decide) iX8_kindFor_8 (List.mem_of_getElem? (i := 2) rfl) rfl dX8_kindFor_38 rfl ?_
      refine zz_iload_n (npc := 42) 1 rfl rfl dX8_kindFor_41 rfl ?_
      refine zz_iconst (npc := 43) 0 (by decide) dX8_kindFor_42 rfl ?_
      refine zz_callSi (npc := 46) (n := 2) (As := [.int y1, .int 0]) gX8_kindFor_X8_at rfl rfl rfl (by decide +kernel) ⟨Nat.le_of_ble_eq_true rfl, Nat.le_of_ble_eq_true rfl⟩ rfl rfl (Nat.le_of_ble_eq_true rfl) (mtX8_at E l  y1 0 M) dX8_kindFor_43 rfl (fun r11 M10 _ => ?_)
      refine zz_iload (npc := 48) 5 rfl dX8_kindFor_46 rfl ?_
      refine zz_iast (npc := 49) (by decide) (by rfl) dX8_kindFor_48 rfl (fun M12 => ?_)
      refine zz_aload_n (npc := 50) 0 rfl rfl dX8_kindFor_49 rfl ?_
      refine zz_iload_n (npc := 51) 1 rfl rfl dX8_kindFor_50 rfl ?_
      refine zz_callVv (npc := 54) (n := 1) (As := [.int y1]) (by decide) (by rfl) rfl gX8_kindFor_X8_findRest rfl rfl rfl (by decide +kernel) ⟨Nat.le_of_ble_eq_true rfl, Nat.le_of_ble_eq_true rfl⟩ rfl rfl (Nat.le_of_ble_eq_true rfl) (mtX8_findRest E l  y1 M12) dX8_kindFor_51 rfl (fun _ M13 _ => ?_)
      refine zz_aload_n (npc := 55) 0 rfl rfl dX8_kindFor_54 rfl ?_
      refine zz_getI (npc := 58) (i := 7) (C0 := RX8) (T := TX8) (N := 29) (by decide) (by rfl) rfl (by decide) iX8_kindFor_8 (List.mem_of_getElem? (i := 3) rfl) rfl dX8_kindFor_55 rfl ?_
      refine zz_iload (npc := 60) 4 rfl dX8_kindFor_58 rfl ?_
      refine zz_icmp_le (tgt := 68) (npc := 63) dX8_kindFor_60 (by decide) rfl ?_ ?_
      · refine zz_iload_n (npc := 69) 3 rfl rfl dX8_kindFor_68 rfl ?_
        refine zz_sub (npc := 0) (lv1 := [(0, .ref (eA E 57)), (1, .int y1), (2, .int y2), (4, .int y4), (5, .int y5)]) [0, 1, 2, 4, 5] rfl ?_
        exact zX8_kindFor_L69 E l (fX8_kindFor_L30  n) ih y1 y2 y4 y5 y3 M13
      · refine zz_iload (npc := 65) 5 rfl dX8_kindFor_63 rfl ?_
        refine zz_goto (npc := 0) (tgt := 69) dX8_kindFor_65 (by decide) ?_
        refine zz_sub (npc := 0) (lv1 := [(0, .ref (eA E 57)), (1, .int y1), (2, .int y2), (4, .int y4), (5, .int y5)]) [0, 1, 2, 4, 5] rfl ?_
        exact zX8_kindFor_L69 E l (fX8_kindFor_L30  n) ih y1 y2 y4 y5 y5 M13
noncomputable def fX8_kindFor  (x1 : Int32) (M : Mem) : Option (Int32 × Mem) := (bd (fX8_isPerson x1 M) fun r2 M1 => (if r2 = 0 then (bd (fX8_finding (-1000001) M1) fun r6 M5 => (some (r6, M5))) else (bd (fX8_personIs x1 0 M1) fun r4 M3 => (fX8_kindFor_L30  fu x1 r4 (-1) (-1) 0 M3))))
set_option maxHeartbeats 4000000 in
set_option maxRecDepth 100000 in
theorem mtX8_kindFor (E : EV) (l : Launch)   (x1 : Int32) (M : Mem) : CT E l yX8_kindFor wsX8_kindFor rmX8_kindFor vI [.ref (eA E 57), .int x1] (fX8_kindFor x1 M) M := by
  refine ct_of (cc := cX8_kindFor) (nL := 6) (ret := (some .int)) (by decide +kernel) rfl (Nat.le_of_ble_eq_true rfl) ?_
  show ZZ E l RX8 cX8_kindFor 6 (some .int) wsX8_kindFor rmX8_kindFor vI (fX8_kindFor x1 M) M [(0, .ref (eA E 57)), (1, .int x1)] 0 []
  unfold fX8_kindFor
  refine zz_aload_n (npc := 1) 0 rfl rfl dX8_kindFor_0 rfl ?_
  refine zz_iload_n (npc := 2) 1 rfl rfl dX8_kindFor_1 rfl ?_
  refine zz_callVi (npc := 5) (n := 1) (As := [.int x1]) (by decide) (by rfl) rfl gX8_kindFor_X8_isPerson rfl rfl rfl (by decide +kernel) ⟨Nat.le_of_ble_eq_true rfl, Nat.le_of_ble_eq_true rfl⟩ rfl rfl (Nat.le_of_ble_eq_true rfl) (mtX8_isPerson E l  x1 M) dX8_kindFor_2 rfl (fun r2 M1 _ => ?_)
  refine zz_if_ne (tgt := 15) (npc := 8) dX8_kindFor_5 (by decide) rfl ?_ ?_
  · refine zz_aload_n (npc := 16) 0 rfl rfl dX8_kindFor_15 rfl ?_
    refine zz_iload_n (npc := 17) 1 rfl rfl dX8_kindFor_16 rfl ?_
    refine zz_iconst (npc := 18) 0 (by decide) dX8_kindFor_17 rfl ?_
    refine zz_callVi (npc := 21) (n := 2) (As := [.int x1, .int 0]) (by decide) (by rfl) rfl gX8_kindFor_X8_personIs rfl rfl rfl (by decide +kernel) ⟨Nat.le_of_ble_eq_true rfl, Nat.le_of_ble_eq_true rfl⟩ rfl rfl (Nat.le_of_ble_eq_true rfl) (mtX8_personIs E l  x1 0 M1) dX8_kindFor_18 rfl (fun r4 M3 _ => ?_)
    refine zz_istore_n (npc := 22) (lv1 := [(2, .int r4), (0, .ref (eA E 57)), (1, .int x1)]) rfl dX8_kindFor_21 rfl (by decide) rfl ?_
    refine zz_iconst (npc := 23) (-1) (by decide) dX8_kindFor_22 rfl ?_
    refine zz_istore_n (npc := 24) (lv1 := [(3, .int (-1)), (2, .int r4), (0, .ref (eA E 57)), (1, .int x1)]) rfl dX8_kindFor_23 rfl (by decide) rfl ?_
    refine zz_iconst (npc := 25) (-1) (by decide) dX8_kindFor_24 rfl ?_
    refine zz_istore (npc := 27) (lv1 := [(4, .int (-1)), (3, .int (-1)), (2, .int r4), (0, .ref (eA E 57)), (1, .int x1)]) dX8_kindFor_25 rfl (by decide) rfl ?_
    refine zz_iconst (npc := 28) 0 (by decide) dX8_kindFor_27 rfl ?_
    refine zz_istore (npc := 30) (lv1 := [(5, .int 0), (4, .int (-1)), (3, .int (-1)), (2, .int r4), (0, .ref (eA E 57)), (1, .int x1)]) dX8_kindFor_28 rfl (by decide) rfl ?_
    refine zz_sub (npc := 0) (lv1 := [(0, .ref (eA E 57)), (1, .int x1), (2, .int r4), (3, .int (-1)), (4, .int (-1)), (5, .int 0)]) [4, 5, 3, 2, 1, 0] rfl ?_
    exact zX8_kindFor_L30 E l  fu x1 r4 (-1) (-1) 0 M3
  · refine zz_aload_n (npc := 9) 0 rfl rfl dX8_kindFor_8 rfl ?_
    refine zz_ldc (npc := 11) (-1000001) (List.mem_of_getElem? (i := 1) rfl) dX8_kindFor_9 rfl ?_
    refine zz_callVi (npc := 14) (n := 1) (As := [.int (-1000001)]) (by decide) (by rfl) rfl gX8_kindFor_X8_finding rfl rfl rfl (by decide +kernel) ⟨Nat.le_of_ble_eq_true rfl, Nat.le_of_ble_eq_true rfl⟩ rfl rfl (Nat.le_of_ble_eq_true rfl) (mtX8_finding E l  (-1000001) M1) dX8_kindFor_11 rfl (fun r6 M5 _ => ?_)
    exact zz_iret dX8_kindFor_14
abbrev rmX8_cloud : Room := { frames := 9, cells := 0, slots := 0, locals := 206 }
theorem iX8_cloud_8 : ∀ w ∈ u_ws RX8 TX8 29, w ∈ wsX8_cloud := fun w h => List.mem_cons_of_mem _ (List.mem_append_right _ h)
noncomputable def fX8_cloud_L54  (k17 : Int32 → Int32 → Int32 → Int32 → Mem → Option (Int32 × Mem)) (y1 : Int32) (y3 : Int32) (y4 : Int32) (y5 : Int32) (w0 : Int32) (M : Mem) : Option (Int32 × Mem) := (bv (imax y3 y5) fun v8 => (bv (y4 + 1) fun v9 => (k17 y1 w0 v8 v9 M)))
set_option maxHeartbeats 4000000 in
set_option maxRecDepth 100000 in
theorem zX8_cloud_L54 (E : EV) (l : Launch)   (k17 : Int32 → Int32 → Int32 → Int32 → Mem → Option (Int32 × Mem)) (hk17 : ∀ (y1_ : Int32) (y2_ : Int32) (y3_ : Int32) (y4_ : Int32) (M_ : Mem), ZZ E l RX8 cX8_cloud 6 (some .int) wsX8_cloud rmX8_cloud vI (k17 y1_ y2_ y3_ y4_ M_) M_ [(0, .ref (eA E 57)), (1, .int y1_), (2, .int y2_), (3, .int y3_), (4, .int y4_)] 17 []) : ∀ (y1 : Int32) (y3 : Int32) (y4 : Int32) (y5 : Int32) (w0 : Int32) (M : Mem), ZZ E l RX8 cX8_cloud 6 (some .int) wsX8_cloud rmX8_cloud vI (fX8_cloud_L54 k17 y1 y3 y4 y5 w0 M) M [(0, .ref (eA E 57)), (1, .int y1), (3, .int y3), (4, .int y4), (5, .int y5)] 54 [.int w0] := by
  intro y1 y3 y4 y5 w0 M
  unfold fX8_cloud_L54
  refine zz_istore_n (npc := 55) (lv1 := [(2, .int w0), (0, .ref (eA E 57)), (1, .int y1), (3, .int y3), (4, .int y4), (5, .int y5)]) rfl dX8_cloud_54 rfl (by decide) rfl ?_
  refine zz_iload_n (npc := 56) 3 rfl rfl dX8_cloud_55 rfl ?_
  refine zz_iload (npc := 58) 5 rfl dX8_cloud_56 rfl ?_
  refine zz_mmax (npc := 61) (List.mem_of_getElem? (i := 2) rfl) (List.mem_of_getElem? (i := 3) rfl) (List.mem_of_getElem? (i := 4) rfl) (List.mem_of_getElem? (i := 5) rfl) (Nat.le_of_ble_eq_true rfl) (Nat.le_of_ble_eq_true rfl) dX8_cloud_58 rfl ?_
  refine zz_istore_nB (npc := 62) (lv1 := fun v8 => [(3, .int v8), (2, .int w0), (0, .ref (eA E 57)), (1, .int y1), (4, .int y4), (5, .int y5)]) rfl dX8_cloud_61 rfl (by decide) (fun _ => rfl) (fun v8 => ?_)
  refine zz_iincB (npc := 65) (y4 + 1) (lv1 := fun v9 => [(4, .int v9), (3, .int v8), (2, .int w0), (0, .ref (eA E 57)), (1, .int y1), (5, .int y5)]) dX8_cloud_62 rfl 4 rfl rfl (by decide) (fun _ => rfl) (fun v9 => ?_)
  refine zz_goto (npc := 0) (tgt := 17) dX8_cloud_65 (by decide) ?_
  refine zz_sub (npc := 0) (lv1 := [(0, .ref (eA E 57)), (1, .int y1), (2, .int w0), (3, .int v8), (4, .int v9)]) [3, 4, 2, 1, 0] rfl ?_
  exact hk17 y1 w0 v8 v9 M
noncomputable def fX8_cloud_L17   : Nat → Int32 → Int32 → Int32 → Int32 → Mem → Option (Int32 × Mem)
  | 0, _, _, _, _, _ => none
  | n + 1, y1, y2, y3, y4, M => (if 16 ≤ y4 then (ck (inb 3 56) (wm (wr M 58 (ix 3) y1) fun M4 => (some (y2, M4)))) else (ck (inb 3 56) (wm (wr M 58 (ix 3) (y1 ^^^ (shl 1 y4))) fun M5 => (bd (fX8_metByAll M5) fun r7 M6 => (if r7 ≤ y3 then (fX8_cloud_L54 (fX8_cloud_L17  n) y1 y3 y4 r7 y2 M6) else (fX8_cloud_L54 (fX8_cloud_L17  n) y1 y3 y4 r7 y4 M6))))))
set_option maxHeartbeats 4000000 in
set_option maxRecDepth 100000 in
theorem zX8_cloud_L17 (E : EV) (l : Launch)     : ∀ (n : Nat) (y1 : Int32) (y2 : Int32) (y3 : Int32) (y4 : Int32) (M : Mem), ZZ E l RX8 cX8_cloud 6 (some .int) wsX8_cloud rmX8_cloud vI (fX8_cloud_L17 n y1 y2 y3 y4 M) M [(0, .ref (eA E 57)), (1, .int y1), (2, .int y2), (3, .int y3), (4, .int y4)] 17 [] := by
  intro n
  induction n with
  | zero => intros; exact zz_none
  | succ n ih =>
    intro y1 y2 y3 y4 M
    rw [fX8_cloud_L17]
    refine zz_iload (npc := 19) 4 rfl dX8_cloud_17 rfl ?_
    refine zz_bipush (npc := 21) 16 (by decide) dX8_cloud_19 rfl ?_
    refine zz_icmp_ge (tgt := 68) (npc := 24) dX8_cloud_21 (by decide) rfl ?_ ?_
    · refine zz_aload_n (npc := 69) 0 rfl rfl dX8_cloud_68 rfl ?_
      refine zz_getR (npc := 72) (i := 0) (C0 := RX8) (T := TX8) (N := 29) (by decide) (by rfl) rfl (by decide) iX8_cloud_8 (List.mem_of_getElem? (i := 1) rfl) rfl dX8_cloud_69 rfl ?_
      refine zz_iconst (npc := 73) 3 (by decide) dX8_cloud_72 rfl ?_
      refine zz_iload_n (npc := 74) 1 rfl rfl dX8_cloud_73 rfl ?_
      refine zz_iast (npc := 75) (by decide) (by rfl) dX8_cloud_74 rfl (fun M4 => ?_)
      refine zz_iload_n (npc := 76) 2 rfl rfl dX8_cloud_75 rfl ?_
      exact zz_iret dX8_cloud_76
    · refine zz_aload_n (npc := 25) 0 rfl rfl dX8_cloud_24 rfl ?_
      refine zz_getR (npc := 28) (i := 0) (C0 := RX8) (T := TX8) (N := 29) (by decide) (by rfl) rfl (by decide) iX8_cloud_8 (List.mem_of_getElem? (i := 1) rfl) rfl dX8_cloud_25 rfl ?_
      refine zz_iconst (npc := 29) 3 (by decide) dX8_cloud_28 rfl ?_
      refine zz_iload_n (npc := 30) 1 rfl rfl dX8_cloud_29 rfl ?_
      refine zz_iconst (npc := 31) 1 (by decide) dX8_cloud_30 rfl ?_
      refine zz_iload (npc := 33) 4 rfl dX8_cloud_31 rfl ?_
      refine zz_ishl (npc := 34) dX8_cloud_33 rfl ?_
      refine zz_ixor (npc := 35) dX8_cloud_34 rfl ?_
      refine zz_iast (npc := 36) (by decide) (by rfl) dX8_cloud_35 rfl (fun M5 => ?_)
      refine zz_aload_n (npc := 37) 0 rfl rfl dX8_cloud_36 rfl ?_
      refine zz_callVi (npc := 40) (n := 0) (As := []) (by decide) (by rfl) rfl gX8_cloud_X8_metByAll rfl rfl rfl (by decide +kernel) ⟨Nat.le_of_ble_eq_true rfl, Nat.le_of_ble_eq_true rfl⟩ rfl rfl (Nat.le_of_ble_eq_true rfl) (mtX8_metByAll E l   M5) dX8_cloud_37 rfl (fun r7 M6 _ => ?_)
      refine zz_istore (npc := 42) (lv1 := [(5, .int r7), (0, .ref (eA E 57)), (1, .int y1), (2, .int y2), (3, .int y3), (4, .int y4)]) dX8_cloud_40 rfl (by decide) rfl ?_
      refine zz_iload (npc := 44) 0 rfl dX8_cloud_42 rfl ?_
      refine zz_iload_n (npc := 45) 4 rfl rfl dX8_cloud_44 rfl ?_
      refine zz_icmp_le (tgt := 53) (npc := 48) dX8_cloud_45 (by decide) rfl ?_ ?_
      · refine zz_iload_n (npc := 54) 3 rfl rfl dX8_cloud_53 rfl ?_
        refine zz_sub (npc := 0) (lv1 := [(0, .ref (eA E 57)), (1, .int y1), (3, .int y3), (4, .int y4), (5, .int r7)]) [1, 2, 4, 5, 0] rfl ?_
        exact zX8_cloud_L54 E l (fX8_cloud_L17  n) ih y1 y3 y4 r7 y2 M6
      · refine zz_iload (npc := 50) 5 rfl dX8_cloud_48 rfl ?_
        refine zz_goto (npc := 0) (tgt := 54) dX8_cloud_50 (by decide) ?_
        refine zz_sub (npc := 0) (lv1 := [(0, .ref (eA E 57)), (1, .int y1), (3, .int y3), (4, .int y4), (5, .int r7)]) [1, 2, 4, 5, 0] rfl ?_
        exact zX8_cloud_L54 E l (fX8_cloud_L17  n) ih y1 y3 y4 r7 y4 M6
noncomputable def fX8_cloud   (M : Mem) : Option (Int32 × Mem) := (ck (inb 3 56) (bv (M 58 (ix 3)) fun v1 => (bd (fX8_metByAll M) fun r3 M2 => (fX8_cloud_L17  fu v1 (-1) r3 0 M2))))
set_option maxHeartbeats 4000000 in
set_option maxRecDepth 100000 in
theorem mtX8_cloud (E : EV) (l : Launch)    (M : Mem) : CT E l yX8_cloud wsX8_cloud rmX8_cloud vI [.ref (eA E 57)] (fX8_cloud  M) M := by
  refine ct_of (cc := cX8_cloud) (nL := 6) (ret := (some .int)) (by decide +kernel) rfl (Nat.le_of_ble_eq_true rfl) ?_
  show ZZ E l RX8 cX8_cloud 6 (some .int) wsX8_cloud rmX8_cloud vI (fX8_cloud  M) M [(0, .ref (eA E 57))] 0 []
  unfold fX8_cloud
  refine zz_aload_n (npc := 1) 0 rfl rfl dX8_cloud_0 rfl ?_
  refine zz_getR (npc := 4) (i := 0) (C0 := RX8) (T := TX8) (N := 29) (by decide) (by rfl) rfl (by decide) iX8_cloud_8 (List.mem_of_getElem? (i := 1) rfl) rfl dX8_cloud_1 rfl ?_
  refine zz_iconst (npc := 5) 3 (by decide) dX8_cloud_4 rfl ?_
  refine zz_iald (npc := 6) (by decide) (by rfl) dX8_cloud_5 rfl ?_
  refine zz_istore_nB (npc := 7) (lv1 := fun v1 => [(1, .int v1), (0, .ref (eA E 57))]) rfl dX8_cloud_6 rfl (by decide) (fun _ => rfl) (fun v1 => ?_)
  refine zz_iconst (npc := 8) (-1) (by decide) dX8_cloud_7 rfl ?_
  refine zz_istore_n (npc := 9) (lv1 := [(2, .int (-1)), (1, .int v1), (0, .ref (eA E 57))]) rfl dX8_cloud_8 rfl (by decide) rfl ?_
  refine zz_aload_n (npc := 10) 2 rfl rfl dX8_cloud_9 rfl ?_
  refine zz_callVi (npc := 13) (n := 0) (As := []) (by decide) (by rfl) rfl gX8_cloud_X8_metByAll rfl rfl rfl (by decide +kernel) ⟨Nat.le_of_ble_eq_true rfl, Nat.le_of_ble_eq_true rfl⟩ rfl rfl (Nat.le_of_ble_eq_true rfl) (mtX8_metByAll E l   M) dX8_cloud_10 rfl (fun r3 M2 _ => ?_)
  refine zz_istore_n (npc := 14) (lv1 := [(3, .int r3), (2, .int (-1)), (1, .int v1), (0, .ref (eA E 57))]) rfl dX8_cloud_13 rfl (by decide) rfl ?_
  refine zz_iconst (npc := 15) 0 (by decide) dX8_cloud_14 rfl ?_
  refine zz_istore (npc := 17) (lv1 := [(4, .int 0), (3, .int r3), (2, .int (-1)), (1, .int v1), (0, .ref (eA E 57))]) dX8_cloud_15 rfl (by decide) rfl ?_
  refine zz_sub (npc := 0) (lv1 := [(0, .ref (eA E 57)), (1, .int v1), (2, .int (-1)), (3, .int r3), (4, .int 0)]) [4, 3, 2, 1, 0] rfl ?_
  exact zX8_cloud_L17 E l  fu v1 (-1) r3 0 M2
abbrev rmX8_mayHave : Room := { frames := 2, cells := 0, slots := 0, locals := 43 }
noncomputable def fX8_mayHave_L44   (w0 : Int32) (w1 : Int32) (M : Mem) : Option (Int32 × Mem) := (if w1 = w0 then (ck (isb 1) (some (1, M))) else (ck (isb 0) (some (0, M))))
set_option maxHeartbeats 4000000 in
set_option maxRecDepth 100000 in
theorem zX8_mayHave_L44 (E : EV) (l : Launch)     : ∀ (w0 : Int32) (w1 : Int32) (M : Mem), ZZ E l RX8 cX8_mayHave 7 (some .boolean) wsX8_mayHave rmX8_mayHave vI (fX8_mayHave_L44 w0 w1 M) M [] 44 [.int w0, .int w1] := by
  intro w0 w1 M
  unfold fX8_mayHave_L44
  refine zz_icmp_ne (tgt := 51) (npc := 47) dX8_mayHave_44 (by decide) rfl ?_ ?_
  · refine zz_iconst (npc := 52) 0 (by decide) dX8_mayHave_51 rfl ?_
    exact zz_zret dX8_mayHave_52
  · refine zz_iconst (npc := 48) 1 (by decide) dX8_mayHave_47 rfl ?_
    refine zz_goto (npc := 0) (tgt := 52) dX8_mayHave_48 (by decide) ?_
    exact zz_zret dX8_mayHave_52
noncomputable def fX8_mayHave  (x1 : Int32) (x2 : Int32) (x3 : Int32) (x4 : Int32) (M : Mem) : Option (Int32 × Mem) := (bd (fX8_personIs x1 3 M) fun r2 M1 => (bd (fX8_has r2 x3 M1) fun r4 M3 => (bd (fX8_personIs x2 3 M3) fun r6 M5 => (bd (fX8_has r6 x3 M5) fun r8 M7 => (if r4 = r8 then (ck (isb 1) (some (1, M7))) else (if x4 = 1 then (fX8_mayHave_L44  1 r4 M7) else (fX8_mayHave_L44  0 r4 M7)))))))
set_option maxHeartbeats 4000000 in
set_option maxRecDepth 100000 in
theorem mtX8_mayHave (E : EV) (l : Launch)   (x1 : Int32) (x2 : Int32) (x3 : Int32) (x4 : Int32) (M : Mem) : CT E l yX8_mayHave wsX8_mayHave rmX8_mayHave vI [.ref (eA E 57), .int x1, .int x2, .int x3, .int x4] (fX8_mayHave x1 x2 x3 x4 M) M := by
  refine ct_of (cc := cX8_mayHave) (nL := 7) (ret := (some .boolean)) (by decide +kernel) rfl (Nat.le_of_ble_eq_true rfl) ?_
  show ZZ E l RX8 cX8_mayHave 7 (some .boolean) wsX8_mayHave rmX8_mayHave vI (fX8_mayHave x1 x2 x3 x4 M) M [(0, .ref (eA E 57)), (1, .int x1), (2, .int x2), (3, .int x3), (4, .int x4)] 0 []
  unfold fX8_mayHave
  refine zz_aload_n (npc := 1) 0 rfl rfl dX8_mayHave_0 rfl ?_
  refine zz_iload_n (npc := 2) 1 rfl rfl dX8_mayHave_1 rfl ?_
  refine zz_iconst (npc := 3) 3 (by decide) dX8_mayHave_2 rfl ?_
  refine zz_callVi (npc := 6) (n := 2) (As := [.int x1, .int 3]) (by decide) (by rfl) rfl gX8_mayHave_X8_personIs rfl rfl rfl (by decide +kernel) ⟨Nat.le_of_ble_eq_true rfl, Nat.le_of_ble_eq_true rfl⟩ rfl rfl (Nat.le_of_ble_eq_true rfl) (mtX8_personIs E l  x1 3 M) dX8_mayHave_3 rfl (fun r2 M1 _ => ?_)
  refine zz_iload_n (npc := 7) 3 rfl rfl dX8_mayHave_6 rfl ?_
  refine zz_callSi (npc := 10) (n := 2) (As := [.int r2, .int x3]) gX8_mayHave_X8_has rfl rfl rfl (by decide +kernel) ⟨Nat.le_of_ble_eq_true rfl, Nat.le_of_ble_eq_true rfl⟩ rfl rfl (Nat.le_of_ble_eq_true rfl) (mtX8_has E l  r2 x3 M1) dX8_mayHave_7 rfl (fun r4 M3 _ => ?_)
  refine zz_istore (npc := 12) (lv1 := [(5, .int r4), (0, .ref (eA E 57)), (1, .int x1), (2, .int x2), (3, .int x3), (4, .int x4)]) dX8_mayHave_10 rfl (by decide) rfl ?_
  refine zz_aload_n (npc := 13) 1 rfl rfl dX8_mayHave_12 rfl ?_
  refine zz_iload_n (npc := 14) 3 rfl rfl dX8_mayHave_13 rfl ?_
  refine zz_iconst (npc := 15) 3 (by decide) dX8_mayHave_14 rfl ?_
  refine zz_callVi (npc := 18) (n := 2) (As := [.int x2, .int 3]) (by decide) (by rfl) rfl gX8_mayHave_X8_personIs rfl rfl rfl (by decide +kernel) ⟨Nat.le_of_ble_eq_true rfl, Nat.le_of_ble_eq_true rfl⟩ rfl rfl (Nat.le_of_ble_eq_true rfl) (mtX8_personIs E l  x2 3 M3) dX8_mayHave_15 rfl (fun r6 M5 _ => ?_)
  refine zz_iload_n (npc := 19) 4 rfl rfl dX8_mayHave_18 rfl ?_
  refine zz_callSi (npc := 22) (n := 2) (As := [.int r6, .int x3]) gX8_mayHave_X8_has rfl rfl rfl (by decide +kernel) ⟨Nat.le_of_ble_eq_true rfl, Nat.le_of_ble_eq_true rfl⟩ rfl rfl (Nat.le_of_ble_eq_true rfl) (mtX8_has E l  r6 x3 M5) dX8_mayHave_19 rfl (fun r8 M7 _ => ?_)
  refine zz_istore (npc := 24) (lv1 := [(6, .int r8), (5, .int r4), (0, .ref (eA E 57)), (1, .int x1), (2, .int x2), (3, .int x3), (4, .int x4)]) dX8_mayHave_22 rfl (by decide) rfl ?_
  refine zz_iload (npc := 26) 1 rfl dX8_mayHave_24 rfl ?_
  refine zz_iload (npc := 28) 0 rfl dX8_mayHave_26 rfl ?_
  refine zz_icmp_eq (tgt := 47) (npc := 31) dX8_mayHave_28 (by decide) rfl ?_ ?_
  · refine zz_iconst (npc := 48) 1 (by decide) dX8_mayHave_47 rfl ?_
    refine zz_goto (npc := 0) (tgt := 52) dX8_mayHave_48 (by decide) ?_
    exact zz_zret dX8_mayHave_52
  · refine zz_iload (npc := 33) 1 rfl dX8_mayHave_31 rfl ?_
    refine zz_iload (npc := 35) 6 rfl dX8_mayHave_33 rfl ?_
    refine zz_iconst (npc := 36) 1 (by decide) dX8_mayHave_35 rfl ?_
    refine zz_icmp_ne (tgt := 43) (npc := 39) dX8_mayHave_36 (by decide) rfl ?_ ?_
    · refine zz_iconst (npc := 44) 0 (by decide) dX8_mayHave_43 rfl ?_
      refine zz_sub (npc := 0) (lv1 := []) [] rfl ?_
      exact zX8_mayHave_L44 E l  0 r4 M7
    · refine zz_iconst (npc := 40) 1 (by decide) dX8_mayHave_39 rfl ?_
      refine zz_goto (npc := 0) (tgt := 44) dX8_mayHave_40 (by decide) ?_
      refine zz_sub (npc := 0) (lv1 := []) [] rfl ?_
      exact zX8_mayHave_L44 E l  1 r4 M7
abbrev rmX8_changesWith : Room := { frames := 0, cells := 0, slots := 0, locals := 0 }
theorem iX8_changesWith_8 : ∀ w ∈ u_ws RX8 TX8 29, w ∈ wsX8_changesWith := fun w h => List.mem_cons_of_mem _ (List.mem_append_right _ h)
noncomputable def fX8_changesWith_L14   (y1 : Int32) (y3 : Int32) (w0 : Int32) (M : Mem) : Option (Int32 × Mem) := (ck (inb ((3 * (y1 + 1)) + y3) 51) (some (w0 + (M 62 (ix ((3 * (y1 + 1)) + y3))), M)))
set_option maxHeartbeats 4000000 in
set_option maxRecDepth 100000 in
theorem zX8_changesWith_L14 (E : EV) (l : Launch)     : ∀ (y1 : Int32) (y3 : Int32) (w0 : Int32) (M : Mem), ZZ E l RX8 cX8_changesWith 4 (some .int) wsX8_changesWith rmX8_changesWith vI (fX8_changesWith_L14 y1 y3 w0 M) M [(0, .ref (eA E 57)), (1, .int y1), (3, .int y3)] 14 [.int w0] := by
  intro y1 y3 w0 M
  unfold fX8_changesWith_L14
  refine zz_aload_n (npc := 15) 0 rfl rfl dX8_changesWith_14 rfl ?_
  refine zz_getR (npc := 18) (i := 9) (C0 := RX8) (T := TX8) (N := 29) (by decide) (by rfl) rfl (by decide) iX8_changesWith_8 (List.mem_of_getElem? (i := 1) rfl) rfl dX8_changesWith_15 rfl ?_
  refine zz_iconst (npc := 19) 3 (by decide) dX8_changesWith_18 rfl ?_
  refine zz_iload_n (npc := 20) 1 rfl rfl dX8_changesWith_19 rfl ?_
  refine zz_iconst (npc := 21) 1 (by decide) dX8_changesWith_20 rfl ?_
  refine zz_iadd (npc := 22) dX8_changesWith_21 rfl ?_
  refine zz_imul (npc := 23) dX8_changesWith_22 rfl ?_
  refine zz_iload_n (npc := 24) 2 rfl rfl dX8_changesWith_23 rfl ?_
  refine zz_iadd (npc := 25) dX8_changesWith_24 rfl ?_
  refine zz_iald (npc := 26) (by decide) (by rfl) dX8_changesWith_25 rfl ?_
  refine zz_iadd (npc := 27) dX8_changesWith_26 rfl ?_
  exact zz_iret dX8_changesWith_27
noncomputable def fX8_changesWith_L9   (y1 : Int32) (y3 : Int32) (M : Mem) : Option (Int32 × Mem) := (fX8_changesWith_L14  y1 y3 0 M)
set_option maxHeartbeats 4000000 in
set_option maxRecDepth 100000 in
theorem zX8_changesWith_L9 (E : EV) (l : Launch)     : ∀ (y1 : Int32) (y3 : Int32) (M : Mem), ZZ E l RX8 cX8_changesWith 4 (some .int) wsX8_changesWith rmX8_changesWith vI (fX8_changesWith_L9 y1 y3 M) M [(0, .ref (eA E 57)), (1, .int y1), (3, .int y3)] 9 [] := by
  intro y1 y3 M
  unfold fX8_changesWith_L9
  refine zz_iconst (npc := 10) 0 (by decide) dX8_changesWith_9 rfl ?_
  refine zz_goto (npc := 0) (tgt := 14) dX8_changesWith_10 (by decide) ?_
  exact zX8_changesWith_L14 E l  y1 y3 0 M
noncomputable def fX8_changesWith  (x1 : Int32) (x2 : Int32) (x3 : Int32) (M : Mem) : Option (Int32 × Mem) := (if x2 = 0 then (fX8_changesWith_L9  x1 x3 M) else (if x2 = x3 then (fX8_changesWith_L9  x1 x3 M) else (fX8_changesWith_L14  x1 x3 1 M)))
set_option maxHeartbeats 4000000 in
set_option maxRecDepth 100000 in
theorem mtX8_changesWith (E : EV) (l : Launch)   (x1 : Int32) (x2 : Int32) (x3 : Int32) (M : Mem) : CT E l yX8_changesWith wsX8_changesWith rmX8_changesWith vI [.ref (eA E 57), .int x1, .int x2, .int x3] (fX8_changesWith x1 x2 x3 M) M := by
  refine ct_of (cc := cX8_changesWith) (nL := 4) (ret := (some .int)) (by decide +kernel) rfl (Nat.le_of_ble_eq_true rfl) ?_
  show ZZ E l RX8 cX8_changesWith 4 (some .int) wsX8_changesWith rmX8_changesWith vI (fX8_changesWith x1 x2 x3 M) M [(0, .ref (eA E 57)), (1, .int x1), (2, .int x2), (3, .int x3)] 0 []
  unfold fX8_changesWith
  refine zz_iload_n (npc := 1) 2 rfl rfl dX8_changesWith_0 rfl ?_
  refine zz_if_eq (tgt := 9) (npc := 4) dX8_changesWith_1 (by decide) rfl ?_ ?_
  · refine zz_sub (npc := 0) (lv1 := [(0, .ref (eA E 57)), (1, .int x1), (3, .int x3)]) [0, 1, 3] rfl ?_
    exact zX8_changesWith_L9 E l  x1 x3 M
  · refine zz_iload_n (npc := 5) 2 rfl rfl dX8_changesWith_4 rfl ?_
    refine zz_iload_n (npc := 6) 3 rfl rfl dX8_changesWith_5 rfl ?_
    refine zz_icmp_ne (tgt := 13) (npc := 9) dX8_changesWith_6 (by decide) rfl ?_ ?_
    · refine zz_iconst (npc := 14) 1 (by decide) dX8_changesWith_13 rfl ?_
      refine zz_sub (npc := 0) (lv1 := [(0, .ref (eA E 57)), (1, .int x1), (3, .int x3)]) [0, 1, 3] rfl ?_
      exact zX8_changesWith_L14 E l  x1 x3 1 M
    · refine zz_sub (npc := 0) (lv1 := [(0, .ref (eA E 57)), (1, .int x1), (3, .int x3)]) [0, 1, 3] rfl ?_
      exact zX8_changesWith_L9 E l  x1 x3 M
abbrev rmX8_findAgreement : Room := { frames := 3, cells := 0, slots := 0, locals := 69 }
theorem iX8_findAgreement_8 : ∀ w ∈ u_ws RX8 TX8 29, w ∈ wsX8_findAgreement := fun w h => List.mem_cons_of_mem _ (List.mem_append_right _ h)
noncomputable def fX8_findAgreement_L121  (k76 : Int32 → Int32 → Int32 → Int32 → Int32 → Int32 → Mem → Option (Int32 × Mem)) (y1 : Int32) (y2 : Int32) (y3 : Int32) (y4 : Int32) (y6 : Int32) (w0 : Int32) (M : Mem) : Option (Int32 × Mem) := (bv (y6 + 1) fun v14 => (k76 y1 y2 y3 y4 w0 v14 M))
set_option maxHeartbeats 4000000 in
set_option maxRecDepth 100000 in
theorem zX8_findAgreement_L121 (E : EV) (l : Launch)   (k76 : Int32 → Int32 → Int32 → Int32 → Int32 → Int32 → Mem → Option (Int32 × Mem)) (hk76 : ∀ (y1_ : Int32) (y2_ : Int32) (y3_ : Int32) (y4_ : Int32) (y5_ : Int32) (y6_ : Int32) (M_ : Mem), ZZ E l RX8 cX8_findAgreement 7 (some .int) wsX8_findAgreement rmX8_findAgreement vI (k76 y1_ y2_ y3_ y4_ y5_ y6_ M_) M_ [(0, .ref (eA E 57)), (1, .int y1_), (2, .int y2_), (3, .int y3_), (4, .int y4_), (5, .int y5_), (6, .int y6_)] 76 []) : ∀ (y1 : Int32) (y2 : Int32) (y3 : Int32) (y4 : Int32) (y6 : Int32) (w0 : Int32) (M : Mem), ZZ E l RX8 cX8_findAgreement 7 (some .int) wsX8_findAgreement rmX8_findAgreement vI (fX8_findAgreement_L121 k76 y1 y2 y3 y4 y6 w0 M) M [(0, .ref (eA E 57)), (1, .int y1), (2, .int y2), (3, .int y3), (4, .int y4), (6, .int y6)] 121 [.int w0] := by
  intro y1 y2 y3 y4 y6 w0 M
  unfold fX8_findAgreement_L121
  refine zz_istore (npc := 123) (lv1 := [(5, .int w0), (0, .ref (eA E 57)), (1, .int y1), (2, .int y2), (3, .int y3), (4, .int y4), (6, .int y6)]) dX8_findAgreement_121 rfl (by decide) rfl ?_
  refine zz_iincB (npc := 126) (y6 + 1) (lv1 := fun v14 => [(6, .int v14), (5, .int w0), (0, .ref (eA E 57)), (1, .int y1), (2, .int y2), (3, .int y3), (4, .int y4)]) dX8_findAgreement_123 rfl 6 rfl rfl (by decide) (fun _ => rfl) (fun v14 => ?_)
  refine zz_goto (npc := 0) (tgt := 76) dX8_findAgreement_126 (by decide) ?_
  refine zz_sub (npc := 0) (lv1 := [(0, .ref (eA E 57)), (1, .int y1), (2, .int y2), (3, .int y3), (4, .int y4), (5, .int w0), (6, .int v14)]) [2, 3, 4, 5, 6, 1, 0] rfl ?_
  exact hk76 y1 y2 y3 y4 w0 v14 M
noncomputable def fX8_findAgreement_L129  (k39 : Int32 → Int32 → Int32 → Int32 → Mem → Option (Int32 × Mem)) (y1 : Int32) (y2 : Int32) (y3 : Int32) (y4 : Int32) (y5 : Int32) (M : Mem) : Option (Int32 × Mem) := (ck (inb ((3 * y3) + y4) 51) (wm (wr M 62 (ix ((3 * y3) + y4)) y5) fun M12 => (bv (y4 + 1) fun v13 => (k39 y1 y2 y3 v13 M12))))
set_option maxHeartbeats 4000000 in
set_option maxRecDepth 100000 in
theorem zX8_findAgreement_L129 (E : EV) (l : Launch)   (k39 : Int32 → Int32 → Int32 → Int32 → Mem → Option (Int32 × Mem)) (hk39 : ∀ (y1_ : Int32) (y2_ : Int32) (y3_ : Int32) (y4_ : Int32) (M_ : Mem), ZZ E l RX8 cX8_findAgreement 7 (some .int) wsX8_findAgreement rmX8_findAgreement vI (k39 y1_ y2_ y3_ y4_ M_) M_ [(0, .ref (eA E 57)), (1, .int y1_), (2, .int y2_), (3, .int y3_), (4, .int y4_)] 39 []) : ∀ (y1 : Int32) (y2 : Int32) (y3 : Int32) (y4 : Int32) (y5 : Int32) (M : Mem), ZZ E l RX8 cX8_findAgreement 7 (some .int) wsX8_findAgreement rmX8_findAgreement vI (fX8_findAgreement_L129 k39 y1 y2 y3 y4 y5 M) M [(0, .ref (eA E 57)), (1, .int y1), (2, .int y2), (3, .int y3), (4, .int y4), (5, .int y5)] 129 [] := by
  intro y1 y2 y3 y4 y5 M
  unfold fX8_findAgreement_L129
  refine zz_aload_n (npc := 130) 0 rfl rfl dX8_findAgreement_129 rfl ?_
  refine zz_getR (npc := 133) (i := 9) (C0 := RX8) (T := TX8) (N := 29) (by decide) (by rfl) rfl (by decide) iX8_findAgreement_8 (List.mem_of_getElem? (i := 1) rfl) rfl dX8_findAgreement_130 rfl ?_
  refine zz_iconst (npc := 134) 3 (by decide) dX8_findAgreement_133 rfl ?_
  refine zz_iload_n (npc := 135) 3 rfl rfl dX8_findAgreement_134 rfl ?_
  refine zz_imul (npc := 136) dX8_findAgreement_135 rfl ?_
  refine zz_iload (npc := 138) 4 rfl dX8_findAgreement_136 rfl ?_
  refine zz_iadd (npc := 139) dX8_findAgreement_138 rfl ?_
  refine zz_iload (npc := 141) 5 rfl dX8_findAgreement_139 rfl ?_
  refine zz_iast (npc := 142) (by decide) (by rfl) dX8_findAgreement_141 rfl (fun M12 => ?_)
  refine zz_iincB (npc := 145) (y4 + 1) (lv1 := fun v13 => [(4, .int v13), (0, .ref (eA E 57)), (1, .int y1), (2, .int y2), (3, .int y3), (5, .int y5)]) dX8_findAgreement_142 rfl 4 rfl rfl (by decide) (fun _ => rfl) (fun v13 => ?_)
  refine zz_goto (npc := 0) (tgt := 39) dX8_findAgreement_145 (by decide) ?_
  refine zz_sub (npc := 0) (lv1 := [(0, .ref (eA E 57)), (1, .int y1), (2, .int y2), (3, .int y3), (4, .int v13)]) [1, 2, 3, 4, 0] rfl ?_
  exact hk39 y1 y2 y3 v13 M12
noncomputable def fX8_findAgreement_L76  (k39 : Int32 → Int32 → Int32 → Int32 → Mem → Option (Int32 × Mem)) : Nat → Int32 → Int32 → Int32 → Int32 → Int32 → Int32 → Mem → Option (Int32 × Mem)
  | 0, _, _, _, _, _, _, _ => none
  | n + 1, y1, y2, y3, y4, y5, y6, M => (if 3 ≤ y6 then (fX8_findAgreement_L129 k39 y1 y2 y3 y4 y5 M) else (bd (fX8_isLit y3 M) fun r7 M6 => (if r7 = 0 then (fX8_findAgreement_L129 k39 y1 y2 y3 y4 y5 M6) else (bd (fX8_mayHave y1 y2 y3 y6 M6) fun r9 M8 => (if r9 = 0 then (fX8_findAgreement_L121 (fX8_findAgreement_L76 k39 n) y1 y2 y3 y4 y6 y5 M8) else (bd (fX8_changesWith y3 y4 y6 M8) fun r11 M10 => (fX8_findAgreement_L121 (fX8_findAgreement_L76 k39 n) y1 y2 y3 y4 y6 (imin y5 r11) M10)))))))
set_option maxHeartbeats 4000000 in
set_option maxRecDepth 100000 in
theorem zX8_findAgreement_L76 (E : EV) (l : Launch)   (k39 : Int32 → Int32 → Int32 → Int32 → Mem → Option (Int32 × Mem)) (hk39 : ∀ (y1_ : Int32) (y2_ : Int32) (y3_ : Int32) (y4_ : Int32) (M_ : Mem), ZZ E l RX8 cX8_findAgreement 7 (some .int) wsX8_findAgreement rmX8_findAgreement vI (k39 y1_ y2_ y3_ y4_ M_) M_ [(0, .ref (eA E 57)), (1, .int y1_), (2, .int y2_), (3, .int y3_), (4, .int y4_)] 39 []) : ∀ (n : Nat) (y1 : Int32) (y2 : Int32) (y3 : Int32) (y4 : Int32) (y5 : Int32) (y6 : Int32) (M : Mem), ZZ E l RX8 cX8_findAgreement 7 (some .int) wsX8_findAgreement rmX8_findAgreement vI (fX8_findAgreement_L76 k39 n y1 y2 y3 y4 y5 y6 M) M [(0, .ref (eA E 57)), (1, .int y1), (2, .int y2), (3, .int y3), (4, .int y4), (5, .int y5), (6, .int y6)] 76 [] := by
  intro n
  induction n with
  | zero => intros; exact zz_none
  | succ n ih =>
    intro y1 y2 y3 y4 y5 y6 M
    rw [fX8_findAgreement_L76]
    refine zz_iload (npc := 78) 6 rfl dX8_findAgreement_76 rfl ?_
    refine zz_iconst (npc := 79) 3 (by decide) dX8_findAgreement_78 rfl ?_
    refine zz_icmp_ge (tgt := 129) (npc := 82) dX8_findAgreement_79 (by decide) rfl ?_ ?_
    · refine zz_sub (npc := 0) (lv1 := [(0, .ref (eA E 57)), (1, .int y1), (2, .int y2), (3, .int y3), (4, .int y4), (5, .int y5)]) [0, 1, 2, 3, 4, 5] rfl ?_
      exact zX8_findAgreement_L129 E l k39 hk39 y1 y2 y3 y4 y5 M
    · refine zz_aload_n (npc := 83) 0 rfl rfl dX8_findAgreement_82 rfl ?_
      refine zz_iload_n (npc := 84) 3 rfl rfl dX8_findAgreement_83 rfl ?_
      refine zz_callVi (npc := 87) (n := 1) (As := [.int y3]) (by decide) (by rfl) rfl gX8_findAgreement_X8_isLit rfl rfl rfl (by decide +kernel) ⟨Nat.le_of_ble_eq_true rfl, Nat.le_of_ble_eq_true rfl⟩ rfl rfl (Nat.le_of_ble_eq_true rfl) (mtX8_isLit E l  y3 M) dX8_findAgreement_84 rfl (fun r7 M6 _ => ?_)
      refine zz_if_eq (tgt := 129) (npc := 90) dX8_findAgreement_87 (by decide) rfl ?_ ?_
      · refine zz_sub (npc := 0) (lv1 := [(0, .ref (eA E 57)), (1, .int y1), (2, .int y2), (3, .int y3), (4, .int y4), (5, .int y5)]) [0, 1, 2, 3, 4, 5] rfl ?_
        exact zX8_findAgreement_L129 E l k39 hk39 y1 y2 y3 y4 y5 M6
      · refine zz_aload_n (npc := 91) 0 rfl rfl dX8_findAgreement_90 rfl ?_
        refine zz_iload_n (npc := 92) 1 rfl rfl dX8_findAgreement_91 rfl ?_
        refine zz_iload_n (npc := 93) 2 rfl rfl dX8_findAgreement_92 rfl ?_
        refine zz_iload_n (npc := 94) 3 rfl rfl dX8_findAgreement_93 rfl ?_
        refine zz_iload (npc := 96) 6 rfl dX8_findAgreement_94 rfl ?_
        refine zz_callVi (npc := 99) (n := 4) (As := [.int y1, .int y2, .int y3, .int y6]) (by decide) (by rfl) rfl gX8_findAgreement_X8_mayHave rfl rfl rfl (by decide +kernel) ⟨Nat.le_of_ble_eq_true rfl, Nat.le_of_ble_eq_true rfl⟩ rfl rfl (Nat.le_of_ble_eq_true rfl) (mtX8_mayHave E l  y1 y2 y3 y6 M6) dX8_findAgreement_96 rfl (fun r9 M8 _ => ?_)
        refine zz_if_eq (tgt := 119) (npc := 102) dX8_findAgreement_99 (by decide) rfl ?_ ?_
        · refine zz_iload (npc := 121) 5 rfl dX8_findAgreement_119 rfl ?_
          refine zz_sub (npc := 0) (lv1 := [(0, .ref (eA E 57)), (1, .int y1), (2, .int y2), (3, .int y3), (4, .int y4), (6, .int y6)]) [0, 1, 2, 3, 4, 6] rfl ?_
          exact zX8_findAgreement_L121 E l (fX8_findAgreement_L76 k39 n) ih y1 y2 y3 y4 y6 y5 M8
        · refine zz_iload (npc := 104) 5 rfl dX8_findAgreement_102 rfl ?_
          refine zz_aload_n (npc := 105) 0 rfl rfl dX8_findAgreement_104 rfl ?_
          refine zz_iload_n (npc := 106) 3 rfl rfl dX8_findAgreement_105 rfl ?_
          refine zz_iload (npc := 108) 4 rfl dX8_findAgreement_106 rfl ?_
          refine zz_iload (npc := 110) 6 rfl dX8_findAgreement_108 rfl ?_
          refine zz_callVi (npc := 113) (n := 3) (As := [.int y3, .int y4, .int y6]) (by decide) (by rfl) rfl gX8_findAgreement_X8_changesWith rfl rfl rfl (by decide +kernel) ⟨Nat.le_of_ble_eq_true rfl, Nat.le_of_ble_eq_true rfl⟩ rfl rfl (Nat.le_of_ble_eq_true rfl) (mtX8_changesWith E l  y3 y4 y6 M8) dX8_findAgreement_110 rfl (fun r11 M10 _ => ?_)
          refine zz_mmin (npc := 116) (List.mem_of_getElem? (i := 4) rfl) (List.mem_of_getElem? (i := 5) rfl) (List.mem_of_getElem? (i := 6) rfl) (List.mem_of_getElem? (i := 7) rfl) (Nat.le_of_ble_eq_true rfl) (Nat.le_of_ble_eq_true rfl) dX8_findAgreement_113 rfl ?_
          refine zz_goto (npc := 0) (tgt := 121) dX8_findAgreement_116 (by decide) ?_
          refine zz_sub (npc := 0) (lv1 := [(0, .ref (eA E 57)), (1, .int y1), (2, .int y2), (3, .int y3), (4, .int y4), (6, .int y6)]) [0, 1, 2, 3, 4, 6] rfl ?_
          exact zX8_findAgreement_L121 E l (fX8_findAgreement_L76 k39 n) ih y1 y2 y3 y4 y6 (imin y5 r11) M10
noncomputable def fX8_findAgreement_L71  (k39 : Int32 → Int32 → Int32 → Int32 → Mem → Option (Int32 × Mem)) (y1 : Int32) (y2 : Int32) (y3 : Int32) (y4 : Int32) (w0 : Int32) (M : Mem) : Option (Int32 × Mem) := (fX8_findAgreement_L76 k39 fu y1 y2 y3 y4 w0 1 M)
set_option maxHeartbeats 4000000 in
set_option maxRecDepth 100000 in
theorem zX8_findAgreement_L71 (E : EV) (l : Launch)   (k39 : Int32 → Int32 → Int32 → Int32 → Mem → Option (Int32 × Mem)) (hk39 : ∀ (y1_ : Int32) (y2_ : Int32) (y3_ : Int32) (y4_ : Int32) (M_ : Mem), ZZ E l RX8 cX8_findAgreement 7 (some .int) wsX8_findAgreement rmX8_findAgreement vI (k39 y1_ y2_ y3_ y4_ M_) M_ [(0, .ref (eA E 57)), (1, .int y1_), (2, .int y2_), (3, .int y3_), (4, .int y4_)] 39 []) : ∀ (y1 : Int32) (y2 : Int32) (y3 : Int32) (y4 : Int32) (w0 : Int32) (M : Mem), ZZ E l RX8 cX8_findAgreement 7 (some .int) wsX8_findAgreement rmX8_findAgreement vI (fX8_findAgreement_L71 k39 y1 y2 y3 y4 w0 M) M [(0, .ref (eA E 57)), (1, .int y1), (2, .int y2), (3, .int y3), (4, .int y4)] 71 [.int w0] := by
  intro y1 y2 y3 y4 w0 M
  unfold fX8_findAgreement_L71
  refine zz_istore (npc := 73) (lv1 := [(5, .int w0), (0, .ref (eA E 57)), (1, .int y1), (2, .int y2), (3, .int y3), (4, .int y4)]) dX8_findAgreement_71 rfl (by decide) rfl ?_
  refine zz_iconst (npc := 74) 1 (by decide) dX8_findAgreement_73 rfl ?_
  refine zz_istore (npc := 76) (lv1 := [(6, .int 1), (5, .int w0), (0, .ref (eA E 57)), (1, .int y1), (2, .int y2), (3, .int y3), (4, .int y4)]) dX8_findAgreement_74 rfl (by decide) rfl ?_
  refine zz_sub (npc := 0) (lv1 := [(0, .ref (eA E 57)), (1, .int y1), (2, .int y2), (3, .int y3), (4, .int y4), (5, .int w0), (6, .int 1)]) [2, 3, 4, 5, 6, 1, 0] rfl ?_
  exact zX8_findAgreement_L76 E l k39 hk39 fu y1 y2 y3 y4 w0 1 M
noncomputable def fX8_findAgreement_L39  (k26 : Int32 → Int32 → Int32 → Mem → Option (Int32 × Mem)) : Nat → Int32 → Int32 → Int32 → Int32 → Mem → Option (Int32 × Mem)
  | 0, _, _, _, _, _ => none
  | n + 1, y1, y2, y3, y4, M => (if 3 ≤ y4 then (bv (y3 + (-1)) fun v3 => (k26 y1 y2 v3 M)) else (bd (fX8_isLit y3 M) fun r5 M4 => (if r5 = 0 then (ck (inb ((3 * (y3 + 1)) + y4) 51) (fX8_findAgreement_L71 (fX8_findAgreement_L39 k26 n) y1 y2 y3 y4 (M4 62 (ix ((3 * (y3 + 1)) + y4))) M4)) else (fX8_findAgreement_L71 (fX8_findAgreement_L39 k26 n) y1 y2 y3 y4 1000000 M4))))
set_option maxHeartbeats 4000000 in
set_option maxRecDepth 100000 in
theorem zX8_findAgreement_L39 (E : EV) (l : Launch)   (k26 : Int32 → Int32 → Int32 → Mem → Option (Int32 × Mem)) (hk26 : ∀ (y1_ : Int32) (y2_ : Int32) (y3_ : Int32) (M_ : Mem), ZZ E l RX8 cX8_findAgreement 7 (some .int) wsX8_findAgreement rmX8_findAgreement vI (k26 y1_ y2_ y3_ M_) M_ [(0, .ref (eA E 57)), (1, .int y1_), (2, .int y2_), (3, .int y3_)] 26 []) : ∀ (n : Nat) (y1 : Int32) (y2 : Int32) (y3 : Int32) (y4 : Int32) (M : Mem), ZZ E l RX8 cX8_findAgreement 7 (some .int) wsX8_findAgreement rmX8_findAgreement vI (fX8_findAgreement_L39 k26 n y1 y2 y3 y4 M) M [(0, .ref (eA E 57)), (1, .int y1), (2, .int y2), (3, .int y3), (4, .int y4)] 39 [] := by
  intro n
  induction n with
  | zero => intros; exact zz_none
  | succ n ih =>
    intro y1 y2 y3 y4 M
    rw [fX8_findAgreement_L39]
    refine zz_iload (npc := 41) 4 rfl dX8_findAgreement_39 rfl ?_
    refine zz_iconst (npc := 42) 3 (by decide) dX8_findAgreement_41 rfl ?_
    refine zz_icmp_ge (tgt := 148) (npc := 45) dX8_findAgreement_42 (by decide) rfl ?_ ?_
    · refine zz_iincB (npc := 151) (y3 + (-1)) (lv1 := fun v3 => [(3, .int v3), (0, .ref (eA E 57)), (1, .int y1), (2, .int y2), (4, .int y4)]) dX8_findAgreement_148 rfl 3 rfl rfl (by decide) (fun _ => rfl) (fun v3 => ?_)
      refine zz_goto (npc := 0) (tgt := 26) dX8_findAgreement_151 (by decide) ?_
      refine zz_sub (npc := 0) (lv1 := [(0, .ref (eA E 57)), (1, .int y1), (2, .int y2), (3, .int v3)]) [1, 2, 3, 0] rfl ?_
      exact hk26 y1 y2 v3 M
    · refine zz_aload_n (npc := 46) 0 rfl rfl dX8_findAgreement_45 rfl ?_
      refine zz_iload_n (npc := 47) 3 rfl rfl dX8_findAgreement_46 rfl ?_
      refine zz_callVi (npc := 50) (n := 1) (As := [.int y3]) (by decide) (by rfl) rfl gX8_findAgreement_X8_isLit rfl rfl rfl (by decide +kernel) ⟨Nat.le_of_ble_eq_true rfl, Nat.le_of_ble_eq_true rfl⟩ rfl rfl (Nat.le_of_ble_eq_true rfl) (mtX8_isLit E l  y3 M) dX8_findAgreement_47 rfl (fun r5 M4 _ => ?_)
      refine zz_if_eq (tgt := 58) (npc := 53) dX8_findAgreement_50 (by decide) rfl ?_ ?_
      · refine zz_aload_n (npc := 59) 0 rfl rfl dX8_findAgreement_58 rfl ?_
        refine zz_getR (npc := 62) (i := 9) (C0 := RX8) (T := TX8) (N := 29) (by decide) (by rfl) rfl (by decide) iX8_findAgreement_8 (List.mem_of_getElem? (i := 1) rfl) rfl dX8_findAgreement_59 rfl ?_
        refine zz_iconst (npc := 63) 3 (by decide) dX8_findAgreement_62 rfl ?_
        refine zz_iload_n (npc := 64) 3 rfl rfl dX8_findAgreement_63 rfl ?_
        refine zz_iconst (npc := 65) 1 (by decide) dX8_findAgreement_64 rfl ?_
        refine zz_iadd (npc := 66) dX8_findAgreement_65 rfl ?_
        refine zz_imul (npc := 67) dX8_findAgreement_66 rfl ?_
        refine zz_iload (npc := 69) 4 rfl dX8_findAgreement_67 rfl ?_
        refine zz_iadd (npc := 70) dX8_findAgreement_69 rfl ?_
        refine zz_iald (npc := 71) (by decide) (by rfl) dX8_findAgreement_70 rfl ?_
        exact zX8_findAgreement_L71 E l (fX8_findAgreement_L39 k26 n) ih y1 y2 y3 y4 (M4 62 (ix ((3 * (y3 + 1)) + y4))) M4
      · refine zz_ldc (npc := 55) 1000000 (List.mem_of_getElem? (i := 3) rfl) dX8_findAgreement_53 rfl ?_
        refine zz_goto (npc := 0) (tgt := 71) dX8_findAgreement_55 (by decide) ?_
        exact zX8_findAgreement_L71 E l (fX8_findAgreement_L39 k26 n) ih y1 y2 y3 y4 1000000 M4
noncomputable def fX8_findAgreement_L26   : Nat → Int32 → Int32 → Int32 → Mem → Option (Int32 × Mem)
  | 0, _, _, _, _ => none
  | n + 1, y1, y2, y3, M => (ck (inb 0 56) (if y3 < (M 58 (ix 0)) then (ck (inb 0 56) (ck (inb (3 * (M 58 (ix 0))) 51) (some (M 62 (ix (3 * (M 58 (ix 0)))), M)))) else (fX8_findAgreement_L39 (fX8_findAgreement_L26  n) fu y1 y2 y3 0 M)))
set_option maxHeartbeats 4000000 in
set_option maxRecDepth 100000 in
theorem zX8_findAgreement_L26 (E : EV) (l : Launch)     : ∀ (n : Nat) (y1 : Int32) (y2 : Int32) (y3 : Int32) (M : Mem), ZZ E l RX8 cX8_findAgreement 7 (some .int) wsX8_findAgreement rmX8_findAgreement vI (fX8_findAgreement_L26 n y1 y2 y3 M) M [(0, .ref (eA E 57)), (1, .int y1), (2, .int y2), (3, .int y3)] 26 [] := by
  intro n
  induction n with
  | zero => intros; exact zz_none
  | succ n ih =>
    intro y1 y2 y3 M
    rw [fX8_findAgreement_L26]
    refine zz_iload_n (npc := 27) 3 rfl rfl dX8_findAgreement_26 rfl ?_
    refine zz_aload_n (npc := 28) 0 rfl rfl dX8_findAgreement_27 rfl ?_
    refine zz_getR (npc := 31) (i := 0) (C0 := RX8) (T := TX8) (N := 29) (by decide) (by rfl) rfl (by decide) iX8_findAgreement_8 (List.mem_of_getElem? (i := 2) rfl) rfl dX8_findAgreement_28 rfl ?_
    refine zz_iconst (npc := 32) 0 (by decide) dX8_findAgreement_31 rfl ?_
    refine zz_iald (npc := 33) (by decide) (by rfl) dX8_findAgreement_32 rfl ?_
    refine zz_icmp_lt (tgt := 154) (npc := 36) dX8_findAgreement_33 (by decide) rfl ?_ ?_
    · refine zz_aload_n (npc := 155) 0 rfl rfl dX8_findAgreement_154 rfl ?_
      refine zz_getR (npc := 158) (i := 9) (C0 := RX8) (T := TX8) (N := 29) (by decide) (by rfl) rfl (by decide) iX8_findAgreement_8 (List.mem_of_getElem? (i := 1) rfl) rfl dX8_findAgreement_155 rfl ?_
      refine zz_iconst (npc := 159) 3 (by decide) dX8_findAgreement_158 rfl ?_
      refine zz_aload_n (npc := 160) 0 rfl rfl dX8_findAgreement_159 rfl ?_
      refine zz_getR (npc := 163) (i := 0) (C0 := RX8) (T := TX8) (N := 29) (by decide) (by rfl) rfl (by decide) iX8_findAgreement_8 (List.mem_of_getElem? (i := 2) rfl) rfl dX8_findAgreement_160 rfl ?_
      refine zz_iconst (npc := 164) 0 (by decide) dX8_findAgreement_163 rfl ?_
      refine zz_iald (npc := 165) (by decide) (by rfl) dX8_findAgreement_164 rfl ?_
      refine zz_imul (npc := 166) dX8_findAgreement_165 rfl ?_
      refine zz_iald (npc := 167) (by decide) (by rfl) dX8_findAgreement_166 rfl ?_
      exact zz_iret dX8_findAgreement_167
    · refine zz_iconst (npc := 37) 0 (by decide) dX8_findAgreement_36 rfl ?_
      refine zz_istore (npc := 39) (lv1 := [(4, .int 0), (0, .ref (eA E 57)), (1, .int y1), (2, .int y2), (3, .int y3)]) dX8_findAgreement_37 rfl (by decide) rfl ?_
      refine zz_sub (npc := 0) (lv1 := [(0, .ref (eA E 57)), (1, .int y1), (2, .int y2), (3, .int y3), (4, .int 0)]) [1, 2, 3, 4, 0] rfl ?_
      exact zX8_findAgreement_L39 E l (fX8_findAgreement_L26  n) ih fu y1 y2 y3 0 M
noncomputable def fX8_findAgreement_L2   : Nat → Int32 → Int32 → Int32 → Mem → Option (Int32 × Mem)
  | 0, _, _, _, _ => none
  | n + 1, y1, y2, y3, M => (if 3 ≤ y3 then (fX8_findAgreement_L26  fu y1 y2 15 M) else (ck (inb (48 + y3) 51) (wm (wr M 62 (ix (48 + y3)) 0) fun M1 => (bv (y3 + 1) fun v2 => (fX8_findAgreement_L2  n y1 y2 v2 M1)))))
set_option maxHeartbeats 4000000 in
set_option maxRecDepth 100000 in
theorem zX8_findAgreement_L2 (E : EV) (l : Launch)     : ∀ (n : Nat) (y1 : Int32) (y2 : Int32) (y3 : Int32) (M : Mem), ZZ E l RX8 cX8_findAgreement 7 (some .int) wsX8_findAgreement rmX8_findAgreement vI (fX8_findAgreement_L2 n y1 y2 y3 M) M [(0, .ref (eA E 57)), (1, .int y1), (2, .int y2), (3, .int y3)] 2 [] := by
  intro n
  induction n with
  | zero => intros; exact zz_none
  | succ n ih =>
    intro y1 y2 y3 M
    rw [fX8_findAgreement_L2]
    refine zz_iload_n (npc := 3) 3 rfl rfl dX8_findAgreement_2 rfl ?_
    refine zz_iconst (npc := 4) 3 (by decide) dX8_findAgreement_3 rfl ?_
    refine zz_icmp_ge (tgt := 23) (npc := 7) dX8_findAgreement_4 (by decide) rfl ?_ ?_
    · refine zz_bipush (npc := 25) 15 (by decide) dX8_findAgreement_23 rfl ?_
      refine zz_istore_n (npc := 26) (lv1 := [(3, .int 15), (0, .ref (eA E 57)), (1, .int y1), (2, .int y2)]) rfl dX8_findAgreement_25 rfl (by decide) rfl ?_
      refine zz_sub (npc := 0) (lv1 := [(0, .ref (eA E 57)), (1, .int y1), (2, .int y2), (3, .int 15)]) [1, 2, 3, 0] rfl ?_
      exact zX8_findAgreement_L26 E l  fu y1 y2 15 M
    · refine zz_aload_n (npc := 8) 0 rfl rfl dX8_findAgreement_7 rfl ?_
      refine zz_getR (npc := 11) (i := 9) (C0 := RX8) (T := TX8) (N := 29) (by decide) (by rfl) rfl (by decide) iX8_findAgreement_8 (List.mem_of_getElem? (i := 1) rfl) rfl dX8_findAgreement_8 rfl ?_
      refine zz_bipush (npc := 13) 48 (by decide) dX8_findAgreement_11 rfl ?_
      refine zz_iload_n (npc := 14) 3 rfl rfl dX8_findAgreement_13 rfl ?_
      refine zz_iadd (npc := 15) dX8_findAgreement_14 rfl ?_
      refine zz_iconst (npc := 16) 0 (by decide) dX8_findAgreement_15 rfl ?_
      refine zz_iast (npc := 17) (by decide) (by rfl) dX8_findAgreement_16 rfl (fun M1 => ?_)
      refine zz_iincB (npc := 20) (y3 + 1) (lv1 := fun v2 => [(3, .int v2), (0, .ref (eA E 57)), (1, .int y1), (2, .int y2)]) dX8_findAgreement_17 rfl 3 rfl rfl (by decide) (fun _ => rfl) (fun v2 => ?_)
      refine zz_goto (npc := 0) (tgt := 2) dX8_findAgreement_20 (by decide) ?_
      refine zz_sub (npc := 0) (lv1 := [(0, .ref (eA E 57)), (1, .int y1), (2, .int y2), (3, .int v2)]) [1, 2, 3, 0] rfl ?_
      exact ih y1 y2 v2 M1
noncomputable def fX8_findAgreement  (x1 : Int32) (x2 : Int32) (M : Mem) : Option (Int32 × Mem) := (fX8_findAgreement_L2  fu x1 x2 0 M)
set_option maxHeartbeats 4000000 in
set_option maxRecDepth 100000 in
theorem mtX8_findAgreement (E : EV) (l : Launch)   (x1 : Int32) (x2 : Int32) (M : Mem) : CT E l yX8_findAgreement wsX8_findAgreement rmX8_findAgreement vI [.ref (eA E 57), .int x1, .int x2] (fX8_findAgreement x1 x2 M) M := by
  refine ct_of (cc := cX8_findAgreement) (nL := 7) (ret := (some .int)) (by decide +kernel) rfl (Nat.le_of_ble_eq_true rfl) ?_
  show ZZ E l RX8 cX8_findAgreement 7 (some .int) wsX8_findAgreement rmX8_findAgreement vI (fX8_findAgreement x1 x2 M) M [(0, .ref (eA E 57)), (1, .int x1), (2, .int x2)] 0 []
  unfold fX8_findAgreement
  refine zz_iconst (npc := 1) 0 (by decide) dX8_findAgreement_0 rfl ?_
  refine zz_istore_n (npc := 2) (lv1 := [(3, .int 0), (0, .ref (eA E 57)), (1, .int x1), (2, .int x2)]) rfl dX8_findAgreement_1 rfl (by decide) rfl ?_
  refine zz_sub (npc := 0) (lv1 := [(0, .ref (eA E 57)), (1, .int x1), (2, .int x2), (3, .int 0)]) [1, 2, 3, 0] rfl ?_
  exact zX8_findAgreement_L2 E l  fu x1 x2 0 M
abbrev rmX8_needsIn : Room := { frames := 2, cells := 0, slots := 0, locals := 43 }
noncomputable def fX8_needsIn  (x1 : Int32) (x2 : Int32) (M : Mem) : Option (Int32 × Mem) := (bd (fX8_personIs x1 3 M) fun r2 M1 => (bd (fX8_bits (r2 &&& x2) M1) fun r4 M3 => (some (r4, M3))))
set_option maxHeartbeats 4000000 in
set_option maxRecDepth 100000 in
theorem mtX8_needsIn (E : EV) (l : Launch)   (x1 : Int32) (x2 : Int32) (M : Mem) : CT E l yX8_needsIn wsX8_needsIn rmX8_needsIn vI [.ref (eA E 57), .int x1, .int x2] (fX8_needsIn x1 x2 M) M := by
  refine ct_of (cc := cX8_needsIn) (nL := 3) (ret := (some .int)) (by decide +kernel) rfl (Nat.le_of_ble_eq_true rfl) ?_
  show ZZ E l RX8 cX8_needsIn 3 (some .int) wsX8_needsIn rmX8_needsIn vI (fX8_needsIn x1 x2 M) M [(0, .ref (eA E 57)), (1, .int x1), (2, .int x2)] 0 []
  unfold fX8_needsIn
  refine zz_aload_n (npc := 1) 0 rfl rfl dX8_needsIn_0 rfl ?_
  refine zz_iload_n (npc := 2) 1 rfl rfl dX8_needsIn_1 rfl ?_
  refine zz_iconst (npc := 3) 3 (by decide) dX8_needsIn_2 rfl ?_
  refine zz_callVi (npc := 6) (n := 2) (As := [.int x1, .int 3]) (by decide) (by rfl) rfl gX8_needsIn_X8_personIs rfl rfl rfl (by decide +kernel) ⟨Nat.le_of_ble_eq_true rfl, Nat.le_of_ble_eq_true rfl⟩ rfl rfl (Nat.le_of_ble_eq_true rfl) (mtX8_personIs E l  x1 3 M) dX8_needsIn_3 rfl (fun r2 M1 _ => ?_)
  refine zz_iload_n (npc := 7) 2 rfl rfl dX8_needsIn_6 rfl ?_
  refine zz_iand (npc := 8) dX8_needsIn_7 rfl ?_
  refine zz_callSi (npc := 11) (n := 1) (As := [.int (r2 &&& x2)]) gX8_needsIn_X8_bits rfl rfl rfl (by decide +kernel) ⟨Nat.le_of_ble_eq_true rfl, Nat.le_of_ble_eq_true rfl⟩ rfl rfl (Nat.le_of_ble_eq_true rfl) (mtX8_bits E l  (r2 &&& x2) M1) dX8_needsIn_8 rfl (fun r4 M3 _ => ?_)
  exact zz_iret dX8_needsIn_11
abbrev rmX8_meets : Room := { frames := 3, cells := 0, slots := 0, locals := 65 }
theorem iX8_meets_8 : ∀ w ∈ u_ws RX8 TX8 29, w ∈ wsX8_meets := fun w h => List.mem_cons_of_mem _ (List.mem_append_right _ h)
noncomputable def fX8_meets  (x1 : Int32) (x2 : Int32) (M : Mem) : Option (Int32 × Mem) := (bd (fX8_restHours M) fun r2 M1 => (ck (inb 3 56) (bv (r2 &&& (M1 58 (ix 3))) fun v3 => (bd (fX8_restHours M1) fun r5 M4 => (ck (inb 3 56) (bv (r5 &&& ((M4 58 (ix 3)) ^^^ (-1))) fun v6 => (bd (fX8_personIs x1 3 M4) fun r8 M7 => (bd (fX8_personIs x2 3 M7) fun r10 M9 => (bd (fX8_bits ((r8 ||| r10) &&& v3) M9) fun r12 M11 => (bd (fX8_needsIn x1 v6 M11) fun r14 M13 => (bd (fX8_needsIn x2 v6 M13) fun r16 M15 => (some ((r12 + r14) + r16, M15)))))))))))))
set_option maxHeartbeats 4000000 in
set_option maxRecDepth 100000 in
theorem mtX8_meets (E : EV) (l : Launch)   (x1 : Int32) (x2 : Int32) (M : Mem) : CT E l yX8_meets wsX8_meets rmX8_meets vI [.ref (eA E 57), .int x1, .int x2] (fX8_meets x1 x2 M) M := by
  refine ct_of (cc := cX8_meets) (nL := 5) (ret := (some .int)) (by decide +kernel) rfl (Nat.le_of_ble_eq_true rfl) ?_
  show ZZ E l RX8 cX8_meets 5 (some .int) wsX8_meets rmX8_meets vI (fX8_meets x1 x2 M) M [(0, .ref (eA E 57)), (1, .int x1), (2, .int x2)] 0 []
  unfold fX8_meets
  refine zz_aload_n (npc := 1) 0 rfl rfl dX8_meets_0 rfl ?_
  refine zz_callVi (npc := 4) (n := 0) (As := []) (by decide) (by rfl) rfl gX8_meets_X8_restHours rfl rfl rfl (by decide +kernel) ⟨Nat.le_of_ble_eq_true rfl, Nat.le_of_ble_eq_true rfl⟩ rfl rfl (Nat.le_of_ble_eq_true rfl) (mtX8_restHours E l   M) dX8_meets_1 rfl (fun r2 M1 _ => ?_)
  refine zz_aload_n (npc := 5) 0 rfl rfl dX8_meets_4 rfl ?_
  refine zz_getR (npc := 8) (i := 0) (C0 := RX8) (T := TX8) (N := 29) (by decide) (by rfl) rfl (by decide) iX8_meets_8 (List.mem_of_getElem? (i := 1) rfl) rfl dX8_meets_5 rfl ?_
  refine zz_iconst (npc := 9) 3 (by decide) dX8_meets_8 rfl ?_
  refine zz_iald (npc := 10) (by decide) (by rfl) dX8_meets_9 rfl ?_
  refine zz_iand (npc := 11) dX8_meets_10 rfl ?_
  refine zz_istore_nB (npc := 12) (lv1 := fun v3 => [(3, .int v3), (0, .ref (eA E 57)), (1, .int x1), (2, .int x2)]) rfl dX8_meets_11 rfl (by decide) (fun _ => rfl) (fun v3 => ?_)
  refine zz_aload_n (npc := 13) 1 rfl rfl dX8_meets_12 rfl ?_
  refine zz_callVi (npc := 16) (n := 0) (As := []) (by decide) (by rfl) rfl gX8_meets_X8_restHours rfl rfl rfl (by decide +kernel) ⟨Nat.le_of_ble_eq_true rfl, Nat.le_of_ble_eq_true rfl⟩ rfl rfl (Nat.le_of_ble_eq_true rfl) (mtX8_restHours E l   M1) dX8_meets_13 rfl (fun r5 M4 _ => ?_)
  refine zz_aload_n (npc := 17) 1 rfl rfl dX8_meets_16 rfl ?_
  refine zz_getR (npc := 20) (i := 0) (C0 := RX8) (T := TX8) (N := 29) (by decide) (by rfl) rfl (by decide) iX8_meets_8 (List.mem_of_getElem? (i := 1) rfl) rfl dX8_meets_17 rfl ?_
  refine zz_iconst (npc := 21) 3 (by decide) dX8_meets_20 rfl ?_
  refine zz_iald (npc := 22) (by decide) (by rfl) dX8_meets_21 rfl ?_
  refine zz_iconst (npc := 23) (-1) (by decide) dX8_meets_22 rfl ?_
  refine zz_ixor (npc := 24) dX8_meets_23 rfl ?_
  refine zz_iand (npc := 25) dX8_meets_24 rfl ?_
  refine zz_istoreB (npc := 27) (lv1 := fun v6 => [(4, .int v6), (3, .int v3), (0, .ref (eA E 57)), (1, .int x1), (2, .int x2)]) dX8_meets_25 rfl (by decide) (fun _ => rfl) (fun v6 => ?_)
  refine zz_aload_n (npc := 28) 2 rfl rfl dX8_meets_27 rfl ?_
  refine zz_iload_n (npc := 29) 3 rfl rfl dX8_meets_28 rfl ?_
  refine zz_iconst (npc := 30) 3 (by decide) dX8_meets_29 rfl ?_
  refine zz_callVi (npc := 33) (n := 2) (As := [.int x1, .int 3]) (by decide) (by rfl) rfl gX8_meets_X8_personIs rfl rfl rfl (by decide +kernel) ⟨Nat.le_of_ble_eq_true rfl, Nat.le_of_ble_eq_true rfl⟩ rfl rfl (Nat.le_of_ble_eq_true rfl) (mtX8_personIs E l  x1 3 M4) dX8_meets_30 rfl (fun r8 M7 _ => ?_)
  refine zz_aload_n (npc := 34) 2 rfl rfl dX8_meets_33 rfl ?_
  refine zz_iload_n (npc := 35) 4 rfl rfl dX8_meets_34 rfl ?_
  refine zz_iconst (npc := 36) 3 (by decide) dX8_meets_35 rfl ?_
  refine zz_callVi (npc := 39) (n := 2) (As := [.int x2, .int 3]) (by decide) (by rfl) rfl gX8_meets_X8_personIs rfl rfl rfl (by decide +kernel) ⟨Nat.le_of_ble_eq_true rfl, Nat.le_of_ble_eq_true rfl⟩ rfl rfl (Nat.le_of_ble_eq_true rfl) (mtX8_personIs E l  x2 3 M7) dX8_meets_36 rfl (fun r10 M9 _ => ?_)
  refine zz_ior (npc := 40) dX8_meets_39 rfl ?_
  refine zz_iload_n (npc := 41) 1 rfl rfl dX8_meets_40 rfl ?_
  refine zz_iand (npc := 42) dX8_meets_41 rfl ?_
  refine zz_callSi (npc := 45) (n := 1) (As := [.int ((r8 ||| r10) &&& v3)]) gX8_meets_X8_bits rfl rfl rfl (by decide +kernel) ⟨Nat.le_of_ble_eq_true rfl, Nat.le_of_ble_eq_true rfl⟩ rfl rfl (Nat.le_of_ble_eq_true rfl) (mtX8_bits E l  ((r8 ||| r10) &&& v3) M9) dX8_meets_42 rfl (fun r12 M11 _ => ?_)
  refine zz_aload_n (npc := 46) 2 rfl rfl dX8_meets_45 rfl ?_
  refine zz_iload_n (npc := 47) 3 rfl rfl dX8_meets_46 rfl ?_
  refine zz_iload (npc := 49) 0 rfl dX8_meets_47 rfl ?_
  refine zz_callVi (npc := 52) (n := 2) (As := [.int x1, .int v6]) (by decide) (by rfl) rfl gX8_meets_X8_needsIn rfl rfl rfl (by decide +kernel) ⟨Nat.le_of_ble_eq_true rfl, Nat.le_of_ble_eq_true rfl⟩ rfl rfl (Nat.le_of_ble_eq_true rfl) (mtX8_needsIn E l  x1 v6 M11) dX8_meets_49 rfl (fun r14 M13 _ => ?_)
  refine zz_iadd (npc := 53) dX8_meets_52 rfl ?_
  refine zz_aload_n (npc := 54) 2 rfl rfl dX8_meets_53 rfl ?_
  refine zz_iload_n (npc := 55) 4 rfl rfl dX8_meets_54 rfl ?_
  refine zz_iload (npc := 57) 0 rfl dX8_meets_55 rfl ?_
  refine zz_callVi (npc := 60) (n := 2) (As := [.int x2, .int v6]) (by decide) (by rfl) rfl gX8_meets_X8_needsIn rfl rfl rfl (by decide +kernel) ⟨Nat.le_of_ble_eq_true rfl, Nat.le_of_ble_eq_true rfl⟩ rfl rfl (Nat.le_of_ble_eq_true rfl) (mtX8_needsIn E l  x2 v6 M13) dX8_meets_57 rfl (fun r16 M15 _ => ?_)
  refine zz_iadd (npc := 61) dX8_meets_60 rfl ?_
  exact zz_iret dX8_meets_61
abbrev rmX8_agree : Room := { frames := 4, cells := 0, slots := 0, locals := 89 }
noncomputable def fX8_agree  (x1 : Int32) (x2 : Int32) (M : Mem) : Option (Int32 × Mem) := (bd (fX8_areTwo x1 x2 M) fun r2 M1 => (if r2 = 0 then (bd (fX8_finding (-1000001) M1) fun r4 M3 => (some (r4, M3))) else (bd (fX8_meets x1 x2 M1) fun r6 M5 => (some (r6, M5)))))
set_option maxHeartbeats 4000000 in
set_option maxRecDepth 100000 in
theorem mtX8_agree (E : EV) (l : Launch)   (x1 : Int32) (x2 : Int32) (M : Mem) : CT E l yX8_agree wsX8_agree rmX8_agree vI [.ref (eA E 57), .int x1, .int x2] (fX8_agree x1 x2 M) M := by
  refine ct_of (cc := cX8_agree) (nL := 3) (ret := (some .int)) (by decide +kernel) rfl (Nat.le_of_ble_eq_true rfl) ?_
  show ZZ E l RX8 cX8_agree 3 (some .int) wsX8_agree rmX8_agree vI (fX8_agree x1 x2 M) M [(0, .ref (eA E 57)), (1, .int x1), (2, .int x2)] 0 []
  unfold fX8_agree
  refine zz_aload_n (npc := 1) 0 rfl rfl dX8_agree_0 rfl ?_
  refine zz_iload_n (npc := 2) 1 rfl rfl dX8_agree_1 rfl ?_
  refine zz_iload_n (npc := 3) 2 rfl rfl dX8_agree_2 rfl ?_
  refine zz_callVi (npc := 6) (n := 2) (As := [.int x1, .int x2]) (by decide) (by rfl) rfl gX8_agree_X8_areTwo rfl rfl rfl (by decide +kernel) ⟨Nat.le_of_ble_eq_true rfl, Nat.le_of_ble_eq_true rfl⟩ rfl rfl (Nat.le_of_ble_eq_true rfl) (mtX8_areTwo E l  x1 x2 M) dX8_agree_3 rfl (fun r2 M1 _ => ?_)
  refine zz_if_eq (tgt := 18) (npc := 9) dX8_agree_6 (by decide) rfl ?_ ?_
  · refine zz_aload_n (npc := 19) 0 rfl rfl dX8_agree_18 rfl ?_
    refine zz_ldc (npc := 21) (-1000001) (List.mem_of_getElem? (i := 1) rfl) dX8_agree_19 rfl ?_
    refine zz_callVi (npc := 24) (n := 1) (As := [.int (-1000001)]) (by decide) (by rfl) rfl gX8_agree_X8_finding rfl rfl rfl (by decide +kernel) ⟨Nat.le_of_ble_eq_true rfl, Nat.le_of_ble_eq_true rfl⟩ rfl rfl (Nat.le_of_ble_eq_true rfl) (mtX8_finding E l  (-1000001) M1) dX8_agree_21 rfl (fun r4 M3 _ => ?_)
    exact zz_iret dX8_agree_24
  · refine zz_aload_n (npc := 10) 0 rfl rfl dX8_agree_9 rfl ?_
    refine zz_iload_n (npc := 11) 1 rfl rfl dX8_agree_10 rfl ?_
    refine zz_iload_n (npc := 12) 2 rfl rfl dX8_agree_11 rfl ?_
    refine zz_callVi (npc := 15) (n := 2) (As := [.int x1, .int x2]) (by decide) (by rfl) rfl gX8_agree_X8_meets rfl rfl rfl (by decide +kernel) ⟨Nat.le_of_ble_eq_true rfl, Nat.le_of_ble_eq_true rfl⟩ rfl rfl (Nat.le_of_ble_eq_true rfl) (mtX8_meets E l  x1 x2 M1) dX8_agree_12 rfl (fun r6 M5 _ => ?_)
    refine zz_goto (npc := 0) (tgt := 24) dX8_agree_15 (by decide) ?_
    exact zz_iret dX8_agree_24
abbrev rmX8_changes : Room := { frames := 4, cells := 0, slots := 0, locals := 95 }
noncomputable def fX8_changes  (x1 : Int32) (x2 : Int32) (M : Mem) : Option (Int32 × Mem) := (bd (fX8_areTwo x1 x2 M) fun r2 M1 => (if r2 = 0 then (bd (fX8_finding (-1000001) M1) fun r4 M3 => (some (r4, M3))) else (bd (fX8_findAgreement (imin x1 x2) (imax x1 x2) M1) fun r6 M5 => (some (r6, M5)))))
set_option maxHeartbeats 4000000 in
set_option maxRecDepth 100000 in
theorem mtX8_changes (E : EV) (l : Launch)   (x1 : Int32) (x2 : Int32) (M : Mem) : CT E l yX8_changes wsX8_changes rmX8_changes vI [.ref (eA E 57), .int x1, .int x2] (fX8_changes x1 x2 M) M := by
  refine ct_of (cc := cX8_changes) (nL := 3) (ret := (some .int)) (by decide +kernel) rfl (Nat.le_of_ble_eq_true rfl) ?_
  show ZZ E l RX8 cX8_changes 3 (some .int) wsX8_changes rmX8_changes vI (fX8_changes x1 x2 M) M [(0, .ref (eA E 57)), (1, .int x1), (2, .int x2)] 0 []
  unfold fX8_changes
  refine zz_aload_n (npc := 1) 0 rfl rfl dX8_changes_0 rfl ?_
  refine zz_iload_n (npc := 2) 1 rfl rfl dX8_changes_1 rfl ?_
  refine zz_iload_n (npc := 3) 2 rfl rfl dX8_changes_2 rfl ?_
  refine zz_callVi (npc := 6) (n := 2) (As := [.int x1, .int x2]) (by decide) (by rfl) rfl gX8_changes_X8_areTwo rfl rfl rfl (by decide +kernel) ⟨Nat.le_of_ble_eq_true rfl, Nat.le_of_ble_eq_true rfl⟩ rfl rfl (Nat.le_of_ble_eq_true rfl) (mtX8_areTwo E l  x1 x2 M) dX8_changes_3 rfl (fun r2 M1 _ => ?_)
  refine zz_if_eq (tgt := 26) (npc := 9) dX8_changes_6 (by decide) rfl ?_ ?_
  · refine zz_aload_n (npc := 27) 0 rfl rfl dX8_changes_26 rfl ?_
    refine zz_ldc (npc := 29) (-1000001) (List.mem_of_getElem? (i := 8) rfl) dX8_changes_27 rfl ?_
    refine zz_callVi (npc := 32) (n := 1) (As := [.int (-1000001)]) (by decide) (by rfl) rfl gX8_changes_X8_finding rfl rfl rfl (by decide +kernel) ⟨Nat.le_of_ble_eq_true rfl, Nat.le_of_ble_eq_true rfl⟩ rfl rfl (Nat.le_of_ble_eq_true rfl) (mtX8_finding E l  (-1000001) M1) dX8_changes_29 rfl (fun r4 M3 _ => ?_)
    exact zz_iret dX8_changes_32
  · refine zz_aload_n (npc := 10) 0 rfl rfl dX8_changes_9 rfl ?_
    refine zz_iload_n (npc := 11) 1 rfl rfl dX8_changes_10 rfl ?_
    refine zz_iload_n (npc := 12) 2 rfl rfl dX8_changes_11 rfl ?_
    refine zz_mmin (npc := 15) (List.mem_of_getElem? (i := 1) rfl) (List.mem_of_getElem? (i := 2) rfl) (List.mem_of_getElem? (i := 3) rfl) (List.mem_of_getElem? (i := 4) rfl) (Nat.le_of_ble_eq_true rfl) (Nat.le_of_ble_eq_true rfl) dX8_changes_12 rfl ?_
    refine zz_iload_n (npc := 16) 1 rfl rfl dX8_changes_15 rfl ?_
    refine zz_iload_n (npc := 17) 2 rfl rfl dX8_changes_16 rfl ?_
    refine zz_mmax (npc := 20) (List.mem_of_getElem? (i := 5) rfl) (List.mem_of_getElem? (i := 6) rfl) (List.mem_of_getElem? (i := 3) rfl) (List.mem_of_getElem? (i := 7) rfl) (Nat.le_of_ble_eq_true rfl) (Nat.le_of_ble_eq_true rfl) dX8_changes_17 rfl ?_
    refine zz_callVi (npc := 23) (n := 2) (As := [.int (imin x1 x2), .int (imax x1 x2)]) (by decide) (by rfl) rfl gX8_changes_X8_findAgreement rfl rfl rfl (by decide +kernel) ⟨Nat.le_of_ble_eq_true rfl, Nat.le_of_ble_eq_true rfl⟩ rfl rfl (Nat.le_of_ble_eq_true rfl) (mtX8_findAgreement E l  (imin x1 x2) (imax x1 x2) M1) dX8_changes_20 rfl (fun r6 M5 _ => ?_)
    refine zz_goto (npc := 0) (tgt := 32) dX8_changes_23 (by decide) ?_
    exact zz_iret dX8_changes_32
abbrev rmX8_heldByLess : Room := { frames := 4, cells := 0, slots := 0, locals := 95 }
theorem iX8_heldByLess_8 : ∀ w ∈ u_ws RX8 TX8 29, w ∈ wsX8_heldByLess := fun w h => List.mem_cons_of_mem _ (List.mem_append_right _ h)
noncomputable def fX8_heldByLess_L113  (k26 : Int32 → Int32 → Int32 → Int32 → Int32 → Mem → Option (Int32 × Mem)) (y1 : Int32) (y2 : Int32) (y3 : Int32) (y4 : Int32) (y5 : Int32) (M : Mem) : Option (Int32 × Mem) := (bv (y5 + 1) fun v10 => (k26 y1 y2 y3 y4 v10 M))
set_option maxHeartbeats 4000000 in
set_option maxRecDepth 100000 in
theorem zX8_heldByLess_L113 (E : EV) (l : Launch)   (k26 : Int32 → Int32 → Int32 → Int32 → Int32 → Mem → Option (Int32 × Mem)) (hk26 : ∀ (y1_ : Int32) (y2_ : Int32) (y3_ : Int32) (y4_ : Int32) (y5_ : Int32) (M_ : Mem), ZZ E l RX8 cX8_heldByLess 7 (some .int) wsX8_heldByLess rmX8_heldByLess vI (k26 y1_ y2_ y3_ y4_ y5_ M_) M_ [(0, .ref (eA E 57)), (1, .int y1_), (2, .int y2_), (3, .int y3_), (4, .int y4_), (5, .int y5_)] 26 []) : ∀ (y1 : Int32) (y2 : Int32) (y3 : Int32) (y4 : Int32) (y5 : Int32) (M : Mem), ZZ E l RX8 cX8_heldByLess 7 (some .int) wsX8_heldByLess rmX8_heldByLess vI (fX8_heldByLess_L113 k26 y1 y2 y3 y4 y5 M) M [(0, .ref (eA E 57)), (1, .int y1), (2, .int y2), (3, .int y3), (4, .int y4), (5, .int y5)] 113 [] := by
  intro y1 y2 y3 y4 y5 M
  unfold fX8_heldByLess_L113
  refine zz_iincB (npc := 116) (y5 + 1) (lv1 := fun v10 => [(5, .int v10), (0, .ref (eA E 57)), (1, .int y1), (2, .int y2), (3, .int y3), (4, .int y4)]) dX8_heldByLess_113 rfl 5 rfl rfl (by decide) (fun _ => rfl) (fun v10 => ?_)
  refine zz_goto (npc := 0) (tgt := 26) dX8_heldByLess_116 (by decide) ?_
  refine zz_sub (npc := 0) (lv1 := [(0, .ref (eA E 57)), (1, .int y1), (2, .int y2), (3, .int y3), (4, .int y4), (5, .int v10)]) [1, 2, 3, 4, 5, 0] rfl ?_
  exact hk26 y1 y2 y3 y4 v10 M
noncomputable def fX8_heldByLess_L111  (k26 : Int32 → Int32 → Int32 → Int32 → Int32 → Mem → Option (Int32 × Mem)) (y1 : Int32) (y2 : Int32) (y4 : Int32) (y5 : Int32) (w0 : Int32) (w1 : Int32) (M : Mem) : Option (Int32 × Mem) := (bv (w1 ||| w0) fun v11 => (fX8_heldByLess_L113 k26 y1 y2 v11 y4 y5 M))
set_option maxHeartbeats 4000000 in
set_option maxRecDepth 100000 in
theorem zX8_heldByLess_L111 (E : EV) (l : Launch)   (k26 : Int32 → Int32 → Int32 → Int32 → Int32 → Mem → Option (Int32 × Mem)) (hk26 : ∀ (y1_ : Int32) (y2_ : Int32) (y3_ : Int32) (y4_ : Int32) (y5_ : Int32) (M_ : Mem), ZZ E l RX8 cX8_heldByLess 7 (some .int) wsX8_heldByLess rmX8_heldByLess vI (k26 y1_ y2_ y3_ y4_ y5_ M_) M_ [(0, .ref (eA E 57)), (1, .int y1_), (2, .int y2_), (3, .int y3_), (4, .int y4_), (5, .int y5_)] 26 []) : ∀ (y1 : Int32) (y2 : Int32) (y4 : Int32) (y5 : Int32) (w0 : Int32) (w1 : Int32) (M : Mem), ZZ E l RX8 cX8_heldByLess 7 (some .int) wsX8_heldByLess rmX8_heldByLess vI (fX8_heldByLess_L111 k26 y1 y2 y4 y5 w0 w1 M) M [(0, .ref (eA E 57)), (1, .int y1), (2, .int y2), (4, .int y4), (5, .int y5)] 111 [.int w0, .int w1] := by
  intro y1 y2 y4 y5 w0 w1 M
  unfold fX8_heldByLess_L111
  refine zz_ior (npc := 112) dX8_heldByLess_111 rfl ?_
  refine zz_istore_nB (npc := 113) (lv1 := fun v11 => [(3, .int v11), (0, .ref (eA E 57)), (1, .int y1), (2, .int y2), (4, .int y4), (5, .int y5)]) rfl dX8_heldByLess_112 rfl (by decide) (fun _ => rfl) (fun v11 => ?_)
  refine zz_sub (npc := 0) (lv1 := [(0, .ref (eA E 57)), (1, .int y1), (2, .int y2), (3, .int v11), (4, .int y4), (5, .int y5)]) [1, 2, 3, 0, 4, 5] rfl ?_
  exact zX8_heldByLess_L113 E l k26 hk26 y1 y2 v11 y4 y5 M
noncomputable def fX8_heldByLess_L95  (k26 : Int32 → Int32 → Int32 → Int32 → Int32 → Mem → Option (Int32 × Mem)) (y1 : Int32) (y2 : Int32) (y3 : Int32) (y5 : Int32) (y6 : Int32) (w0 : Int32) (M : Mem) : Option (Int32 × Mem) := (if y6 = 0 then (fX8_heldByLess_L111 k26 y1 y2 w0 y5 0 y3 M) else (fX8_heldByLess_L111 k26 y1 y2 w0 y5 (shl 1 y5) y3 M))
set_option maxHeartbeats 4000000 in
set_option maxRecDepth 100000 in
theorem zX8_heldByLess_L95 (E : EV) (l : Launch)   (k26 : Int32 → Int32 → Int32 → Int32 → Int32 → Mem → Option (Int32 × Mem)) (hk26 : ∀ (y1_ : Int32) (y2_ : Int32) (y3_ : Int32) (y4_ : Int32) (y5_ : Int32) (M_ : Mem), ZZ E l RX8 cX8_heldByLess 7 (some .int) wsX8_heldByLess rmX8_heldByLess vI (k26 y1_ y2_ y3_ y4_ y5_ M_) M_ [(0, .ref (eA E 57)), (1, .int y1_), (2, .int y2_), (3, .int y3_), (4, .int y4_), (5, .int y5_)] 26 []) : ∀ (y1 : Int32) (y2 : Int32) (y3 : Int32) (y5 : Int32) (y6 : Int32) (w0 : Int32) (M : Mem), ZZ E l RX8 cX8_heldByLess 7 (some .int) wsX8_heldByLess rmX8_heldByLess vI (fX8_heldByLess_L95 k26 y1 y2 y3 y5 y6 w0 M) M [(0, .ref (eA E 57)), (1, .int y1), (2, .int y2), (3, .int y3), (5, .int y5), (6, .int y6)] 95 [.int w0] := by
  intro y1 y2 y3 y5 y6 w0 M
  unfold fX8_heldByLess_L95
  refine zz_istore (npc := 97) (lv1 := [(4, .int w0), (0, .ref (eA E 57)), (1, .int y1), (2, .int y2), (3, .int y3), (5, .int y5), (6, .int y6)]) dX8_heldByLess_95 rfl (by decide) rfl ?_
  refine zz_iload_n (npc := 98) 4 rfl rfl dX8_heldByLess_97 rfl ?_
  refine zz_iload (npc := 100) 6 rfl dX8_heldByLess_98 rfl ?_
  refine zz_if_eq (tgt := 110) (npc := 103) dX8_heldByLess_100 (by decide) rfl ?_ ?_
  · refine zz_iconst (npc := 111) 0 (by decide) dX8_heldByLess_110 rfl ?_
    refine zz_sub (npc := 0) (lv1 := [(0, .ref (eA E 57)), (1, .int y1), (2, .int y2), (4, .int w0), (5, .int y5)]) [1, 2, 3, 0, 5] rfl ?_
    exact zX8_heldByLess_L111 E l k26 hk26 y1 y2 w0 y5 0 y3 M
  · refine zz_iconst (npc := 104) 1 (by decide) dX8_heldByLess_103 rfl ?_
    refine zz_iload (npc := 106) 5 rfl dX8_heldByLess_104 rfl ?_
    refine zz_ishl (npc := 107) dX8_heldByLess_106 rfl ?_
    refine zz_goto (npc := 0) (tgt := 111) dX8_heldByLess_107 (by decide) ?_
    refine zz_sub (npc := 0) (lv1 := [(0, .ref (eA E 57)), (1, .int y1), (2, .int y2), (4, .int w0), (5, .int y5)]) [1, 2, 3, 0, 5] rfl ?_
    exact zX8_heldByLess_L111 E l k26 hk26 y1 y2 w0 y5 (shl 1 y5) y3 M
noncomputable def fX8_heldByLess_L83  (k26 : Int32 → Int32 → Int32 → Int32 → Int32 → Mem → Option (Int32 × Mem)) (y1 : Int32) (y2 : Int32) (y3 : Int32) (y5 : Int32) (w0 : Int32) (M : Mem) : Option (Int32 × Mem) := (if w0 = 0 then (fX8_heldByLess_L95 k26 y1 y2 y3 y5 w0 2 M) else (fX8_heldByLess_L95 k26 y1 y2 y3 y5 w0 1 M))
set_option maxHeartbeats 4000000 in
set_option maxRecDepth 100000 in
theorem zX8_heldByLess_L83 (E : EV) (l : Launch)   (k26 : Int32 → Int32 → Int32 → Int32 → Int32 → Mem → Option (Int32 × Mem)) (hk26 : ∀ (y1_ : Int32) (y2_ : Int32) (y3_ : Int32) (y4_ : Int32) (y5_ : Int32) (M_ : Mem), ZZ E l RX8 cX8_heldByLess 7 (some .int) wsX8_heldByLess rmX8_heldByLess vI (k26 y1_ y2_ y3_ y4_ y5_ M_) M_ [(0, .ref (eA E 57)), (1, .int y1_), (2, .int y2_), (3, .int y3_), (4, .int y4_), (5, .int y5_)] 26 []) : ∀ (y1 : Int32) (y2 : Int32) (y3 : Int32) (y5 : Int32) (w0 : Int32) (M : Mem), ZZ E l RX8 cX8_heldByLess 7 (some .int) wsX8_heldByLess rmX8_heldByLess vI (fX8_heldByLess_L83 k26 y1 y2 y3 y5 w0 M) M [(0, .ref (eA E 57)), (1, .int y1), (2, .int y2), (3, .int y3), (5, .int y5)] 83 [.int w0] := by
  intro y1 y2 y3 y5 w0 M
  unfold fX8_heldByLess_L83
  refine zz_istore (npc := 85) (lv1 := [(6, .int w0), (0, .ref (eA E 57)), (1, .int y1), (2, .int y2), (3, .int y3), (5, .int y5)]) dX8_heldByLess_83 rfl (by decide) rfl ?_
  refine zz_iload (npc := 87) 0 rfl dX8_heldByLess_85 rfl ?_
  refine zz_if_eq (tgt := 94) (npc := 90) dX8_heldByLess_87 (by decide) rfl ?_ ?_
  · refine zz_iconst (npc := 95) 2 (by decide) dX8_heldByLess_94 rfl ?_
    refine zz_sub (npc := 0) (lv1 := [(0, .ref (eA E 57)), (1, .int y1), (2, .int y2), (3, .int y3), (5, .int y5), (6, .int w0)]) [1, 2, 3, 4, 5, 0] rfl ?_
    exact zX8_heldByLess_L95 E l k26 hk26 y1 y2 y3 y5 w0 2 M
  · refine zz_iconst (npc := 91) 1 (by decide) dX8_heldByLess_90 rfl ?_
    refine zz_goto (npc := 0) (tgt := 95) dX8_heldByLess_91 (by decide) ?_
    refine zz_sub (npc := 0) (lv1 := [(0, .ref (eA E 57)), (1, .int y1), (2, .int y2), (3, .int y3), (5, .int y5), (6, .int w0)]) [1, 2, 3, 4, 5, 0] rfl ?_
    exact zX8_heldByLess_L95 E l k26 hk26 y1 y2 y3 y5 w0 1 M
noncomputable def fX8_heldByLess_L82  (k26 : Int32 → Int32 → Int32 → Int32 → Int32 → Mem → Option (Int32 × Mem)) (y1 : Int32) (y2 : Int32) (y3 : Int32) (y5 : Int32) (M : Mem) : Option (Int32 × Mem) := (fX8_heldByLess_L83 k26 y1 y2 y3 y5 0 M)
set_option maxHeartbeats 4000000 in
set_option maxRecDepth 100000 in
theorem zX8_heldByLess_L82 (E : EV) (l : Launch)   (k26 : Int32 → Int32 → Int32 → Int32 → Int32 → Mem → Option (Int32 × Mem)) (hk26 : ∀ (y1_ : Int32) (y2_ : Int32) (y3_ : Int32) (y4_ : Int32) (y5_ : Int32) (M_ : Mem), ZZ E l RX8 cX8_heldByLess 7 (some .int) wsX8_heldByLess rmX8_heldByLess vI (k26 y1_ y2_ y3_ y4_ y5_ M_) M_ [(0, .ref (eA E 57)), (1, .int y1_), (2, .int y2_), (3, .int y3_), (4, .int y4_), (5, .int y5_)] 26 []) : ∀ (y1 : Int32) (y2 : Int32) (y3 : Int32) (y5 : Int32) (M : Mem), ZZ E l RX8 cX8_heldByLess 7 (some .int) wsX8_heldByLess rmX8_heldByLess vI (fX8_heldByLess_L82 k26 y1 y2 y3 y5 M) M [(0, .ref (eA E 57)), (1, .int y1), (2, .int y2), (3, .int y3), (5, .int y5)] 82 [] := by
  intro y1 y2 y3 y5 M
  unfold fX8_heldByLess_L82
  refine zz_iconst (npc := 83) 0 (by decide) dX8_heldByLess_82 rfl ?_
  exact zX8_heldByLess_L83 E l k26 hk26 y1 y2 y3 y5 0 M
noncomputable def fX8_heldByLess_L26   : Nat → Int32 → Int32 → Int32 → Int32 → Int32 → Mem → Option (Int32 × Mem)
  | 0, _, _, _, _, _, _ => none
  | n + 1, y1, y2, y3, y4, y5, M => (if 16 ≤ y5 then (some (y3, M)) else (bd (fX8_isLit y5 M) fun r5 M4 => (if r5 = 0 then (fX8_heldByLess_L113 (fX8_heldByLess_L26  n) y1 y2 y3 y4 y5 M4) else (bd (fX8_mayHave y1 y2 y5 1 M4) fun r7 M6 => (if r7 = 0 then (fX8_heldByLess_L82 (fX8_heldByLess_L26  n) y1 y2 y3 y5 M6) else (bd (fX8_changesWith y5 y4 1 M6) fun r9 M8 => (ck (inb ((3 * y5) + y4) 51) (if r9 = (M8 62 (ix ((3 * y5) + y4))) then (fX8_heldByLess_L83 (fX8_heldByLess_L26  n) y1 y2 y3 y5 1 M8) else (fX8_heldByLess_L82 (fX8_heldByLess_L26  n) y1 y2 y3 y5 M8)))))))))
set_option maxHeartbeats 4000000 in
set_option maxRecDepth 100000 in
theorem zX8_heldByLess_L26 (E : EV) (l : Launch)     : ∀ (n : Nat) (y1 : Int32) (y2 : Int32) (y3 : Int32) (y4 : Int32) (y5 : Int32) (M : Mem), ZZ E l RX8 cX8_heldByLess 7 (some .int) wsX8_heldByLess rmX8_heldByLess vI (fX8_heldByLess_L26 n y1 y2 y3 y4 y5 M) M [(0, .ref (eA E 57)), (1, .int y1), (2, .int y2), (3, .int y3), (4, .int y4), (5, .int y5)] 26 [] := by
  intro n
  induction n with
  | zero => intros; exact zz_none
  | succ n ih =>
    intro y1 y2 y3 y4 y5 M
    rw [fX8_heldByLess_L26]
    refine zz_iload (npc := 28) 5 rfl dX8_heldByLess_26 rfl ?_
    refine zz_bipush (npc := 30) 16 (by decide) dX8_heldByLess_28 rfl ?_
    refine zz_icmp_ge (tgt := 119) (npc := 33) dX8_heldByLess_30 (by decide) rfl ?_ ?_
    · refine zz_iload_n (npc := 120) 3 rfl rfl dX8_heldByLess_119 rfl ?_
      exact zz_iret dX8_heldByLess_120
    · refine zz_aload_n (npc := 34) 0 rfl rfl dX8_heldByLess_33 rfl ?_
      refine zz_iload (npc := 36) 5 rfl dX8_heldByLess_34 rfl ?_
      refine zz_callVi (npc := 39) (n := 1) (As := [.int y5]) (by decide) (by rfl) rfl gX8_heldByLess_X8_isLit rfl rfl rfl (by decide +kernel) ⟨Nat.le_of_ble_eq_true rfl, Nat.le_of_ble_eq_true rfl⟩ rfl rfl (Nat.le_of_ble_eq_true rfl) (mtX8_isLit E l  y5 M) dX8_heldByLess_36 rfl (fun r5 M4 _ => ?_)
      refine zz_if_eq (tgt := 113) (npc := 42) dX8_heldByLess_39 (by decide) rfl ?_ ?_
      · exact zX8_heldByLess_L113 E l (fX8_heldByLess_L26  n) ih y1 y2 y3 y4 y5 M4
      · refine zz_aload_n (npc := 43) 0 rfl rfl dX8_heldByLess_42 rfl ?_
        refine zz_iload_n (npc := 44) 1 rfl rfl dX8_heldByLess_43 rfl ?_
        refine zz_iload_n (npc := 45) 2 rfl rfl dX8_heldByLess_44 rfl ?_
        refine zz_iload (npc := 47) 5 rfl dX8_heldByLess_45 rfl ?_
        refine zz_iconst (npc := 48) 1 (by decide) dX8_heldByLess_47 rfl ?_
        refine zz_callVi (npc := 51) (n := 4) (As := [.int y1, .int y2, .int y5, .int 1]) (by decide) (by rfl) rfl gX8_heldByLess_X8_mayHave rfl rfl rfl (by decide +kernel) ⟨Nat.le_of_ble_eq_true rfl, Nat.le_of_ble_eq_true rfl⟩ rfl rfl (Nat.le_of_ble_eq_true rfl) (mtX8_mayHave E l  y1 y2 y5 1 M4) dX8_heldByLess_48 rfl (fun r7 M6 _ => ?_)
        refine zz_if_eq (tgt := 82) (npc := 54) dX8_heldByLess_51 (by decide) rfl ?_ ?_
        · refine zz_sub (npc := 0) (lv1 := [(0, .ref (eA E 57)), (1, .int y1), (2, .int y2), (3, .int y3), (5, .int y5)]) [0, 1, 2, 3, 5] rfl ?_
          exact zX8_heldByLess_L82 E l (fX8_heldByLess_L26  n) ih y1 y2 y3 y5 M6
        · refine zz_aload_n (npc := 55) 0 rfl rfl dX8_heldByLess_54 rfl ?_
          refine zz_iload (npc := 57) 5 rfl dX8_heldByLess_55 rfl ?_
          refine zz_iload (npc := 59) 4 rfl dX8_heldByLess_57 rfl ?_
          refine zz_iconst (npc := 60) 1 (by decide) dX8_heldByLess_59 rfl ?_
          refine zz_callVi (npc := 63) (n := 3) (As := [.int y5, .int y4, .int 1]) (by decide) (by rfl) rfl gX8_heldByLess_X8_changesWith rfl rfl rfl (by decide +kernel) ⟨Nat.le_of_ble_eq_true rfl, Nat.le_of_ble_eq_true rfl⟩ rfl rfl (Nat.le_of_ble_eq_true rfl) (mtX8_changesWith E l  y5 y4 1 M6) dX8_heldByLess_60 rfl (fun r9 M8 _ => ?_)
          refine zz_aload_n (npc := 64) 0 rfl rfl dX8_heldByLess_63 rfl ?_
          refine zz_getR (npc := 67) (i := 9) (C0 := RX8) (T := TX8) (N := 29) (by decide) (by rfl) rfl (by decide) iX8_heldByLess_8 (List.mem_of_getElem? (i := 2) rfl) rfl dX8_heldByLess_64 rfl ?_
          refine zz_iconst (npc := 68) 3 (by decide) dX8_heldByLess_67 rfl ?_
          refine zz_iload (npc := 70) 5 rfl dX8_heldByLess_68 rfl ?_
          refine zz_imul (npc := 71) dX8_heldByLess_70 rfl ?_
          refine zz_iload (npc := 73) 4 rfl dX8_heldByLess_71 rfl ?_
          refine zz_iadd (npc := 74) dX8_heldByLess_73 rfl ?_
          refine zz_iald (npc := 75) (by decide) (by rfl) dX8_heldByLess_74 rfl ?_
          refine zz_icmp_ne (tgt := 82) (npc := 78) dX8_heldByLess_75 (by decide) rfl ?_ ?_
          · refine zz_sub (npc := 0) (lv1 := [(0, .ref (eA E 57)), (1, .int y1), (2, .int y2), (3, .int y3), (5, .int y5)]) [0, 1, 2, 3, 5] rfl ?_
            exact zX8_heldByLess_L82 E l (fX8_heldByLess_L26  n) ih y1 y2 y3 y5 M8
          · refine zz_iconst (npc := 79) 1 (by decide) dX8_heldByLess_78 rfl ?_
            refine zz_goto (npc := 0) (tgt := 83) dX8_heldByLess_79 (by decide) ?_
            refine zz_sub (npc := 0) (lv1 := [(0, .ref (eA E 57)), (1, .int y1), (2, .int y2), (3, .int y3), (5, .int y5)]) [0, 1, 2, 3, 5] rfl ?_
            exact zX8_heldByLess_L83 E l (fX8_heldByLess_L26  n) ih y1 y2 y3 y5 1 M8
noncomputable def fX8_heldByLess_L14   (y1 : Int32) (y2 : Int32) (w0 : Int32) (M : Mem) : Option (Int32 × Mem) := (ck (inb 0 56) (bv (M 58 (ix 0)) fun v3 => (fX8_heldByLess_L26  fu y1 y2 w0 0 v3 M)))
set_option maxHeartbeats 4000000 in
set_option maxRecDepth 100000 in
theorem zX8_heldByLess_L14 (E : EV) (l : Launch)     : ∀ (y1 : Int32) (y2 : Int32) (w0 : Int32) (M : Mem), ZZ E l RX8 cX8_heldByLess 7 (some .int) wsX8_heldByLess rmX8_heldByLess vI (fX8_heldByLess_L14 y1 y2 w0 M) M [(0, .ref (eA E 57)), (1, .int y1), (2, .int y2)] 14 [.int w0] := by
  intro y1 y2 w0 M
  unfold fX8_heldByLess_L14
  refine zz_istore_n (npc := 15) (lv1 := [(3, .int w0), (0, .ref (eA E 57)), (1, .int y1), (2, .int y2)]) rfl dX8_heldByLess_14 rfl (by decide) rfl ?_
  refine zz_iconst (npc := 16) 0 (by decide) dX8_heldByLess_15 rfl ?_
  refine zz_istore (npc := 18) (lv1 := [(4, .int 0), (3, .int w0), (0, .ref (eA E 57)), (1, .int y1), (2, .int y2)]) dX8_heldByLess_16 rfl (by decide) rfl ?_
  refine zz_aload_n (npc := 19) 2 rfl rfl dX8_heldByLess_18 rfl ?_
  refine zz_getR (npc := 22) (i := 0) (C0 := RX8) (T := TX8) (N := 29) (by decide) (by rfl) rfl (by decide) iX8_heldByLess_8 (List.mem_of_getElem? (i := 1) rfl) rfl dX8_heldByLess_19 rfl ?_
  refine zz_iconst (npc := 23) 0 (by decide) dX8_heldByLess_22 rfl ?_
  refine zz_iald (npc := 24) (by decide) (by rfl) dX8_heldByLess_23 rfl ?_
  refine zz_istoreB (npc := 26) (lv1 := fun v3 => [(5, .int v3), (4, .int 0), (3, .int w0), (0, .ref (eA E 57)), (1, .int y1), (2, .int y2)]) dX8_heldByLess_24 rfl (by decide) (fun _ => rfl) (fun v3 => ?_)
  refine zz_sub (npc := 0) (lv1 := [(0, .ref (eA E 57)), (1, .int y1), (2, .int y2), (3, .int w0), (4, .int 0), (5, .int v3)]) [3, 4, 5, 2, 1, 0] rfl ?_
  exact zX8_heldByLess_L26 E l  fu y1 y2 w0 0 v3 M
noncomputable def fX8_heldByLess  (x1 : Int32) (x2 : Int32) (M : Mem) : Option (Int32 × Mem) := (bd (fX8_findAgreement x1 x2 M) fun r2 M1 => (if 0 ≤ r2 then (fX8_heldByLess_L14  x1 x2 0 M1) else (fX8_heldByLess_L14  x1 x2 (-1) M1)))
set_option maxHeartbeats 4000000 in
set_option maxRecDepth 100000 in
theorem mtX8_heldByLess (E : EV) (l : Launch)   (x1 : Int32) (x2 : Int32) (M : Mem) : CT E l yX8_heldByLess wsX8_heldByLess rmX8_heldByLess vI [.ref (eA E 57), .int x1, .int x2] (fX8_heldByLess x1 x2 M) M := by
  refine ct_of (cc := cX8_heldByLess) (nL := 7) (ret := (some .int)) (by decide +kernel) rfl (Nat.le_of_ble_eq_true rfl) ?_
  show ZZ E l RX8 cX8_heldByLess 7 (some .int) wsX8_heldByLess rmX8_heldByLess vI (fX8_heldByLess x1 x2 M) M [(0, .ref (eA E 57)), (1, .int x1), (2, .int x2)] 0 []
  unfold fX8_heldByLess
  refine zz_aload_n (npc := 1) 0 rfl rfl dX8_heldByLess_0 rfl ?_
  refine zz_iload_n (npc := 2) 1 rfl rfl dX8_heldByLess_1 rfl ?_
  refine zz_iload_n (npc := 3) 2 rfl rfl dX8_heldByLess_2 rfl ?_
  refine zz_callVi (npc := 6) (n := 2) (As := [.int x1, .int x2]) (by decide) (by rfl) rfl gX8_heldByLess_X8_findAgreement rfl rfl rfl (by decide +kernel) ⟨Nat.le_of_ble_eq_true rfl, Nat.le_of_ble_eq_true rfl⟩ rfl rfl (Nat.le_of_ble_eq_true rfl) (mtX8_findAgreement E l  x1 x2 M) dX8_heldByLess_3 rfl (fun r2 M1 _ => ?_)
  refine zz_if_ge (tgt := 13) (npc := 9) dX8_heldByLess_6 (by decide) rfl ?_ ?_
  · refine zz_iconst (npc := 14) 0 (by decide) dX8_heldByLess_13 rfl ?_
    exact zX8_heldByLess_L14 E l  x1 x2 0 M1
  · refine zz_iconst (npc := 10) (-1) (by decide) dX8_heldByLess_9 rfl ?_
    refine zz_goto (npc := 0) (tgt := 14) dX8_heldByLess_10 (by decide) ?_
    exact zX8_heldByLess_L14 E l  x1 x2 (-1) M1
abbrev rmX8_holder : Room := { frames := 5, cells := 0, slots := 0, locals := 121 }
theorem iX8_holder_8 : ∀ w ∈ u_ws RX8 TX8 29, w ∈ wsX8_holder := fun w h => List.mem_cons_of_mem _ (List.mem_append_right _ h)
noncomputable def fX8_holder_L19    (M : Mem) : Option (Int32 × Mem) := (bd (fX8_finding (-1000001) M) fun r14 M13 => (some (r14, M13)))
set_option maxHeartbeats 4000000 in
set_option maxRecDepth 100000 in
theorem zX8_holder_L19 (E : EV) (l : Launch)     : ∀  (M : Mem), ZZ E l RX8 cX8_holder 6 (some .int) wsX8_holder rmX8_holder vI (fX8_holder_L19 M) M [(0, .ref (eA E 57))] 19 [] := by
  intro M
  unfold fX8_holder_L19
  refine zz_aload_n (npc := 20) 0 rfl rfl dX8_holder_19 rfl ?_
  refine zz_ldc (npc := 22) (-1000001) (List.mem_of_getElem? (i := 1) rfl) dX8_holder_20 rfl ?_
  refine zz_callVi (npc := 25) (n := 1) (As := [.int (-1000001)]) (by decide) (by rfl) rfl gX8_holder_X8_finding rfl rfl rfl (by decide +kernel) ⟨Nat.le_of_ble_eq_true rfl, Nat.le_of_ble_eq_true rfl⟩ rfl rfl (Nat.le_of_ble_eq_true rfl) (mtX8_finding E l  (-1000001) M) dX8_holder_22 rfl (fun r14 M13 _ => ?_)
  exact zz_iret dX8_holder_25
noncomputable def fX8_holder_L44    (M : Mem) : Option (Int32 × Mem) := (bd (fX8_finding (-1000004) M) fun r16 M15 => (some (r16, M15)))
set_option maxHeartbeats 4000000 in
set_option maxRecDepth 100000 in
theorem zX8_holder_L44 (E : EV) (l : Launch)     : ∀  (M : Mem), ZZ E l RX8 cX8_holder 6 (some .int) wsX8_holder rmX8_holder vI (fX8_holder_L44 M) M [(0, .ref (eA E 57))] 44 [] := by
  intro M
  unfold fX8_holder_L44
  refine zz_aload_n (npc := 45) 0 rfl rfl dX8_holder_44 rfl ?_
  refine zz_ldc (npc := 47) (-1000004) (List.mem_of_getElem? (i := 3) rfl) dX8_holder_45 rfl ?_
  refine zz_callVi (npc := 50) (n := 1) (As := [.int (-1000004)]) (by decide) (by rfl) rfl gX8_holder_X8_finding rfl rfl rfl (by decide +kernel) ⟨Nat.le_of_ble_eq_true rfl, Nat.le_of_ble_eq_true rfl⟩ rfl rfl (Nat.le_of_ble_eq_true rfl) (mtX8_finding E l  (-1000004) M) dX8_holder_47 rfl (fun r16 M15 _ => ?_)
  exact zz_iret dX8_holder_50
noncomputable def fX8_holder  (x1 : Int32) (x2 : Int32) (x3 : Int32) (M : Mem) : Option (Int32 × Mem) := (bd (fX8_areTwo x1 x2 M) fun r2 M1 => (if r2 = 0 then (fX8_holder_L19  M1) else (bd (fX8_within x3 0 15 M1) fun r4 M3 => (if r4 = 0 then (fX8_holder_L19  M3) else (bd (fX8_isLit x3 M3) fun r6 M5 => (if r6 = 0 then (fX8_holder_L44  M5) else (ck (inb 0 56) (if (M5 58 (ix 0)) ≤ x3 then (bv (imin x1 x2) fun v7 => (bv (imax x1 x2) fun v8 => (bd (fX8_heldByLess v7 v8 M5) fun r10 M9 => (bd (fX8_has r10 x3 M9) fun r12 M11 => (if r12 = 0 then (some (v8, M11)) else (some (v7, M11))))))) else (fX8_holder_L44  M5)))))))))
set_option maxHeartbeats 4000000 in
set_option maxRecDepth 100000 in
theorem mtX8_holder (E : EV) (l : Launch)   (x1 : Int32) (x2 : Int32) (x3 : Int32) (M : Mem) : CT E l yX8_holder wsX8_holder rmX8_holder vI [.ref (eA E 57), .int x1, .int x2, .int x3] (fX8_holder x1 x2 x3 M) M := by
  refine ct_of (cc := cX8_holder) (nL := 6) (ret := (some .int)) (by decide +kernel) rfl (Nat.le_of_ble_eq_true rfl) ?_
  show ZZ E l RX8 cX8_holder 6 (some .int) wsX8_holder rmX8_holder vI (fX8_holder x1 x2 x3 M) M [(0, .ref (eA E 57)), (1, .int x1), (2, .int x2), (3, .int x3)] 0 []
  unfold fX8_holder
  refine zz_aload_n (npc := 1) 0 rfl rfl dX8_holder_0 rfl ?_
  refine zz_iload_n (npc := 2) 1 rfl rfl dX8_holder_1 rfl ?_
  refine zz_iload_n (npc := 3) 2 rfl rfl dX8_holder_2 rfl ?_
  refine zz_callVi (npc := 6) (n := 2) (As := [.int x1, .int x2]) (by decide) (by rfl) rfl gX8_holder_X8_areTwo rfl rfl rfl (by decide +kernel) ⟨Nat.le_of_ble_eq_true rfl, Nat.le_of_ble_eq_true rfl⟩ rfl rfl (Nat.le_of_ble_eq_true rfl) (mtX8_areTwo E l  x1 x2 M) dX8_holder_3 rfl (fun r2 M1 _ => ?_)
  refine zz_if_eq (tgt := 19) (npc := 9) dX8_holder_6 (by decide) rfl ?_ ?_
  · refine zz_sub (npc := 0) (lv1 := [(0, .ref (eA E 57))]) [0] rfl ?_
    exact zX8_holder_L19 E l  M1
  · refine zz_iload_n (npc := 10) 3 rfl rfl dX8_holder_9 rfl ?_
    refine zz_iconst (npc := 11) 0 (by decide) dX8_holder_10 rfl ?_
    refine zz_bipush (npc := 13) 15 (by decide) dX8_holder_11 rfl ?_
    refine zz_callSi (npc := 16) (n := 3) (As := [.int x3, .int 0, .int 15]) gX8_holder_X8_within rfl rfl rfl (by decide +kernel) ⟨Nat.le_of_ble_eq_true rfl, Nat.le_of_ble_eq_true rfl⟩ rfl rfl (Nat.le_of_ble_eq_true rfl) (mtX8_within E l  x3 0 15 M1) dX8_holder_13 rfl (fun r4 M3 _ => ?_)
    refine zz_if_ne (tgt := 26) (npc := 19) dX8_holder_16 (by decide) rfl ?_ ?_
    · refine zz_aload_n (npc := 27) 0 rfl rfl dX8_holder_26 rfl ?_
      refine zz_iload_n (npc := 28) 3 rfl rfl dX8_holder_27 rfl ?_
      refine zz_callVi (npc := 31) (n := 1) (As := [.int x3]) (by decide) (by rfl) rfl gX8_holder_X8_isLit rfl rfl rfl (by decide +kernel) ⟨Nat.le_of_ble_eq_true rfl, Nat.le_of_ble_eq_true rfl⟩ rfl rfl (Nat.le_of_ble_eq_true rfl) (mtX8_isLit E l  x3 M3) dX8_holder_28 rfl (fun r6 M5 _ => ?_)
      refine zz_if_eq (tgt := 44) (npc := 34) dX8_holder_31 (by decide) rfl ?_ ?_
      · refine zz_sub (npc := 0) (lv1 := [(0, .ref (eA E 57))]) [0] rfl ?_
        exact zX8_holder_L44 E l  M5
      · refine zz_iload_n (npc := 35) 3 rfl rfl dX8_holder_34 rfl ?_
        refine zz_aload_n (npc := 36) 0 rfl rfl dX8_holder_35 rfl ?_
        refine zz_getR (npc := 39) (i := 0) (C0 := RX8) (T := TX8) (N := 29) (by decide) (by rfl) rfl (by decide) iX8_holder_8 (List.mem_of_getElem? (i := 2) rfl) rfl dX8_holder_36 rfl ?_
        refine zz_iconst (npc := 40) 0 (by decide) dX8_holder_39 rfl ?_
        refine zz_iald (npc := 41) (by decide) (by rfl) dX8_holder_40 rfl ?_
        refine zz_icmp_ge (tgt := 51) (npc := 44) dX8_holder_41 (by decide) rfl ?_ ?_
        · refine zz_iload_n (npc := 52) 1 rfl rfl dX8_holder_51 rfl ?_
          refine zz_iload_n (npc := 53) 2 rfl rfl dX8_holder_52 rfl ?_
          refine zz_mmin (npc := 56) (List.mem_of_getElem? (i := 4) rfl) (List.mem_of_getElem? (i := 5) rfl) (List.mem_of_getElem? (i := 6) rfl) (List.mem_of_getElem? (i := 7) rfl) (Nat.le_of_ble_eq_true rfl) (Nat.le_of_ble_eq_true rfl) dX8_holder_53 rfl ?_
          refine zz_istoreB (npc := 58) (lv1 := fun v7 => [(4, .int v7), (0, .ref (eA E 57)), (1, .int x1), (2, .int x2), (3, .int x3)]) dX8_holder_56 rfl (by decide) (fun _ => rfl) (fun v7 => ?_)
          refine zz_iload_n (npc := 59) 2 rfl rfl dX8_holder_58 rfl ?_
          refine zz_iload_n (npc := 60) 3 rfl rfl dX8_holder_59 rfl ?_
          refine zz_mmax (npc := 63) (List.mem_of_getElem? (i := 8) rfl) (List.mem_of_getElem? (i := 9) rfl) (List.mem_of_getElem? (i := 6) rfl) (List.mem_of_getElem? (i := 10) rfl) (Nat.le_of_ble_eq_true rfl) (Nat.le_of_ble_eq_true rfl) dX8_holder_60 rfl ?_
          refine zz_istoreB (npc := 65) (lv1 := fun v8 => [(5, .int v8), (4, .int v7), (0, .ref (eA E 57)), (1, .int x1), (2, .int x2), (3, .int x3)]) dX8_holder_63 rfl (by decide) (fun _ => rfl) (fun v8 => ?_)
          refine zz_aload_n (npc := 66) 2 rfl rfl dX8_holder_65 rfl ?_
          refine zz_iload (npc := 68) 1 rfl dX8_holder_66 rfl ?_
          refine zz_iload (npc := 70) 0 rfl dX8_holder_68 rfl ?_
          refine zz_callVi (npc := 73) (n := 2) (As := [.int v7, .int v8]) (by decide) (by rfl) rfl gX8_holder_X8_heldByLess rfl rfl rfl (by decide +kernel) ⟨Nat.le_of_ble_eq_true rfl, Nat.le_of_ble_eq_true rfl⟩ rfl rfl (Nat.le_of_ble_eq_true rfl) (mtX8_heldByLess E l  v7 v8 M5) dX8_holder_70 rfl (fun r10 M9 _ => ?_)
          refine zz_iload_n (npc := 74) 5 rfl rfl dX8_holder_73 rfl ?_
          refine zz_callSi (npc := 77) (n := 2) (As := [.int r10, .int x3]) gX8_holder_X8_has rfl rfl rfl (by decide +kernel) ⟨Nat.le_of_ble_eq_true rfl, Nat.le_of_ble_eq_true rfl⟩ rfl rfl (Nat.le_of_ble_eq_true rfl) (mtX8_has E l  r10 x3 M9) dX8_holder_74 rfl (fun r12 M11 _ => ?_)
          refine zz_if_eq (tgt := 85) (npc := 80) dX8_holder_77 (by decide) rfl ?_ ?_
          · refine zz_iload (npc := 87) 0 rfl dX8_holder_85 rfl ?_
            exact zz_iret dX8_holder_87
          · refine zz_iload (npc := 82) 1 rfl dX8_holder_80 rfl ?_
            refine zz_goto (npc := 0) (tgt := 87) dX8_holder_82 (by decide) ?_
            exact zz_iret dX8_holder_87
        · refine zz_sub (npc := 0) (lv1 := [(0, .ref (eA E 57))]) [0] rfl ?_
          exact zX8_holder_L44 E l  M5
    · refine zz_sub (npc := 0) (lv1 := [(0, .ref (eA E 57))]) [0] rfl ?_
      exact zX8_holder_L19 E l  M3
abbrev rmX8_gain : Room := { frames := 8, cells := 0, slots := 0, locals := 187 }
theorem iX8_gain_8 : ∀ w ∈ u_ws RX8 TX8 29, w ∈ wsX8_gain := fun w h => List.mem_cons_of_mem _ (List.mem_append_right _ h)
noncomputable def fX8_gain  (x1 : Int32) (x2 : Int32) (M : Mem) : Option (Int32 × Mem) := (bd (fX8_areTwo x1 x2 M) fun r2 M1 => (if r2 = 0 then (bd (fX8_finding (-1000001) M1) fun r26 M25 => (some (r26, M25))) else (bd (fX8_personIs x1 4 M1) fun r4 M3 => (bd (fX8_personIs x2 4 M3) fun r6 M5 => (bd (fX8_at x1 4 M5) fun r8 M7 => (ck (inb r8 56) (wm (wr M7 58 (ix r8) x2) fun M9 => (bd (fX8_at x2 4 M9) fun r11 M10 => (ck (inb r11 56) (wm (wr M10 58 (ix r11) x1) fun M12 => (bd (fX8_findRest x1 M12) fun _ M13 => (bv (M13 57 7) fun v14 => (bd (fX8_findRest x2 M13) fun _ M15 => (bv (v14 + (M15 57 7)) fun v16 => (bd (fX8_at x1 4 M15) fun r18 M17 => (ck (inb r18 56) (wm (wr M17 58 (ix r18) r4) fun M19 => (bd (fX8_at x2 4 M19) fun r21 M20 => (ck (inb r21 56) (wm (wr M20 58 (ix r21) r6) fun M22 => (bd (fX8_meets x1 x2 M22) fun r24 M23 => (some (r24 - v16, M23)))))))))))))))))))))))
set_option maxHeartbeats 4000000 in
set_option maxRecDepth 100000 in
theorem mtX8_gain (E : EV) (l : Launch)   (x1 : Int32) (x2 : Int32) (M : Mem) : CT E l yX8_gain wsX8_gain rmX8_gain vI [.ref (eA E 57), .int x1, .int x2] (fX8_gain x1 x2 M) M := by
  refine ct_of (cc := cX8_gain) (nL := 6) (ret := (some .int)) (by decide +kernel) rfl (Nat.le_of_ble_eq_true rfl) ?_
  show ZZ E l RX8 cX8_gain 6 (some .int) wsX8_gain rmX8_gain vI (fX8_gain x1 x2 M) M [(0, .ref (eA E 57)), (1, .int x1), (2, .int x2)] 0 []
  unfold fX8_gain
  refine zz_aload_n (npc := 1) 0 rfl rfl dX8_gain_0 rfl ?_
  refine zz_iload_n (npc := 2) 1 rfl rfl dX8_gain_1 rfl ?_
  refine zz_iload_n (npc := 3) 2 rfl rfl dX8_gain_2 rfl ?_
  refine zz_callVi (npc := 6) (n := 2) (As := [.int x1, .int x2]) (by decide) (by rfl) rfl gX8_gain_X8_areTwo rfl rfl rfl (by decide +kernel) ⟨Nat.le_of_ble_eq_true rfl, Nat.le_of_ble_eq_true rfl⟩ rfl rfl (Nat.le_of_ble_eq_true rfl) (mtX8_areTwo E l  x1 x2 M) dX8_gain_3 rfl (fun r2 M1 _ => ?_)
  refine zz_if_ne (tgt := 16) (npc := 9) dX8_gain_6 (by decide) rfl ?_ ?_
  · refine zz_aload_n (npc := 17) 0 rfl rfl dX8_gain_16 rfl ?_
    refine zz_iload_n (npc := 18) 1 rfl rfl dX8_gain_17 rfl ?_
    refine zz_iconst (npc := 19) 4 (by decide) dX8_gain_18 rfl ?_
    refine zz_callVi (npc := 22) (n := 2) (As := [.int x1, .int 4]) (by decide) (by rfl) rfl gX8_gain_X8_personIs rfl rfl rfl (by decide +kernel) ⟨Nat.le_of_ble_eq_true rfl, Nat.le_of_ble_eq_true rfl⟩ rfl rfl (Nat.le_of_ble_eq_true rfl) (mtX8_personIs E l  x1 4 M1) dX8_gain_19 rfl (fun r4 M3 _ => ?_)
    refine zz_istore_n (npc := 23) (lv1 := [(3, .int r4), (0, .ref (eA E 57)), (1, .int x1), (2, .int x2)]) rfl dX8_gain_22 rfl (by decide) rfl ?_
    refine zz_aload_n (npc := 24) 1 rfl rfl dX8_gain_23 rfl ?_
    refine zz_iload_n (npc := 25) 3 rfl rfl dX8_gain_24 rfl ?_
    refine zz_iconst (npc := 26) 4 (by decide) dX8_gain_25 rfl ?_
    refine zz_callVi (npc := 29) (n := 2) (As := [.int x2, .int 4]) (by decide) (by rfl) rfl gX8_gain_X8_personIs rfl rfl rfl (by decide +kernel) ⟨Nat.le_of_ble_eq_true rfl, Nat.le_of_ble_eq_true rfl⟩ rfl rfl (Nat.le_of_ble_eq_true rfl) (mtX8_personIs E l  x2 4 M3) dX8_gain_26 rfl (fun r6 M5 _ => ?_)
    refine zz_istore (npc := 31) (lv1 := [(4, .int r6), (3, .int r4), (0, .ref (eA E 57)), (1, .int x1), (2, .int x2)]) dX8_gain_29 rfl (by decide) rfl ?_
    refine zz_aload_n (npc := 32) 2 rfl rfl dX8_gain_31 rfl ?_
    refine zz_getR (npc := 35) (i := 0) (C0 := RX8) (T := TX8) (N := 29) (by decide) (by rfl) rfl (by decide) iX8_gain_8 (List.mem_of_getElem? (i := 2) rfl) rfl dX8_gain_32 rfl ?_
    refine zz_iload_n (npc := 36) 3 rfl rfl dX8_gain_35 rfl ?_
    refine zz_iconst (npc := 37) 4 (by decide) dX8_gain_36 rfl ?_
    refine zz_callSi (npc := 40) (n := 2) (As := [.int x1, .int 4]) gX8_gain_X8_at rfl rfl rfl (by decide +kernel) ⟨Nat.le_of_ble_eq_true rfl, Nat.le_of_ble_eq_true rfl⟩ rfl rfl (Nat.le_of_ble_eq_true rfl) (mtX8_at E l  x1 4 M5) dX8_gain_37 rfl (fun r8 M7 _ => ?_)
    refine zz_iload_n (npc := 41) 4 rfl rfl dX8_gain_40 rfl ?_
    refine zz_iast (npc := 42) (by decide) (by rfl) dX8_gain_41 rfl (fun M9 => ?_)
    refine zz_aload_n (npc := 43) 2 rfl rfl dX8_gain_42 rfl ?_
    refine zz_getR (npc := 46) (i := 0) (C0 := RX8) (T := TX8) (N := 29) (by decide) (by rfl) rfl (by decide) iX8_gain_8 (List.mem_of_getElem? (i := 2) rfl) rfl dX8_gain_43 rfl ?_
    refine zz_iload_n (npc := 47) 4 rfl rfl dX8_gain_46 rfl ?_
    refine zz_iconst (npc := 48) 4 (by decide) dX8_gain_47 rfl ?_
    refine zz_callSi (npc := 51) (n := 2) (As := [.int x2, .int 4]) gX8_gain_X8_at rfl rfl rfl (by decide +kernel) ⟨Nat.le_of_ble_eq_true rfl, Nat.le_of_ble_eq_true rfl⟩ rfl rfl (Nat.le_of_ble_eq_true rfl) (mtX8_at E l  x2 4 M9) dX8_gain_48 rfl (fun r11 M10 _ => ?_)
    refine zz_iload_n (npc := 52) 3 rfl rfl dX8_gain_51 rfl ?_
    refine zz_iast (npc := 53) (by decide) (by rfl) dX8_gain_52 rfl (fun M12 => ?_)
    refine zz_aload_n (npc := 54) 2 rfl rfl dX8_gain_53 rfl ?_
    refine zz_iload_n (npc := 55) 3 rfl rfl dX8_gain_54 rfl ?_
    refine zz_callVv (npc := 58) (n := 1) (As := [.int x1]) (by decide) (by rfl) rfl gX8_gain_X8_findRest rfl rfl rfl (by decide +kernel) ⟨Nat.le_of_ble_eq_true rfl, Nat.le_of_ble_eq_true rfl⟩ rfl rfl (Nat.le_of_ble_eq_true rfl) (mtX8_findRest E l  x1 M12) dX8_gain_55 rfl (fun _ M13 _ => ?_)
    refine zz_aload_n (npc := 59) 2 rfl rfl dX8_gain_58 rfl ?_
    refine zz_getI (npc := 62) (i := 7) (C0 := RX8) (T := TX8) (N := 29) (by decide) (by rfl) rfl (by decide) iX8_gain_8 (List.mem_of_getElem? (i := 3) rfl) rfl dX8_gain_59 rfl ?_
    refine zz_istoreB (npc := 64) (lv1 := fun v14 => [(5, .int v14), (4, .int r6), (3, .int r4), (0, .ref (eA E 57)), (1, .int x1), (2, .int x2)]) dX8_gain_62 rfl (by decide) (fun _ => rfl) (fun v14 => ?_)
    refine zz_aload_n (npc := 65) 3 rfl rfl dX8_gain_64 rfl ?_
    refine zz_iload_n (npc := 66) 5 rfl rfl dX8_gain_65 rfl ?_
    refine zz_callVv (npc := 69) (n := 1) (As := [.int x2]) (by decide) (by rfl) rfl gX8_gain_X8_findRest rfl rfl rfl (by decide +kernel) ⟨Nat.le_of_ble_eq_true rfl, Nat.le_of_ble_eq_true rfl⟩ rfl rfl (Nat.le_of_ble_eq_true rfl) (mtX8_findRest E l  x2 M13) dX8_gain_66 rfl (fun _ M15 _ => ?_)
    refine zz_iload (npc := 71) 0 rfl dX8_gain_69 rfl ?_
    refine zz_aload_n (npc := 72) 3 rfl rfl dX8_gain_71 rfl ?_
    refine zz_getI (npc := 75) (i := 7) (C0 := RX8) (T := TX8) (N := 29) (by decide) (by rfl) rfl (by decide) iX8_gain_8 (List.mem_of_getElem? (i := 3) rfl) rfl dX8_gain_72 rfl ?_
    refine zz_iadd (npc := 76) dX8_gain_75 rfl ?_
    refine zz_istoreB (npc := 78) (lv1 := fun v16 => [(5, .int v16), (4, .int r6), (3, .int r4), (0, .ref (eA E 57)), (1, .int x1), (2, .int x2)]) dX8_gain_76 rfl (by decide) (fun _ => rfl) (fun v16 => ?_)
    refine zz_aload_n (npc := 79) 3 rfl rfl dX8_gain_78 rfl ?_
    refine zz_getR (npc := 82) (i := 0) (C0 := RX8) (T := TX8) (N := 29) (by decide) (by rfl) rfl (by decide) iX8_gain_8 (List.mem_of_getElem? (i := 2) rfl) rfl dX8_gain_79 rfl ?_
    refine zz_iload_n (npc := 83) 4 rfl rfl dX8_gain_82 rfl ?_
    refine zz_iconst (npc := 84) 4 (by decide) dX8_gain_83 rfl ?_
    refine zz_callSi (npc := 87) (n := 2) (As := [.int x1, .int 4]) gX8_gain_X8_at rfl rfl rfl (by decide +kernel) ⟨Nat.le_of_ble_eq_true rfl, Nat.le_of_ble_eq_true rfl⟩ rfl rfl (Nat.le_of_ble_eq_true rfl) (mtX8_at E l  x1 4 M15) dX8_gain_84 rfl (fun r18 M17 _ => ?_)
    refine zz_iload_n (npc := 88) 2 rfl rfl dX8_gain_87 rfl ?_
    refine zz_iast (npc := 89) (by decide) (by rfl) dX8_gain_88 rfl (fun M19 => ?_)
    refine zz_aload_n (npc := 90) 3 rfl rfl dX8_gain_89 rfl ?_
    refine zz_getR (npc := 93) (i := 0) (C0 := RX8) (T := TX8) (N := 29) (by decide) (by rfl) rfl (by decide) iX8_gain_8 (List.mem_of_getElem? (i := 2) rfl) rfl dX8_gain_90 rfl ?_
    refine zz_iload_n (npc := 94) 5 rfl rfl dX8_gain_93 rfl ?_
    refine zz_iconst (npc := 95) 4 (by decide) dX8_gain_94 rfl ?_
    refine zz_callSi (npc := 98) (n := 2) (As := [.int x2, .int 4]) gX8_gain_X8_at rfl rfl rfl (by decide +kernel) ⟨Nat.le_of_ble_eq_true rfl, Nat.le_of_ble_eq_true rfl⟩ rfl rfl (Nat.le_of_ble_eq_true rfl) (mtX8_at E l  x2 4 M19) dX8_gain_95 rfl (fun r21 M20 _ => ?_)
    refine zz_iload (npc := 100) 1 rfl dX8_gain_98 rfl ?_
    refine zz_iast (npc := 101) (by decide) (by rfl) dX8_gain_100 rfl (fun M22 => ?_)
    refine zz_aload_n (npc := 102) 3 rfl rfl dX8_gain_101 rfl ?_
    refine zz_iload_n (npc := 103) 4 rfl rfl dX8_gain_102 rfl ?_
    refine zz_iload_n (npc := 104) 5 rfl rfl dX8_gain_103 rfl ?_
    refine zz_callVi (npc := 107) (n := 2) (As := [.int x1, .int x2]) (by decide) (by rfl) rfl gX8_gain_X8_meets rfl rfl rfl (by decide +kernel) ⟨Nat.le_of_ble_eq_true rfl, Nat.le_of_ble_eq_true rfl⟩ rfl rfl (Nat.le_of_ble_eq_true rfl) (mtX8_meets E l  x1 x2 M22) dX8_gain_104 rfl (fun r24 M23 _ => ?_)
    refine zz_iload (npc := 109) 0 rfl dX8_gain_107 rfl ?_
    refine zz_isub (npc := 110) dX8_gain_109 rfl ?_
    exact zz_iret dX8_gain_110
  · refine zz_aload_n (npc := 10) 0 rfl rfl dX8_gain_9 rfl ?_
    refine zz_ldc (npc := 12) (-1000001) (List.mem_of_getElem? (i := 1) rfl) dX8_gain_10 rfl ?_
    refine zz_callVi (npc := 15) (n := 1) (As := [.int (-1000001)]) (by decide) (by rfl) rfl gX8_gain_X8_finding rfl rfl rfl (by decide +kernel) ⟨Nat.le_of_ble_eq_true rfl, Nat.le_of_ble_eq_true rfl⟩ rfl rfl (Nat.le_of_ble_eq_true rfl) (mtX8_finding E l  (-1000001) M1) dX8_gain_12 rfl (fun r26 M25 _ => ?_)
    exact zz_iret dX8_gain_15
abbrev rmX8_lowest : Room := { frames := 1, cells := 0, slots := 0, locals := 21 }
noncomputable def fX8_lowest_L2   : Nat → Int32 → Int32 → Mem → Option (Int32 × Mem)
  | 0, _, _, _ => none
  | n + 1, y0, y1, M => (bd (fX8_has y0 y1 M) fun r2 M1 => (if r2 = 0 then (bv (y1 + 1) fun v3 => (fX8_lowest_L2  n y0 v3 M1)) else (some (y1, M1))))
set_option maxHeartbeats 4000000 in
set_option maxRecDepth 100000 in
theorem zX8_lowest_L2 (E : EV) (l : Launch)     : ∀ (n : Nat) (y0 : Int32) (y1 : Int32) (M : Mem), ZZ E l RX8 cX8_lowest 2 (some .int) wsX8_lowest rmX8_lowest vI (fX8_lowest_L2 n y0 y1 M) M [(0, .int y0), (1, .int y1)] 2 [] := by
  intro n
  induction n with
  | zero => intros; exact zz_none
  | succ n ih =>
    intro y0 y1 M
    rw [fX8_lowest_L2]
    refine zz_iload_n (npc := 3) 0 rfl rfl dX8_lowest_2 rfl ?_
    refine zz_iload_n (npc := 4) 1 rfl rfl dX8_lowest_3 rfl ?_
    refine zz_callSi (npc := 7) (n := 2) (As := [.int y0, .int y1]) gX8_lowest_X8_has rfl rfl rfl (by decide +kernel) ⟨Nat.le_of_ble_eq_true rfl, Nat.le_of_ble_eq_true rfl⟩ rfl rfl (Nat.le_of_ble_eq_true rfl) (mtX8_has E l  y0 y1 M) dX8_lowest_4 rfl (fun r2 M1 _ => ?_)
    refine zz_if_ne (tgt := 16) (npc := 10) dX8_lowest_7 (by decide) rfl ?_ ?_
    · refine zz_iload_n (npc := 17) 1 rfl rfl dX8_lowest_16 rfl ?_
      exact zz_iret dX8_lowest_17
    · refine zz_iincB (npc := 13) (y1 + 1) (lv1 := fun v3 => [(1, .int v3), (0, .int y0)]) dX8_lowest_10 rfl 1 rfl rfl (by decide) (fun _ => rfl) (fun v3 => ?_)
      refine zz_goto (npc := 0) (tgt := 2) dX8_lowest_13 (by decide) ?_
      refine zz_sub (npc := 0) (lv1 := [(0, .int y0), (1, .int v3)]) [1, 0] rfl ?_
      exact ih y0 v3 M1
noncomputable def fX8_lowest  (x1 : Int32) (M : Mem) : Option (Int32 × Mem) := (fX8_lowest_L2  fu x1 0 M)
set_option maxHeartbeats 4000000 in
set_option maxRecDepth 100000 in
theorem mtX8_lowest (E : EV) (l : Launch)   (x1 : Int32) (M : Mem) : CT E l yX8_lowest wsX8_lowest rmX8_lowest vI [.int x1] (fX8_lowest x1 M) M := by
  refine ct_of (cc := cX8_lowest) (nL := 2) (ret := (some .int)) (by decide +kernel) rfl (Nat.le_of_ble_eq_true rfl) ?_
  show ZZ E l RX8 cX8_lowest 2 (some .int) wsX8_lowest rmX8_lowest vI (fX8_lowest x1 M) M [(0, .int x1)] 0 []
  unfold fX8_lowest
  refine zz_iconst (npc := 1) 0 (by decide) dX8_lowest_0 rfl ?_
  refine zz_istore_n (npc := 2) (lv1 := [(1, .int 0), (0, .int x1)]) rfl dX8_lowest_1 rfl (by decide) rfl ?_
  refine zz_sub (npc := 0) (lv1 := [(0, .int x1), (1, .int 0)]) [1, 0] rfl ?_
  exact zX8_lowest_L2 E l  fu x1 0 M
abbrev rmX8_mostWith : Room := { frames := 4, cells := 0, slots := 0, locals := 89 }
theorem iX8_mostWith_8 : ∀ w ∈ u_ws RX8 TX8 29, w ∈ wsX8_mostWith := fun w h => List.mem_cons_of_mem _ (List.mem_append_right _ h)
noncomputable def fX8_mostWith  (x1 : Int32) (x2 : Int32) (M : Mem) : Option (Int32 × Mem) := (bd (fX8_lowest x1 M) fun r2 M1 => (if x2 = r2 then (bd (fX8_restHours M1) fun r6 M5 => (bd (fX8_needsIn r2 r6 M5) fun r8 M7 => (ck (inb (x1 &&& ((shl 1 r2) ^^^ (-1))) 256) (some (r8 + (M7 63 (ix (x1 &&& ((shl 1 r2) ^^^ (-1))))), M7))))) else (bd (fX8_meets r2 x2 M1) fun r4 M3 => (ck (inb ((x1 &&& ((shl 1 r2) ^^^ (-1))) &&& ((shl 1 x2) ^^^ (-1))) 256) (some (r4 + (M3 63 (ix ((x1 &&& ((shl 1 r2) ^^^ (-1))) &&& ((shl 1 x2) ^^^ (-1))))), M3))))))
set_option maxHeartbeats 4000000 in
set_option maxRecDepth 100000 in
theorem mtX8_mostWith (E : EV) (l : Launch)   (x1 : Int32) (x2 : Int32) (M : Mem) : CT E l yX8_mostWith wsX8_mostWith rmX8_mostWith vI [.ref (eA E 57), .int x1, .int x2] (fX8_mostWith x1 x2 M) M := by
  refine ct_of (cc := cX8_mostWith) (nL := 4) (ret := (some .int)) (by decide +kernel) rfl (Nat.le_of_ble_eq_true rfl) ?_
  show ZZ E l RX8 cX8_mostWith 4 (some .int) wsX8_mostWith rmX8_mostWith vI (fX8_mostWith x1 x2 M) M [(0, .ref (eA E 57)), (1, .int x1), (2, .int x2)] 0 []
  unfold fX8_mostWith
  refine zz_iload_n (npc := 1) 1 rfl rfl dX8_mostWith_0 rfl ?_
  refine zz_callSi (npc := 4) (n := 1) (As := [.int x1]) gX8_mostWith_X8_lowest rfl rfl rfl (by decide +kernel) ⟨Nat.le_of_ble_eq_true rfl, Nat.le_of_ble_eq_true rfl⟩ rfl rfl (Nat.le_of_ble_eq_true rfl) (mtX8_lowest E l  x1 M) dX8_mostWith_1 rfl (fun r2 M1 _ => ?_)
  refine zz_istore_n (npc := 5) (lv1 := [(3, .int r2), (0, .ref (eA E 57)), (1, .int x1), (2, .int x2)]) rfl dX8_mostWith_4 rfl (by decide) rfl ?_
  refine zz_iload_n (npc := 6) 3 rfl rfl dX8_mostWith_5 rfl ?_
  refine zz_iload_n (npc := 7) 0 rfl rfl dX8_mostWith_6 rfl ?_
  refine zz_icmp_ne (tgt := 35) (npc := 10) dX8_mostWith_7 (by decide) rfl ?_ ?_
  · refine zz_aload_n (npc := 36) 1 rfl rfl dX8_mostWith_35 rfl ?_
    refine zz_iload_n (npc := 37) 0 rfl rfl dX8_mostWith_36 rfl ?_
    refine zz_iload_n (npc := 38) 3 rfl rfl dX8_mostWith_37 rfl ?_
    refine zz_callVi (npc := 41) (n := 2) (As := [.int r2, .int x2]) (by decide) (by rfl) rfl gX8_mostWith_X8_meets rfl rfl rfl (by decide +kernel) ⟨Nat.le_of_ble_eq_true rfl, Nat.le_of_ble_eq_true rfl⟩ rfl rfl (Nat.le_of_ble_eq_true rfl) (mtX8_meets E l  r2 x2 M1) dX8_mostWith_38 rfl (fun r4 M3 _ => ?_)
    refine zz_aload_n (npc := 42) 1 rfl rfl dX8_mostWith_41 rfl ?_
    refine zz_getR (npc := 45) (i := 10) (C0 := RX8) (T := TX8) (N := 29) (by decide) (by rfl) rfl (by decide) iX8_mostWith_8 (List.mem_of_getElem? (i := 1) rfl) rfl dX8_mostWith_42 rfl ?_
    refine zz_iload_n (npc := 46) 2 rfl rfl dX8_mostWith_45 rfl ?_
    refine zz_iconst (npc := 47) 1 (by decide) dX8_mostWith_46 rfl ?_
    refine zz_iload_n (npc := 48) 0 rfl rfl dX8_mostWith_47 rfl ?_
    refine zz_ishl (npc := 49) dX8_mostWith_48 rfl ?_
    refine zz_iconst (npc := 50) (-1) (by decide) dX8_mostWith_49 rfl ?_
    refine zz_ixor (npc := 51) dX8_mostWith_50 rfl ?_
    refine zz_iand (npc := 52) dX8_mostWith_51 rfl ?_
    refine zz_iconst (npc := 53) 1 (by decide) dX8_mostWith_52 rfl ?_
    refine zz_iload_n (npc := 54) 3 rfl rfl dX8_mostWith_53 rfl ?_
    refine zz_ishl (npc := 55) dX8_mostWith_54 rfl ?_
    refine zz_iconst (npc := 56) (-1) (by decide) dX8_mostWith_55 rfl ?_
    refine zz_ixor (npc := 57) dX8_mostWith_56 rfl ?_
    refine zz_iand (npc := 58) dX8_mostWith_57 rfl ?_
    refine zz_iald (npc := 59) (by decide) (by rfl) dX8_mostWith_58 rfl ?_
    refine zz_iadd (npc := 60) dX8_mostWith_59 rfl ?_
    exact zz_iret dX8_mostWith_60
  · refine zz_aload_n (npc := 11) 1 rfl rfl dX8_mostWith_10 rfl ?_
    refine zz_iload_n (npc := 12) 0 rfl rfl dX8_mostWith_11 rfl ?_
    refine zz_aload_n (npc := 13) 1 rfl rfl dX8_mostWith_12 rfl ?_
    refine zz_callVi (npc := 16) (n := 0) (As := []) (by decide) (by rfl) rfl gX8_mostWith_X8_restHours rfl rfl rfl (by decide +kernel) ⟨Nat.le_of_ble_eq_true rfl, Nat.le_of_ble_eq_true rfl⟩ rfl rfl (Nat.le_of_ble_eq_true rfl) (mtX8_restHours E l   M1) dX8_mostWith_13 rfl (fun r6 M5 _ => ?_)
    refine zz_callVi (npc := 19) (n := 2) (As := [.int r2, .int r6]) (by decide) (by rfl) rfl gX8_mostWith_X8_needsIn rfl rfl rfl (by decide +kernel) ⟨Nat.le_of_ble_eq_true rfl, Nat.le_of_ble_eq_true rfl⟩ rfl rfl (Nat.le_of_ble_eq_true rfl) (mtX8_needsIn E l  r2 r6 M5) dX8_mostWith_16 rfl (fun r8 M7 _ => ?_)
    refine zz_aload_n (npc := 20) 1 rfl rfl dX8_mostWith_19 rfl ?_
    refine zz_getR (npc := 23) (i := 10) (C0 := RX8) (T := TX8) (N := 29) (by decide) (by rfl) rfl (by decide) iX8_mostWith_8 (List.mem_of_getElem? (i := 1) rfl) rfl dX8_mostWith_20 rfl ?_
    refine zz_iload_n (npc := 24) 2 rfl rfl dX8_mostWith_23 rfl ?_
    refine zz_iconst (npc := 25) 1 (by decide) dX8_mostWith_24 rfl ?_
    refine zz_iload_n (npc := 26) 0 rfl rfl dX8_mostWith_25 rfl ?_
    refine zz_ishl (npc := 27) dX8_mostWith_26 rfl ?_
    refine zz_iconst (npc := 28) (-1) (by decide) dX8_mostWith_27 rfl ?_
    refine zz_ixor (npc := 29) dX8_mostWith_28 rfl ?_
    refine zz_iand (npc := 30) dX8_mostWith_29 rfl ?_
    refine zz_iald (npc := 31) (by decide) (by rfl) dX8_mostWith_30 rfl ?_
    refine zz_iadd (npc := 32) dX8_mostWith_31 rfl ?_
    refine zz_goto (npc := 0) (tgt := 60) dX8_mostWith_32 (by decide) ?_
    exact zz_iret dX8_mostWith_60
abbrev rmX8_mayBe : Room := { frames := 2, cells := 0, slots := 0, locals := 42 }
noncomputable def fX8_mayBe  (x1 : Int32) (x2 : Int32) (M : Mem) : Option (Int32 × Mem) := (bd (fX8_has x1 x2 M) fun r2 M1 => (if r2 = 0 then (ck (isb 0) (some (0, M1))) else (bd (fX8_lowest x1 M1) fun r4 M3 => (if x2 = r4 then (bd (fX8_bits x1 M3) fun r6 M5 => (if (irm r6 2) = 1 then (ck (isb 1) (some (1, M5))) else (ck (isb 0) (some (0, M5))))) else (ck (isb 1) (some (1, M3)))))))
set_option maxHeartbeats 4000000 in
set_option maxRecDepth 100000 in
theorem mtX8_mayBe (E : EV) (l : Launch)   (x1 : Int32) (x2 : Int32) (M : Mem) : CT E l yX8_mayBe wsX8_mayBe rmX8_mayBe vI [.ref (eA E 57), .int x1, .int x2] (fX8_mayBe x1 x2 M) M := by
  refine ct_of (cc := cX8_mayBe) (nL := 3) (ret := (some .boolean)) (by decide +kernel) rfl (Nat.le_of_ble_eq_true rfl) ?_
  show ZZ E l RX8 cX8_mayBe 3 (some .boolean) wsX8_mayBe rmX8_mayBe vI (fX8_mayBe x1 x2 M) M [(0, .ref (eA E 57)), (1, .int x1), (2, .int x2)] 0 []
  unfold fX8_mayBe
  refine zz_iload_n (npc := 1) 1 rfl rfl dX8_mayBe_0 rfl ?_
  refine zz_iload_n (npc := 2) 2 rfl rfl dX8_mayBe_1 rfl ?_
  refine zz_callSi (npc := 5) (n := 2) (As := [.int x1, .int x2]) gX8_mayBe_X8_has rfl rfl rfl (by decide +kernel) ⟨Nat.le_of_ble_eq_true rfl, Nat.le_of_ble_eq_true rfl⟩ rfl rfl (Nat.le_of_ble_eq_true rfl) (mtX8_has E l  x1 x2 M) dX8_mayBe_2 rfl (fun r2 M1 _ => ?_)
  refine zz_if_eq (tgt := 30) (npc := 8) dX8_mayBe_5 (by decide) rfl ?_ ?_
  · refine zz_iconst (npc := 31) 0 (by decide) dX8_mayBe_30 rfl ?_
    exact zz_zret dX8_mayBe_31
  · refine zz_iload_n (npc := 9) 2 rfl rfl dX8_mayBe_8 rfl ?_
    refine zz_iload_n (npc := 10) 1 rfl rfl dX8_mayBe_9 rfl ?_
    refine zz_callSi (npc := 13) (n := 1) (As := [.int x1]) gX8_mayBe_X8_lowest rfl rfl rfl (by decide +kernel) ⟨Nat.le_of_ble_eq_true rfl, Nat.le_of_ble_eq_true rfl⟩ rfl rfl (Nat.le_of_ble_eq_true rfl) (mtX8_lowest E l  x1 M1) dX8_mayBe_10 rfl (fun r4 M3 _ => ?_)
    refine zz_icmp_ne (tgt := 26) (npc := 16) dX8_mayBe_13 (by decide) rfl ?_ ?_
    · refine zz_iconst (npc := 27) 1 (by decide) dX8_mayBe_26 rfl ?_
      refine zz_goto (npc := 0) (tgt := 31) dX8_mayBe_27 (by decide) ?_
      exact zz_zret dX8_mayBe_31
    · refine zz_iload_n (npc := 17) 1 rfl rfl dX8_mayBe_16 rfl ?_
      refine zz_callSi (npc := 20) (n := 1) (As := [.int x1]) gX8_mayBe_X8_bits rfl rfl rfl (by decide +kernel) ⟨Nat.le_of_ble_eq_true rfl, Nat.le_of_ble_eq_true rfl⟩ rfl rfl (Nat.le_of_ble_eq_true rfl) (mtX8_bits E l  x1 M3) dX8_mayBe_17 rfl (fun r6 M5 _ => ?_)
      refine zz_iconst (npc := 21) 2 (by decide) dX8_mayBe_20 rfl ?_
      refine zz_irem (npc := 22) (by decide) dX8_mayBe_21 rfl ?_
      refine zz_iconst (npc := 23) 1 (by decide) dX8_mayBe_22 rfl ?_
      refine zz_icmp_ne (tgt := 30) (npc := 26) dX8_mayBe_23 (by decide) rfl ?_ ?_
      · refine zz_iconst (npc := 31) 0 (by decide) dX8_mayBe_30 rfl ?_
        exact zz_zret dX8_mayBe_31
      · refine zz_iconst (npc := 27) 1 (by decide) dX8_mayBe_26 rfl ?_
        refine zz_goto (npc := 0) (tgt := 31) dX8_mayBe_27 (by decide) ?_
        exact zz_zret dX8_mayBe_31
abbrev rmX8_findPairs : Room := { frames := 5, cells := 0, slots := 0, locals := 112 }
theorem iX8_findPairs_8 : ∀ w ∈ u_ws RX8 TX8 29, w ∈ wsX8_findPairs := fun w h => List.mem_cons_of_mem _ (List.mem_append_right _ h)
noncomputable def fX8_findPairs_L158  (k44 : Int32 → Int32 → Mem → Option (Int32 × Mem)) (y1 : Int32) (y2 : Int32) (M : Mem) : Option (Int32 × Mem) := (bv (y2 + 1) fun v13 => (k44 y1 v13 M))
set_option maxHeartbeats 4000000 in
set_option maxRecDepth 100000 in
theorem zX8_findPairs_L158 (E : EV) (l : Launch)   (k44 : Int32 → Int32 → Mem → Option (Int32 × Mem)) (hk44 : ∀ (y1_ : Int32) (y2_ : Int32) (M_ : Mem), ZZ E l RX8 cX8_findPairs 5 (some .int) wsX8_findPairs rmX8_findPairs vI (k44 y1_ y2_ M_) M_ [(0, .ref (eA E 57)), (1, .int y1_), (2, .int y2_)] 44 []) : ∀ (y1 : Int32) (y2 : Int32) (M : Mem), ZZ E l RX8 cX8_findPairs 5 (some .int) wsX8_findPairs rmX8_findPairs vI (fX8_findPairs_L158 k44 y1 y2 M) M [(0, .ref (eA E 57)), (1, .int y1), (2, .int y2)] 158 [] := by
  intro y1 y2 M
  unfold fX8_findPairs_L158
  refine zz_iincB (npc := 161) (y2 + 1) (lv1 := fun v13 => [(2, .int v13), (0, .ref (eA E 57)), (1, .int y1)]) dX8_findPairs_158 rfl 2 rfl rfl (by decide) (fun _ => rfl) (fun v13 => ?_)
  refine zz_goto (npc := 0) (tgt := 44) dX8_findPairs_161 (by decide) ?_
  refine zz_sub (npc := 0) (lv1 := [(0, .ref (eA E 57)), (1, .int y1), (2, .int v13)]) [1, 2, 0] rfl ?_
  exact hk44 y1 v13 M
noncomputable def fX8_findPairs_L141  (k44 : Int32 → Int32 → Mem → Option (Int32 × Mem)) (y1 : Int32) (y2 : Int32) (y3 : Int32) (w0 : Int32) (w1 : Int32) (M : Mem) : Option (Int32 × Mem) := (ck (inb w1 256) (wm (wr M 64 (ix w1) w0) fun M14 => (ck (inb y1 256) (ck (inb y1 256) (wm (wr M14 63 (ix y1) (imax (M14 63 (ix y1)) y3)) fun M15 => (fX8_findPairs_L158 k44 y1 y2 M15))))))
set_option maxHeartbeats 4000000 in
set_option maxRecDepth 100000 in
theorem zX8_findPairs_L141 (E : EV) (l : Launch)   (k44 : Int32 → Int32 → Mem → Option (Int32 × Mem)) (hk44 : ∀ (y1_ : Int32) (y2_ : Int32) (M_ : Mem), ZZ E l RX8 cX8_findPairs 5 (some .int) wsX8_findPairs rmX8_findPairs vI (k44 y1_ y2_ M_) M_ [(0, .ref (eA E 57)), (1, .int y1_), (2, .int y2_)] 44 []) : ∀ (y1 : Int32) (y2 : Int32) (y3 : Int32) (w0 : Int32) (w1 : Int32) (M : Mem), ZZ E l RX8 cX8_findPairs 5 (some .int) wsX8_findPairs rmX8_findPairs vI (fX8_findPairs_L141 k44 y1 y2 y3 w0 w1 M) M [(0, .ref (eA E 57)), (1, .int y1), (2, .int y2), (3, .int y3)] 141 [.int w0, .int w1, .ref (eA E 64)] := by
  intro y1 y2 y3 w0 w1 M
  unfold fX8_findPairs_L141
  refine zz_iast (npc := 142) (by decide) (by rfl) dX8_findPairs_141 rfl (fun M14 => ?_)
  refine zz_aload_n (npc := 143) 0 rfl rfl dX8_findPairs_142 rfl ?_
  refine zz_getR (npc := 146) (i := 10) (C0 := RX8) (T := TX8) (N := 29) (by decide) (by rfl) rfl (by decide) iX8_findPairs_8 (List.mem_of_getElem? (i := 1) rfl) rfl dX8_findPairs_143 rfl ?_
  refine zz_iload_n (npc := 147) 1 rfl rfl dX8_findPairs_146 rfl ?_
  refine zz_aload_n (npc := 148) 0 rfl rfl dX8_findPairs_147 rfl ?_
  refine zz_getR (npc := 151) (i := 10) (C0 := RX8) (T := TX8) (N := 29) (by decide) (by rfl) rfl (by decide) iX8_findPairs_8 (List.mem_of_getElem? (i := 1) rfl) rfl dX8_findPairs_148 rfl ?_
  refine zz_iload_n (npc := 152) 1 rfl rfl dX8_findPairs_151 rfl ?_
  refine zz_iald (npc := 153) (by decide) (by rfl) dX8_findPairs_152 rfl ?_
  refine zz_iload_n (npc := 154) 3 rfl rfl dX8_findPairs_153 rfl ?_
  refine zz_mmax (npc := 157) (List.mem_of_getElem? (i := 4) rfl) (List.mem_of_getElem? (i := 5) rfl) (List.mem_of_getElem? (i := 6) rfl) (List.mem_of_getElem? (i := 7) rfl) (Nat.le_of_ble_eq_true rfl) (Nat.le_of_ble_eq_true rfl) dX8_findPairs_154 rfl ?_
  refine zz_iast (npc := 158) (by decide) (by rfl) dX8_findPairs_157 rfl (fun M15 => ?_)
  refine zz_sub (npc := 0) (lv1 := [(0, .ref (eA E 57)), (1, .int y1), (2, .int y2)]) [0, 1, 2] rfl ?_
  exact zX8_findPairs_L158 E l k44 hk44 y1 y2 M15
noncomputable def fX8_findPairs_L44  (k16 : Int32 → Mem → Option (Int32 × Mem)) : Nat → Int32 → Int32 → Mem → Option (Int32 × Mem)
  | 0, _, _, _ => none
  | n + 1, y1, y2, M => (ck (inb 4 56) (if (M 58 (ix 4)) ≤ y2 then (bv (y1 + 1) fun v5 => (k16 v5 M)) else (bd (fX8_mayBe y1 y2 M) fun r7 M6 => (if r7 = 0 then (fX8_findPairs_L158 (fX8_findPairs_L44 k16 n) y1 y2 M6) else (bd (fX8_mostWith y1 y2 M6) fun r9 M8 => (bd (fX8_lowest y1 M8) fun r11 M10 => (ck (inb ((y1 &&& ((shl 1 r11) ^^^ (-1))) &&& ((shl 1 y2) ^^^ (-1))) 256) (bv (M10 64 (ix ((y1 &&& ((shl 1 r11) ^^^ (-1))) &&& ((shl 1 y2) ^^^ (-1))))) fun v12 => (ck (inb y1 256) (if r9 ≤ (M10 63 (ix y1)) then (ck (inb y1 256) (if r9 = (M10 63 (ix y1)) then (ck (inb y1 256) (fX8_findPairs_L141 (fX8_findPairs_L44 k16 n) y1 y2 r9 ((M10 64 (ix y1)) + v12) y1 M10)) else (ck (inb y1 256) (fX8_findPairs_L141 (fX8_findPairs_L44 k16 n) y1 y2 r9 (M10 64 (ix y1)) y1 M10)))) else (fX8_findPairs_L141 (fX8_findPairs_L44 k16 n) y1 y2 r9 v12 y1 M10)))))))))))
set_option maxHeartbeats 4000000 in
set_option maxRecDepth 100000 in
theorem zX8_findPairs_L44 (E : EV) (l : Launch)   (k16 : Int32 → Mem → Option (Int32 × Mem)) (hk16 : ∀ (y1_ : Int32) (M_ : Mem), ZZ E l RX8 cX8_findPairs 5 (some .int) wsX8_findPairs rmX8_findPairs vI (k16 y1_ M_) M_ [(0, .ref (eA E 57)), (1, .int y1_)] 16 []) : ∀ (n : Nat) (y1 : Int32) (y2 : Int32) (M : Mem), ZZ E l RX8 cX8_findPairs 5 (some .int) wsX8_findPairs rmX8_findPairs vI (fX8_findPairs_L44 k16 n y1 y2 M) M [(0, .ref (eA E 57)), (1, .int y1), (2, .int y2)] 44 [] := by
  intro n
  induction n with
  | zero => intros; exact zz_none
  | succ n ih =>
    intro y1 y2 M
    rw [fX8_findPairs_L44]
    refine zz_iload_n (npc := 45) 2 rfl rfl dX8_findPairs_44 rfl ?_
    refine zz_aload_n (npc := 46) 0 rfl rfl dX8_findPairs_45 rfl ?_
    refine zz_getR (npc := 49) (i := 0) (C0 := RX8) (T := TX8) (N := 29) (by decide) (by rfl) rfl (by decide) iX8_findPairs_8 (List.mem_of_getElem? (i := 3) rfl) rfl dX8_findPairs_46 rfl ?_
    refine zz_iconst (npc := 50) 4 (by decide) dX8_findPairs_49 rfl ?_
    refine zz_iald (npc := 51) (by decide) (by rfl) dX8_findPairs_50 rfl ?_
    refine zz_icmp_ge (tgt := 164) (npc := 54) dX8_findPairs_51 (by decide) rfl ?_ ?_
    · refine zz_iincB (npc := 167) (y1 + 1) (lv1 := fun v5 => [(1, .int v5), (0, .ref (eA E 57)), (2, .int y2)]) dX8_findPairs_164 rfl 1 rfl rfl (by decide) (fun _ => rfl) (fun v5 => ?_)
      refine zz_goto (npc := 0) (tgt := 16) dX8_findPairs_167 (by decide) ?_
      refine zz_sub (npc := 0) (lv1 := [(0, .ref (eA E 57)), (1, .int v5)]) [1, 0] rfl ?_
      exact hk16 v5 M
    · refine zz_aload_n (npc := 55) 0 rfl rfl dX8_findPairs_54 rfl ?_
      refine zz_iload_n (npc := 56) 1 rfl rfl dX8_findPairs_55 rfl ?_
      refine zz_iload_n (npc := 57) 2 rfl rfl dX8_findPairs_56 rfl ?_
      refine zz_callVi (npc := 60) (n := 2) (As := [.int y1, .int y2]) (by decide) (by rfl) rfl gX8_findPairs_X8_mayBe rfl rfl rfl (by decide +kernel) ⟨Nat.le_of_ble_eq_true rfl, Nat.le_of_ble_eq_true rfl⟩ rfl rfl (Nat.le_of_ble_eq_true rfl) (mtX8_mayBe E l  y1 y2 M) dX8_findPairs_57 rfl (fun r7 M6 _ => ?_)
      refine zz_if_eq (tgt := 158) (npc := 63) dX8_findPairs_60 (by decide) rfl ?_ ?_
      · exact zX8_findPairs_L158 E l (fX8_findPairs_L44 k16 n) ih y1 y2 M6
      · refine zz_aload_n (npc := 64) 0 rfl rfl dX8_findPairs_63 rfl ?_
        refine zz_iload_n (npc := 65) 1 rfl rfl dX8_findPairs_64 rfl ?_
        refine zz_iload_n (npc := 66) 2 rfl rfl dX8_findPairs_65 rfl ?_
        refine zz_callVi (npc := 69) (n := 2) (As := [.int y1, .int y2]) (by decide) (by rfl) rfl gX8_findPairs_X8_mostWith rfl rfl rfl (by decide +kernel) ⟨Nat.le_of_ble_eq_true rfl, Nat.le_of_ble_eq_true rfl⟩ rfl rfl (Nat.le_of_ble_eq_true rfl) (mtX8_mostWith E l  y1 y2 M6) dX8_findPairs_66 rfl (fun r9 M8 _ => ?_)
        refine zz_istore_n (npc := 70) (lv1 := [(3, .int r9), (0, .ref (eA E 57)), (1, .int y1), (2, .int y2)]) rfl dX8_findPairs_69 rfl (by decide) rfl ?_
        refine zz_aload_n (npc := 71) 1 rfl rfl dX8_findPairs_70 rfl ?_
        refine zz_getR (npc := 74) (i := 11) (C0 := RX8) (T := TX8) (N := 29) (by decide) (by rfl) rfl (by decide) iX8_findPairs_8 (List.mem_of_getElem? (i := 2) rfl) rfl dX8_findPairs_71 rfl ?_
        refine zz_iload_n (npc := 75) 2 rfl rfl dX8_findPairs_74 rfl ?_
        refine zz_iconst (npc := 76) 1 (by decide) dX8_findPairs_75 rfl ?_
        refine zz_iload_n (npc := 77) 2 rfl rfl dX8_findPairs_76 rfl ?_
        refine zz_callSi (npc := 80) (n := 1) (As := [.int y1]) gX8_findPairs_X8_lowest rfl rfl rfl (by decide +kernel) ⟨Nat.le_of_ble_eq_true rfl, Nat.le_of_ble_eq_true rfl⟩ rfl rfl (Nat.le_of_ble_eq_true rfl) (mtX8_lowest E l  y1 M8) dX8_findPairs_77 rfl (fun r11 M10 _ => ?_)
        refine zz_ishl (npc := 81) dX8_findPairs_80 rfl ?_
        refine zz_iconst (npc := 82) (-1) (by decide) dX8_findPairs_81 rfl ?_
        refine zz_ixor (npc := 83) dX8_findPairs_82 rfl ?_
        refine zz_iand (npc := 84) dX8_findPairs_83 rfl ?_
        refine zz_iconst (npc := 85) 1 (by decide) dX8_findPairs_84 rfl ?_
        refine zz_iload_n (npc := 86) 3 rfl rfl dX8_findPairs_85 rfl ?_
        refine zz_ishl (npc := 87) dX8_findPairs_86 rfl ?_
        refine zz_iconst (npc := 88) (-1) (by decide) dX8_findPairs_87 rfl ?_
        refine zz_ixor (npc := 89) dX8_findPairs_88 rfl ?_
        refine zz_iand (npc := 90) dX8_findPairs_89 rfl ?_
        refine zz_iald (npc := 91) (by decide) (by rfl) dX8_findPairs_90 rfl ?_
        refine zz_istoreB (npc := 93) (lv1 := fun v12 => [(4, .int v12), (3, .int r9), (0, .ref (eA E 57)), (1, .int y1), (2, .int y2)]) dX8_findPairs_91 rfl (by decide) (fun _ => rfl) (fun v12 => ?_)
        refine zz_aload_n (npc := 94) 2 rfl rfl dX8_findPairs_93 rfl ?_
        refine zz_getR (npc := 97) (i := 11) (C0 := RX8) (T := TX8) (N := 29) (by decide) (by rfl) rfl (by decide) iX8_findPairs_8 (List.mem_of_getElem? (i := 2) rfl) rfl dX8_findPairs_94 rfl ?_
        refine zz_iload_n (npc := 98) 3 rfl rfl dX8_findPairs_97 rfl ?_
        refine zz_iload_n (npc := 99) 1 rfl rfl dX8_findPairs_98 rfl ?_
        refine zz_aload_n (npc := 100) 2 rfl rfl dX8_findPairs_99 rfl ?_
        refine zz_getR (npc := 103) (i := 10) (C0 := RX8) (T := TX8) (N := 29) (by decide) (by rfl) rfl (by decide) iX8_findPairs_8 (List.mem_of_getElem? (i := 1) rfl) rfl dX8_findPairs_100 rfl ?_
        refine zz_iload_n (npc := 104) 3 rfl rfl dX8_findPairs_103 rfl ?_
        refine zz_iald (npc := 105) (by decide) (by rfl) dX8_findPairs_104 rfl ?_
        refine zz_icmp_le (tgt := 113) (npc := 108) dX8_findPairs_105 (by decide) rfl ?_ ?_
        · refine zz_iload_n (npc := 114) 1 rfl rfl dX8_findPairs_113 rfl ?_
          refine zz_aload_n (npc := 115) 2 rfl rfl dX8_findPairs_114 rfl ?_
          refine zz_getR (npc := 118) (i := 10) (C0 := RX8) (T := TX8) (N := 29) (by decide) (by rfl) rfl (by decide) iX8_findPairs_8 (List.mem_of_getElem? (i := 1) rfl) rfl dX8_findPairs_115 rfl ?_
          refine zz_iload_n (npc := 119) 3 rfl rfl dX8_findPairs_118 rfl ?_
          refine zz_iald (npc := 120) (by decide) (by rfl) dX8_findPairs_119 rfl ?_
          refine zz_icmp_ne (tgt := 135) (npc := 123) dX8_findPairs_120 (by decide) rfl ?_ ?_
          · refine zz_aload_n (npc := 136) 2 rfl rfl dX8_findPairs_135 rfl ?_
            refine zz_getR (npc := 139) (i := 11) (C0 := RX8) (T := TX8) (N := 29) (by decide) (by rfl) rfl (by decide) iX8_findPairs_8 (List.mem_of_getElem? (i := 2) rfl) rfl dX8_findPairs_136 rfl ?_
            refine zz_iload_n (npc := 140) 3 rfl rfl dX8_findPairs_139 rfl ?_
            refine zz_iald (npc := 141) (by decide) (by rfl) dX8_findPairs_140 rfl ?_
            refine zz_sub (npc := 0) (lv1 := [(0, .ref (eA E 57)), (1, .int y1), (2, .int y2), (3, .int r9)]) [2, 3, 4, 1] rfl ?_
            exact zX8_findPairs_L141 E l (fX8_findPairs_L44 k16 n) ih y1 y2 r9 (M10 64 (ix y1)) y1 M10
          · refine zz_aload_n (npc := 124) 2 rfl rfl dX8_findPairs_123 rfl ?_
            refine zz_getR (npc := 127) (i := 11) (C0 := RX8) (T := TX8) (N := 29) (by decide) (by rfl) rfl (by decide) iX8_findPairs_8 (List.mem_of_getElem? (i := 2) rfl) rfl dX8_findPairs_124 rfl ?_
            refine zz_iload_n (npc := 128) 3 rfl rfl dX8_findPairs_127 rfl ?_
            refine zz_iald (npc := 129) (by decide) (by rfl) dX8_findPairs_128 rfl ?_
            refine zz_iload (npc := 131) 0 rfl dX8_findPairs_129 rfl ?_
            refine zz_iadd (npc := 132) dX8_findPairs_131 rfl ?_
            refine zz_goto (npc := 0) (tgt := 141) dX8_findPairs_132 (by decide) ?_
            refine zz_sub (npc := 0) (lv1 := [(0, .ref (eA E 57)), (1, .int y1), (2, .int y2), (3, .int r9)]) [2, 3, 4, 1] rfl ?_
            exact zX8_findPairs_L141 E l (fX8_findPairs_L44 k16 n) ih y1 y2 r9 ((M10 64 (ix y1)) + v12) y1 M10
        · refine zz_iload (npc := 110) 0 rfl dX8_findPairs_108 rfl ?_
          refine zz_goto (npc := 0) (tgt := 141) dX8_findPairs_110 (by decide) ?_
          refine zz_sub (npc := 0) (lv1 := [(0, .ref (eA E 57)), (1, .int y1), (2, .int y2), (3, .int r9)]) [2, 3, 4, 1] rfl ?_
          exact zX8_findPairs_L141 E l (fX8_findPairs_L44 k16 n) ih y1 y2 r9 v12 y1 M10
noncomputable def fX8_findPairs_L16   : Nat → Int32 → Mem → Option (Int32 × Mem)
  | 0, _, _ => none
  | n + 1, y1, M => (ck (inb 4 56) (if (shl 1 (M 58 (ix 4))) ≤ y1 then (ck (inb 4 56) (ck (inb ((shl 1 (M 58 (ix 4))) - 1) 256) (some (M 63 (ix ((shl 1 (M 58 (ix 4))) - 1)), M)))) else (ck (inb y1 256) (wm (wr M 63 (ix y1) (-1)) fun M3 => (ck (inb y1 256) (wm (wr M3 64 (ix y1) 0) fun M4 => (fX8_findPairs_L44 (fX8_findPairs_L16  n) fu y1 0 M4)))))))
set_option maxHeartbeats 4000000 in
set_option maxRecDepth 100000 in
theorem zX8_findPairs_L16 (E : EV) (l : Launch)     : ∀ (n : Nat) (y1 : Int32) (M : Mem), ZZ E l RX8 cX8_findPairs 5 (some .int) wsX8_findPairs rmX8_findPairs vI (fX8_findPairs_L16 n y1 M) M [(0, .ref (eA E 57)), (1, .int y1)] 16 [] := by
  intro n
  induction n with
  | zero => intros; exact zz_none
  | succ n ih =>
    intro y1 M
    rw [fX8_findPairs_L16]
    refine zz_iload_n (npc := 17) 1 rfl rfl dX8_findPairs_16 rfl ?_
    refine zz_iconst (npc := 18) 1 (by decide) dX8_findPairs_17 rfl ?_
    refine zz_aload_n (npc := 19) 0 rfl rfl dX8_findPairs_18 rfl ?_
    refine zz_getR (npc := 22) (i := 0) (C0 := RX8) (T := TX8) (N := 29) (by decide) (by rfl) rfl (by decide) iX8_findPairs_8 (List.mem_of_getElem? (i := 3) rfl) rfl dX8_findPairs_19 rfl ?_
    refine zz_iconst (npc := 23) 4 (by decide) dX8_findPairs_22 rfl ?_
    refine zz_iald (npc := 24) (by decide) (by rfl) dX8_findPairs_23 rfl ?_
    refine zz_ishl (npc := 25) dX8_findPairs_24 rfl ?_
    refine zz_icmp_ge (tgt := 170) (npc := 28) dX8_findPairs_25 (by decide) rfl ?_ ?_
    · refine zz_aload_n (npc := 171) 0 rfl rfl dX8_findPairs_170 rfl ?_
      refine zz_getR (npc := 174) (i := 10) (C0 := RX8) (T := TX8) (N := 29) (by decide) (by rfl) rfl (by decide) iX8_findPairs_8 (List.mem_of_getElem? (i := 1) rfl) rfl dX8_findPairs_171 rfl ?_
      refine zz_iconst (npc := 175) 1 (by decide) dX8_findPairs_174 rfl ?_
      refine zz_aload_n (npc := 176) 0 rfl rfl dX8_findPairs_175 rfl ?_
      refine zz_getR (npc := 179) (i := 0) (C0 := RX8) (T := TX8) (N := 29) (by decide) (by rfl) rfl (by decide) iX8_findPairs_8 (List.mem_of_getElem? (i := 3) rfl) rfl dX8_findPairs_176 rfl ?_
      refine zz_iconst (npc := 180) 4 (by decide) dX8_findPairs_179 rfl ?_
      refine zz_iald (npc := 181) (by decide) (by rfl) dX8_findPairs_180 rfl ?_
      refine zz_ishl (npc := 182) dX8_findPairs_181 rfl ?_
      refine zz_iconst (npc := 183) 1 (by decide) dX8_findPairs_182 rfl ?_
      refine zz_isub (npc := 184) dX8_findPairs_183 rfl ?_
      refine zz_iald (npc := 185) (by decide) (by rfl) dX8_findPairs_184 rfl ?_
      exact zz_iret dX8_findPairs_185
    · refine zz_aload_n (npc := 29) 0 rfl rfl dX8_findPairs_28 rfl ?_
      refine zz_getR (npc := 32) (i := 10) (C0 := RX8) (T := TX8) (N := 29) (by decide) (by rfl) rfl (by decide) iX8_findPairs_8 (List.mem_of_getElem? (i := 1) rfl) rfl dX8_findPairs_29 rfl ?_
      refine zz_iload_n (npc := 33) 1 rfl rfl dX8_findPairs_32 rfl ?_
      refine zz_iconst (npc := 34) (-1) (by decide) dX8_findPairs_33 rfl ?_
      refine zz_iast (npc := 35) (by decide) (by rfl) dX8_findPairs_34 rfl (fun M3 => ?_)
      refine zz_aload_n (npc := 36) 0 rfl rfl dX8_findPairs_35 rfl ?_
      refine zz_getR (npc := 39) (i := 11) (C0 := RX8) (T := TX8) (N := 29) (by decide) (by rfl) rfl (by decide) iX8_findPairs_8 (List.mem_of_getElem? (i := 2) rfl) rfl dX8_findPairs_36 rfl ?_
      refine zz_iload_n (npc := 40) 1 rfl rfl dX8_findPairs_39 rfl ?_
      refine zz_iconst (npc := 41) 0 (by decide) dX8_findPairs_40 rfl ?_
      refine zz_iast (npc := 42) (by decide) (by rfl) dX8_findPairs_41 rfl (fun M4 => ?_)
      refine zz_iconst (npc := 43) 0 (by decide) dX8_findPairs_42 rfl ?_
      refine zz_istore_n (npc := 44) (lv1 := [(2, .int 0), (0, .ref (eA E 57)), (1, .int y1)]) rfl dX8_findPairs_43 rfl (by decide) rfl ?_
      refine zz_sub (npc := 0) (lv1 := [(0, .ref (eA E 57)), (1, .int y1), (2, .int 0)]) [1, 2, 0] rfl ?_
      exact zX8_findPairs_L44 E l (fX8_findPairs_L16  n) ih fu y1 0 M4
noncomputable def fX8_findPairs   (M : Mem) : Option (Int32 × Mem) := (ck (inb 0 256) (wm (wr M 63 (ix 0) 0) fun M1 => (ck (inb 0 256) (wm (wr M1 64 (ix 0) 1) fun M2 => (fX8_findPairs_L16  fu 1 M2)))))
set_option maxHeartbeats 4000000 in
set_option maxRecDepth 100000 in
theorem mtX8_findPairs (E : EV) (l : Launch)    (M : Mem) : CT E l yX8_findPairs wsX8_findPairs rmX8_findPairs vI [.ref (eA E 57)] (fX8_findPairs  M) M := by
  refine ct_of (cc := cX8_findPairs) (nL := 5) (ret := (some .int)) (by decide +kernel) rfl (Nat.le_of_ble_eq_true rfl) ?_
  show ZZ E l RX8 cX8_findPairs 5 (some .int) wsX8_findPairs rmX8_findPairs vI (fX8_findPairs  M) M [(0, .ref (eA E 57))] 0 []
  unfold fX8_findPairs
  refine zz_aload_n (npc := 1) 0 rfl rfl dX8_findPairs_0 rfl ?_
  refine zz_getR (npc := 4) (i := 10) (C0 := RX8) (T := TX8) (N := 29) (by decide) (by rfl) rfl (by decide) iX8_findPairs_8 (List.mem_of_getElem? (i := 1) rfl) rfl dX8_findPairs_1 rfl ?_
  refine zz_iconst (npc := 5) 0 (by decide) dX8_findPairs_4 rfl ?_
  refine zz_iconst (npc := 6) 0 (by decide) dX8_findPairs_5 rfl ?_
  refine zz_iast (npc := 7) (by decide) (by rfl) dX8_findPairs_6 rfl (fun M1 => ?_)
  refine zz_aload_n (npc := 8) 0 rfl rfl dX8_findPairs_7 rfl ?_
  refine zz_getR (npc := 11) (i := 11) (C0 := RX8) (T := TX8) (N := 29) (by decide) (by rfl) rfl (by decide) iX8_findPairs_8 (List.mem_of_getElem? (i := 2) rfl) rfl dX8_findPairs_8 rfl ?_
  refine zz_iconst (npc := 12) 0 (by decide) dX8_findPairs_11 rfl ?_
  refine zz_iconst (npc := 13) 1 (by decide) dX8_findPairs_12 rfl ?_
  refine zz_iast (npc := 14) (by decide) (by rfl) dX8_findPairs_13 rfl (fun M2 => ?_)
  refine zz_iconst (npc := 15) 1 (by decide) dX8_findPairs_14 rfl ?_
  refine zz_istore_n (npc := 16) (lv1 := [(1, .int 1), (0, .ref (eA E 57))]) rfl dX8_findPairs_15 rfl (by decide) rfl ?_
  refine zz_sub (npc := 0) (lv1 := [(0, .ref (eA E 57)), (1, .int 1)]) [1, 0] rfl ?_
  exact zX8_findPairs_L16 E l  fu 1 M2

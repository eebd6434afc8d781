abbrev rmX1_isPerson : Room := { frames := 0, cells := 0, slots := 0, locals := 0 }
theorem iX1_isPerson_1 : ∀ w ∈ u_ws RX1 TX1 12, w ∈ wsX1_isPerson := fun w h => List.mem_cons_of_mem _ (List.mem_append_right _ h)
noncomputable def fX1_isPerson (b : Nat) (x1 : Int32) (M : Mem) : Option (Int32 × Mem) := (if x1 < 0 then (ck (isb 0) (some (0, M))) else (if (M b 6) ≤ x1 then (ck (isb 0) (some (0, M))) else (ck (isb 1) (some (1, M)))))
set_option maxHeartbeats 4000000 in
set_option maxRecDepth 100000 in
theorem mtX1_isPerson (E : EV) (l : Launch) (b : Nat) (hb : isLd b) (x1 : Int32) (M : Mem) : CT E l yX1_isPerson wsX1_isPerson rmX1_isPerson vI [.ref (eA E b), .int x1] (fX1_isPerson b x1 M) M := by
  refine ct_of (cc := cX1_isPerson) (nL := 2) (ret := (some .boolean)) (by decide +kernel) rfl (Nat.le_of_ble_eq_true rfl) ?_
  show ZZ E l RX1 cX1_isPerson 2 (some .boolean) wsX1_isPerson rmX1_isPerson vI (fX1_isPerson b x1 M) M [(0, .ref (eA E b)), (1, .int x1)] 0 []
  unfold fX1_isPerson
  refine zz_iload_n (npc := 1) 1 rfl rfl dX1_isPerson_0 rfl ?_
  refine zz_if_lt (tgt := 16) (npc := 4) dX1_isPerson_1 (by decide) rfl ?_ ?_
  · refine zz_iconst (npc := 17) 0 (by decide) dX1_isPerson_16 rfl ?_
    exact zz_zret dX1_isPerson_17
  · refine zz_iload_n (npc := 5) 1 rfl rfl dX1_isPerson_4 rfl ?_
    refine zz_aload_n (npc := 6) 0 rfl rfl dX1_isPerson_5 rfl ?_
    refine zz_getI (npc := 9) (i := 6) (C0 := RX1) (T := TX1) (N := 12) (ld_lt0 hb) (ld_o hb) rfl (by decide) iX1_isPerson_1 (List.mem_of_getElem? (i := 1) rfl) rfl dX1_isPerson_6 rfl ?_
    refine zz_icmp_ge (tgt := 16) (npc := 12) dX1_isPerson_9 (by decide) rfl ?_ ?_
    · refine zz_iconst (npc := 17) 0 (by decide) dX1_isPerson_16 rfl ?_
      exact zz_zret dX1_isPerson_17
    · refine zz_iconst (npc := 13) 1 (by decide) dX1_isPerson_12 rfl ?_
      refine zz_goto (npc := 0) (tgt := 17) dX1_isPerson_13 (by decide) ?_
      exact zz_zret dX1_isPerson_17
abbrev rmX1_areTwo : Room := { frames := 1, cells := 0, slots := 0, locals := 21 }
noncomputable def fX1_areTwo (b : Nat) (x1 : Int32) (x2 : Int32) (M : Mem) : Option (Int32 × Mem) := (bd (fX1_isPerson b x1 M) fun r2 M1 => (if r2 = 0 then (ck (isb 0) (some (0, M1))) else (bd (fX1_isPerson b x2 M1) fun r4 M3 => (if r4 = 0 then (ck (isb 0) (some (0, M3))) else (if x1 = x2 then (ck (isb 0) (some (0, M3))) else (ck (isb 1) (some (1, M3))))))))
set_option maxHeartbeats 4000000 in
set_option maxRecDepth 100000 in
theorem mtX1_areTwo (E : EV) (l : Launch) (b : Nat) (hb : isLd b) (x1 : Int32) (x2 : Int32) (M : Mem) : CT E l yX1_areTwo wsX1_areTwo rmX1_areTwo vI [.ref (eA E b), .int x1, .int x2] (fX1_areTwo b x1 x2 M) M := by
  refine ct_of (cc := cX1_areTwo) (nL := 3) (ret := (some .boolean)) (by decide +kernel) rfl (Nat.le_of_ble_eq_true rfl) ?_
  show ZZ E l RX1 cX1_areTwo 3 (some .boolean) wsX1_areTwo rmX1_areTwo vI (fX1_areTwo b x1 x2 M) M [(0, .ref (eA E b)), (1, .int x1), (2, .int x2)] 0 []
  unfold fX1_areTwo
  refine zz_aload_n (npc := 1) 0 rfl rfl dX1_areTwo_0 rfl ?_
  refine zz_iload_n (npc := 2) 1 rfl rfl dX1_areTwo_1 rfl ?_
  refine zz_callVi (npc := 5) (n := 1) (As := [.int x1]) (ld_lt0 hb) (ld_o hb) rfl gX1_areTwo_X1_isPerson rfl rfl rfl (by decide +kernel) ⟨Nat.le_of_ble_eq_true rfl, Nat.le_of_ble_eq_true rfl⟩ rfl rfl (Nat.le_of_ble_eq_true rfl) (mtX1_isPerson E l b hb x1 M) dX1_areTwo_2 rfl (fun r2 M1 _ => ?_)
  refine zz_if_eq (tgt := 25) (npc := 8) dX1_areTwo_5 (by decide) rfl ?_ ?_
  · refine zz_iconst (npc := 26) 0 (by decide) dX1_areTwo_25 rfl ?_
    exact zz_zret dX1_areTwo_26
  · refine zz_aload_n (npc := 9) 0 rfl rfl dX1_areTwo_8 rfl ?_
    refine zz_iload_n (npc := 10) 2 rfl rfl dX1_areTwo_9 rfl ?_
    refine zz_callVi (npc := 13) (n := 1) (As := [.int x2]) (ld_lt0 hb) (ld_o hb) rfl gX1_areTwo_X1_isPerson rfl rfl rfl (by decide +kernel) ⟨Nat.le_of_ble_eq_true rfl, Nat.le_of_ble_eq_true rfl⟩ rfl rfl (Nat.le_of_ble_eq_true rfl) (mtX1_isPerson E l b hb x2 M1) dX1_areTwo_10 rfl (fun r4 M3 _ => ?_)
    refine zz_if_eq (tgt := 25) (npc := 16) dX1_areTwo_13 (by decide) rfl ?_ ?_
    · refine zz_iconst (npc := 26) 0 (by decide) dX1_areTwo_25 rfl ?_
      exact zz_zret dX1_areTwo_26
    · refine zz_iload_n (npc := 17) 1 rfl rfl dX1_areTwo_16 rfl ?_
      refine zz_iload_n (npc := 18) 2 rfl rfl dX1_areTwo_17 rfl ?_
      refine zz_icmp_eq (tgt := 25) (npc := 21) dX1_areTwo_18 (by decide) rfl ?_ ?_
      · refine zz_iconst (npc := 26) 0 (by decide) dX1_areTwo_25 rfl ?_
        exact zz_zret dX1_areTwo_26
      · refine zz_iconst (npc := 22) 1 (by decide) dX1_areTwo_21 rfl ?_
        refine zz_goto (npc := 0) (tgt := 26) dX1_areTwo_22 (by decide) ?_
        exact zz_zret dX1_areTwo_26
abbrev rmX1_hoursLeft : Room := { frames := 0, cells := 0, slots := 0, locals := 0 }
theorem iX1_hoursLeft_1 : ∀ w ∈ u_ws RX1 TX1 12, w ∈ wsX1_hoursLeft := fun w h => List.mem_cons_of_mem _ (List.mem_append_right _ h)
noncomputable def fX1_hoursLeft (b : Nat)  (M : Mem) : Option (Int32 × Mem) := (some ((shl 65535 (M b 8)) &&& 65535, M))
set_option maxHeartbeats 4000000 in
set_option maxRecDepth 100000 in
theorem mtX1_hoursLeft (E : EV) (l : Launch) (b : Nat) (hb : isLd b)  (M : Mem) : CT E l yX1_hoursLeft wsX1_hoursLeft rmX1_hoursLeft vI [.ref (eA E b)] (fX1_hoursLeft b M) M := by
  refine ct_of (cc := cX1_hoursLeft) (nL := 1) (ret := (some .int)) (by decide +kernel) rfl (Nat.le_of_ble_eq_true rfl) ?_
  show ZZ E l RX1 cX1_hoursLeft 1 (some .int) wsX1_hoursLeft rmX1_hoursLeft vI (fX1_hoursLeft b M) M [(0, .ref (eA E b))] 0 []
  unfold fX1_hoursLeft
  refine zz_ldc (npc := 2) 65535 (List.mem_of_getElem? (i := 1) rfl) dX1_hoursLeft_0 rfl ?_
  refine zz_aload_n (npc := 3) 0 rfl rfl dX1_hoursLeft_2 rfl ?_
  refine zz_getI (npc := 6) (i := 8) (C0 := RX1) (T := TX1) (N := 12) (ld_lt0 hb) (ld_o hb) rfl (by decide) iX1_hoursLeft_1 (List.mem_of_getElem? (i := 2) rfl) rfl dX1_hoursLeft_3 rfl ?_
  refine zz_ishl (npc := 7) dX1_hoursLeft_6 rfl ?_
  refine zz_ldc (npc := 9) 65535 (List.mem_of_getElem? (i := 1) rfl) dX1_hoursLeft_7 rfl ?_
  refine zz_iand (npc := 10) dX1_hoursLeft_9 rfl ?_
  exact zz_iret dX1_hoursLeft_10
abbrev rmX1_become : Room := { frames := 1, cells := 0, slots := 0, locals := 100 }
theorem iX1_become_1 : ∀ w ∈ u_ws RX1 TX1 12, w ∈ wsX1_become := fun w h => List.mem_cons_of_mem _ (List.mem_append_right _ h)
noncomputable def fX1_become (b : Nat) (d1 : Nat)  (M : Mem) : Option (Unit × Mem) := (ck (cpb 0 0 8 8 8) (wm (wrow M (b + 1) (va_cpy (M (d1 + 1)) (M (b + 1)) (ix 0) (ix 0) (ix 8))) fun M1 => (ck (cpb 0 0 8 8 8) (wm (wrow M1 (b + 2) (va_cpy (M1 (d1 + 2)) (M1 (b + 2)) (ix 0) (ix 0) (ix 8))) fun M2 => (ck (cpb 0 0 8 8 8) (wm (wrow M2 (b + 3) (va_cpy (M2 (d1 + 3)) (M2 (b + 3)) (ix 0) (ix 0) (ix 8))) fun M3 => (ck (cpb 0 0 8 8 8) (wm (wrow M3 (b + 4) (va_cpy (M3 (d1 + 4)) (M3 (b + 4)) (ix 0) (ix 0) (ix 8))) fun M4 => (ck (cpb 0 0 8 8 8) (wm (wrow M4 (b + 5) (va_cpy (M4 (d1 + 5)) (M4 (b + 5)) (ix 0) (ix 0) (ix 8))) fun M5 => (ck (cpb 0 0 10 10 10) (wm (wrow M5 (b + 6) (va_cpy (M5 (d1 + 6)) (M5 (b + 6)) (ix 0) (ix 0) (ix 10))) fun M6 => (wm (wr M6 b 6 (M6 d1 6)) fun M7 => (wm (wr M7 b 7 (M7 d1 7)) fun M8 => (wm (wr M8 b 8 (M8 d1 8)) fun M9 => (wm (wr M9 b 9 (M9 d1 9)) fun M10 => (wm (wr M10 b 10 (M10 d1 10)) fun M11 => (wm (wr M11 b 11 (M11 d1 11)) fun M12 => (some ((), M12))))))))))))))))))))
set_option maxHeartbeats 4000000 in
set_option maxRecDepth 100000 in
theorem mtX1_become (E : EV) (l : Launch) (b : Nat) (d1 : Nat) (hb : isLd b) (hd1 : isLd d1)  (M : Mem) : CT E l yX1_become wsX1_become rmX1_become vV [.ref (eA E b), .ref (eA E d1)] (fX1_become b d1 M) M := by
  refine ct_of (cc := cX1_become) (nL := 2) (ret := none) (by decide +kernel) rfl (Nat.le_of_ble_eq_true rfl) ?_
  show ZZ E l RX1 cX1_become 2 none wsX1_become rmX1_become vV (fX1_become b d1 M) M [(0, .ref (eA E b)), (1, .ref (eA E d1))] 0 []
  unfold fX1_become
  refine zz_aload_n (npc := 1) 1 rfl rfl dX1_become_0 rfl ?_
  refine zz_getR (npc := 4) (i := 0) (C0 := RX1) (T := TX1) (N := 12) (ld_lt0 hd1) (ld_o hd1) rfl (by decide) iX1_become_1 (List.mem_of_getElem? (i := 1) rfl) rfl dX1_become_1 rfl ?_
  refine zz_iconst (npc := 5) 0 (by decide) dX1_become_4 rfl ?_
  refine zz_aload_n (npc := 6) 0 rfl rfl dX1_become_5 rfl ?_
  refine zz_getR (npc := 9) (i := 0) (C0 := RX1) (T := TX1) (N := 12) (ld_lt0 hb) (ld_o hb) rfl (by decide) iX1_become_1 (List.mem_of_getElem? (i := 1) rfl) rfl dX1_become_6 rfl ?_
  refine zz_iconst (npc := 10) 0 (by decide) dX1_become_9 rfl ?_
  refine zz_bipush (npc := 12) 8 (by decide) dX1_become_10 rfl ?_
  refine zz_copy (npc := 15) (ld_lt1 hd1) (ld_a1 hd1) (ld_lt1 hb) (ld_a1 hb) (List.mem_of_getElem? (i := 2) rfl) (List.mem_of_getElem? (i := 3) rfl) (List.mem_of_getElem? (i := 4) rfl) (List.mem_of_getElem? (i := 5) rfl) (Nat.le_of_ble_eq_true rfl) (Nat.le_of_ble_eq_true rfl) dX1_become_12 rfl (fun M1 => ?_)
  refine zz_aload_n (npc := 16) 1 rfl rfl dX1_become_15 rfl ?_
  refine zz_getR (npc := 19) (i := 1) (C0 := RX1) (T := TX1) (N := 12) (ld_lt0 hd1) (ld_o hd1) rfl (by decide) iX1_become_1 (List.mem_of_getElem? (i := 6) rfl) rfl dX1_become_16 rfl ?_
  refine zz_iconst (npc := 20) 0 (by decide) dX1_become_19 rfl ?_
  refine zz_aload_n (npc := 21) 0 rfl rfl dX1_become_20 rfl ?_
  refine zz_getR (npc := 24) (i := 1) (C0 := RX1) (T := TX1) (N := 12) (ld_lt0 hb) (ld_o hb) rfl (by decide) iX1_become_1 (List.mem_of_getElem? (i := 6) rfl) rfl dX1_become_21 rfl ?_
  refine zz_iconst (npc := 25) 0 (by decide) dX1_become_24 rfl ?_
  refine zz_bipush (npc := 27) 8 (by decide) dX1_become_25 rfl ?_
  refine zz_copy (npc := 30) (ld_lt2 hd1) (ld_a2 hd1) (ld_lt2 hb) (ld_a2 hb) (List.mem_of_getElem? (i := 2) rfl) (List.mem_of_getElem? (i := 3) rfl) (List.mem_of_getElem? (i := 4) rfl) (List.mem_of_getElem? (i := 5) rfl) (Nat.le_of_ble_eq_true rfl) (Nat.le_of_ble_eq_true rfl) dX1_become_27 rfl (fun M2 => ?_)
  refine zz_aload_n (npc := 31) 1 rfl rfl dX1_become_30 rfl ?_
  refine zz_getR (npc := 34) (i := 2) (C0 := RX1) (T := TX1) (N := 12) (ld_lt0 hd1) (ld_o hd1) rfl (by decide) iX1_become_1 (List.mem_of_getElem? (i := 7) rfl) rfl dX1_become_31 rfl ?_
  refine zz_iconst (npc := 35) 0 (by decide) dX1_become_34 rfl ?_
  refine zz_aload_n (npc := 36) 0 rfl rfl dX1_become_35 rfl ?_
  refine zz_getR (npc := 39) (i := 2) (C0 := RX1) (T := TX1) (N := 12) (ld_lt0 hb) (ld_o hb) rfl (by decide) iX1_become_1 (List.mem_of_getElem? (i := 7) rfl) rfl dX1_become_36 rfl ?_
  refine zz_iconst (npc := 40) 0 (by decide) dX1_become_39 rfl ?_
  refine zz_bipush (npc := 42) 8 (by decide) dX1_become_40 rfl ?_
  refine zz_copy (npc := 45) (ld_lt3 hd1) (ld_a3 hd1) (ld_lt3 hb) (ld_a3 hb) (List.mem_of_getElem? (i := 2) rfl) (List.mem_of_getElem? (i := 3) rfl) (List.mem_of_getElem? (i := 4) rfl) (List.mem_of_getElem? (i := 5) rfl) (Nat.le_of_ble_eq_true rfl) (Nat.le_of_ble_eq_true rfl) dX1_become_42 rfl (fun M3 => ?_)
  refine zz_aload_n (npc := 46) 1 rfl rfl dX1_become_45 rfl ?_
  refine zz_getR (npc := 49) (i := 3) (C0 := RX1) (T := TX1) (N := 12) (ld_lt0 hd1) (ld_o hd1) rfl (by decide) iX1_become_1 (List.mem_of_getElem? (i := 8) rfl) rfl dX1_become_46 rfl ?_
  refine zz_iconst (npc := 50) 0 (by decide) dX1_become_49 rfl ?_
  refine zz_aload_n (npc := 51) 0 rfl rfl dX1_become_50 rfl ?_
  refine zz_getR (npc := 54) (i := 3) (C0 := RX1) (T := TX1) (N := 12) (ld_lt0 hb) (ld_o hb) rfl (by decide) iX1_become_1 (List.mem_of_getElem? (i := 8) rfl) rfl dX1_become_51 rfl ?_
  refine zz_iconst (npc := 55) 0 (by decide) dX1_become_54 rfl ?_
  refine zz_bipush (npc := 57) 8 (by decide) dX1_become_55 rfl ?_
  refine zz_copy (npc := 60) (ld_lt4 hd1) (ld_a4 hd1) (ld_lt4 hb) (ld_a4 hb) (List.mem_of_getElem? (i := 2) rfl) (List.mem_of_getElem? (i := 3) rfl) (List.mem_of_getElem? (i := 4) rfl) (List.mem_of_getElem? (i := 5) rfl) (Nat.le_of_ble_eq_true rfl) (Nat.le_of_ble_eq_true rfl) dX1_become_57 rfl (fun M4 => ?_)
  refine zz_aload_n (npc := 61) 1 rfl rfl dX1_become_60 rfl ?_
  refine zz_getR (npc := 64) (i := 4) (C0 := RX1) (T := TX1) (N := 12) (ld_lt0 hd1) (ld_o hd1) rfl (by decide) iX1_become_1 (List.mem_of_getElem? (i := 9) rfl) rfl dX1_become_61 rfl ?_
  refine zz_iconst (npc := 65) 0 (by decide) dX1_become_64 rfl ?_
  refine zz_aload_n (npc := 66) 0 rfl rfl dX1_become_65 rfl ?_
  refine zz_getR (npc := 69) (i := 4) (C0 := RX1) (T := TX1) (N := 12) (ld_lt0 hb) (ld_o hb) rfl (by decide) iX1_become_1 (List.mem_of_getElem? (i := 9) rfl) rfl dX1_become_66 rfl ?_
  refine zz_iconst (npc := 70) 0 (by decide) dX1_become_69 rfl ?_
  refine zz_bipush (npc := 72) 8 (by decide) dX1_become_70 rfl ?_
  refine zz_copy (npc := 75) (ld_lt5 hd1) (ld_a5 hd1) (ld_lt5 hb) (ld_a5 hb) (List.mem_of_getElem? (i := 2) rfl) (List.mem_of_getElem? (i := 3) rfl) (List.mem_of_getElem? (i := 4) rfl) (List.mem_of_getElem? (i := 5) rfl) (Nat.le_of_ble_eq_true rfl) (Nat.le_of_ble_eq_true rfl) dX1_become_72 rfl (fun M5 => ?_)
  refine zz_aload_n (npc := 76) 1 rfl rfl dX1_become_75 rfl ?_
  refine zz_getR (npc := 79) (i := 5) (C0 := RX1) (T := TX1) (N := 12) (ld_lt0 hd1) (ld_o hd1) rfl (by decide) iX1_become_1 (List.mem_of_getElem? (i := 10) rfl) rfl dX1_become_76 rfl ?_
  refine zz_iconst (npc := 80) 0 (by decide) dX1_become_79 rfl ?_
  refine zz_aload_n (npc := 81) 0 rfl rfl dX1_become_80 rfl ?_
  refine zz_getR (npc := 84) (i := 5) (C0 := RX1) (T := TX1) (N := 12) (ld_lt0 hb) (ld_o hb) rfl (by decide) iX1_become_1 (List.mem_of_getElem? (i := 10) rfl) rfl dX1_become_81 rfl ?_
  refine zz_iconst (npc := 85) 0 (by decide) dX1_become_84 rfl ?_
  refine zz_bipush (npc := 87) 10 (by decide) dX1_become_85 rfl ?_
  refine zz_copy (npc := 90) (ld_lt6 hd1) (ld_a6 hd1) (ld_lt6 hb) (ld_a6 hb) (List.mem_of_getElem? (i := 2) rfl) (List.mem_of_getElem? (i := 3) rfl) (List.mem_of_getElem? (i := 4) rfl) (List.mem_of_getElem? (i := 5) rfl) (Nat.le_of_ble_eq_true rfl) (Nat.le_of_ble_eq_true rfl) dX1_become_87 rfl (fun M6 => ?_)
  refine zz_aload_n (npc := 91) 0 rfl rfl dX1_become_90 rfl ?_
  refine zz_aload_n (npc := 92) 1 rfl rfl dX1_become_91 rfl ?_
  refine zz_getI (npc := 95) (i := 6) (C0 := RX1) (T := TX1) (N := 12) (ld_lt0 hd1) (ld_o hd1) rfl (by decide) iX1_become_1 (List.mem_of_getElem? (i := 11) rfl) rfl dX1_become_92 rfl ?_
  refine zz_putI (npc := 98) (i := 6) (C0 := RX1) (T := TX1) (N := 12) (ld_lt0 hb) (ld_o hb) rfl (by decide) iX1_become_1 (List.mem_of_getElem? (i := 11) rfl) tyX1_ok nmX1 rfl rfl rfl dX1_become_95 rfl (fun M7 => ?_)
  refine zz_aload_n (npc := 99) 0 rfl rfl dX1_become_98 rfl ?_
  refine zz_aload_n (npc := 100) 1 rfl rfl dX1_become_99 rfl ?_
  refine zz_getI (npc := 103) (i := 7) (C0 := RX1) (T := TX1) (N := 12) (ld_lt0 hd1) (ld_o hd1) rfl (by decide) iX1_become_1 (List.mem_of_getElem? (i := 12) rfl) rfl dX1_become_100 rfl ?_
  refine zz_putI (npc := 106) (i := 7) (C0 := RX1) (T := TX1) (N := 12) (ld_lt0 hb) (ld_o hb) rfl (by decide) iX1_become_1 (List.mem_of_getElem? (i := 12) rfl) tyX1_ok nmX1 rfl rfl rfl dX1_become_103 rfl (fun M8 => ?_)
  refine zz_aload_n (npc := 107) 0 rfl rfl dX1_become_106 rfl ?_
  refine zz_aload_n (npc := 108) 1 rfl rfl dX1_become_107 rfl ?_
  refine zz_getI (npc := 111) (i := 8) (C0 := RX1) (T := TX1) (N := 12) (ld_lt0 hd1) (ld_o hd1) rfl (by decide) iX1_become_1 (List.mem_of_getElem? (i := 13) rfl) rfl dX1_become_108 rfl ?_
  refine zz_putI (npc := 114) (i := 8) (C0 := RX1) (T := TX1) (N := 12) (ld_lt0 hb) (ld_o hb) rfl (by decide) iX1_become_1 (List.mem_of_getElem? (i := 13) rfl) tyX1_ok nmX1 rfl rfl rfl dX1_become_111 rfl (fun M9 => ?_)
  refine zz_aload_n (npc := 115) 0 rfl rfl dX1_become_114 rfl ?_
  refine zz_aload_n (npc := 116) 1 rfl rfl dX1_become_115 rfl ?_
  refine zz_getI (npc := 119) (i := 9) (C0 := RX1) (T := TX1) (N := 12) (ld_lt0 hd1) (ld_o hd1) rfl (by decide) iX1_become_1 (List.mem_of_getElem? (i := 14) rfl) rfl dX1_become_116 rfl ?_
  refine zz_putI (npc := 122) (i := 9) (C0 := RX1) (T := TX1) (N := 12) (ld_lt0 hb) (ld_o hb) rfl (by decide) iX1_become_1 (List.mem_of_getElem? (i := 14) rfl) tyX1_ok nmX1 rfl rfl rfl dX1_become_119 rfl (fun M10 => ?_)
  refine zz_aload_n (npc := 123) 0 rfl rfl dX1_become_122 rfl ?_
  refine zz_aload_n (npc := 124) 1 rfl rfl dX1_become_123 rfl ?_
  refine zz_getI (npc := 127) (i := 10) (C0 := RX1) (T := TX1) (N := 12) (ld_lt0 hd1) (ld_o hd1) rfl (by decide) iX1_become_1 (List.mem_of_getElem? (i := 15) rfl) rfl dX1_become_124 rfl ?_
  refine zz_putI (npc := 130) (i := 10) (C0 := RX1) (T := TX1) (N := 12) (ld_lt0 hb) (ld_o hb) rfl (by decide) iX1_become_1 (List.mem_of_getElem? (i := 15) rfl) tyX1_ok nmX1 rfl rfl rfl dX1_become_127 rfl (fun M11 => ?_)
  refine zz_aload_n (npc := 131) 0 rfl rfl dX1_become_130 rfl ?_
  refine zz_aload_n (npc := 132) 1 rfl rfl dX1_become_131 rfl ?_
  refine zz_getI (npc := 135) (i := 11) (C0 := RX1) (T := TX1) (N := 12) (ld_lt0 hd1) (ld_o hd1) rfl (by decide) iX1_become_1 (List.mem_of_getElem? (i := 16) rfl) rfl dX1_become_132 rfl ?_
  refine zz_putI (npc := 138) (i := 11) (C0 := RX1) (T := TX1) (N := 12) (ld_lt0 hb) (ld_o hb) rfl (by decide) iX1_become_1 (List.mem_of_getElem? (i := 16) rfl) tyX1_ok nmX1 rfl rfl rfl dX1_become_135 rfl (fun M12 => ?_)
  exact zz_vret dX1_become_138
abbrev rmX1_isFull : Room := { frames := 0, cells := 0, slots := 0, locals := 0 }
theorem iX1_isFull_1 : ∀ w ∈ u_ws RX1 TX1 12, w ∈ wsX1_isFull := fun w h => List.mem_cons_of_mem _ (List.mem_append_right _ h)
noncomputable def fX1_isFull (b : Nat)  (M : Mem) : Option (Int32 × Mem) := (if (M b 6) < 8 then (ck (isb 0) (some (0, M))) else (ck (isb 1) (some (1, M))))
set_option maxHeartbeats 4000000 in
set_option maxRecDepth 100000 in
theorem mtX1_isFull (E : EV) (l : Launch) (b : Nat) (hb : isLd b)  (M : Mem) : CT E l yX1_isFull wsX1_isFull rmX1_isFull vI [.ref (eA E b)] (fX1_isFull b M) M := by
  refine ct_of (cc := cX1_isFull) (nL := 1) (ret := (some .boolean)) (by decide +kernel) rfl (Nat.le_of_ble_eq_true rfl) ?_
  show ZZ E l RX1 cX1_isFull 1 (some .boolean) wsX1_isFull rmX1_isFull vI (fX1_isFull b M) M [(0, .ref (eA E b))] 0 []
  unfold fX1_isFull
  refine zz_aload_n (npc := 1) 0 rfl rfl dX1_isFull_0 rfl ?_
  refine zz_getI (npc := 4) (i := 6) (C0 := RX1) (T := TX1) (N := 12) (ld_lt0 hb) (ld_o hb) rfl (by decide) iX1_isFull_1 (List.mem_of_getElem? (i := 1) rfl) rfl dX1_isFull_1 rfl ?_
  refine zz_bipush (npc := 6) 8 (by decide) dX1_isFull_4 rfl ?_
  refine zz_icmp_lt (tgt := 13) (npc := 9) dX1_isFull_6 (by decide) rfl ?_ ?_
  · refine zz_iconst (npc := 14) 0 (by decide) dX1_isFull_13 rfl ?_
    exact zz_zret dX1_isFull_14
  · refine zz_iconst (npc := 10) 1 (by decide) dX1_isFull_9 rfl ?_
    refine zz_goto (npc := 0) (tgt := 14) dX1_isFull_10 (by decide) ?_
    exact zz_zret dX1_isFull_14
abbrev rmX1_everybody : Room := { frames := 0, cells := 0, slots := 0, locals := 0 }
theorem iX1_everybody_1 : ∀ w ∈ u_ws RX1 TX1 12, w ∈ wsX1_everybody := fun w h => List.mem_cons_of_mem _ (List.mem_append_right _ h)
noncomputable def fX1_everybody (b : Nat)  (M : Mem) : Option (Int32 × Mem) := (some ((shl 1 (M b 6)) - 1, M))
set_option maxHeartbeats 4000000 in
set_option maxRecDepth 100000 in
theorem mtX1_everybody (E : EV) (l : Launch) (b : Nat) (hb : isLd b)  (M : Mem) : CT E l yX1_everybody wsX1_everybody rmX1_everybody vI [.ref (eA E b)] (fX1_everybody b M) M := by
  refine ct_of (cc := cX1_everybody) (nL := 1) (ret := (some .int)) (by decide +kernel) rfl (Nat.le_of_ble_eq_true rfl) ?_
  show ZZ E l RX1 cX1_everybody 1 (some .int) wsX1_everybody rmX1_everybody vI (fX1_everybody b M) M [(0, .ref (eA E b))] 0 []
  unfold fX1_everybody
  refine zz_iconst (npc := 1) 1 (by decide) dX1_everybody_0 rfl ?_
  refine zz_aload_n (npc := 2) 0 rfl rfl dX1_everybody_1 rfl ?_
  refine zz_getI (npc := 5) (i := 6) (C0 := RX1) (T := TX1) (N := 12) (ld_lt0 hb) (ld_o hb) rfl (by decide) iX1_everybody_1 (List.mem_of_getElem? (i := 1) rfl) rfl dX1_everybody_2 rfl ?_
  refine zz_ishl (npc := 6) dX1_everybody_5 rfl ?_
  refine zz_iconst (npc := 7) 1 (by decide) dX1_everybody_6 rfl ?_
  refine zz_isub (npc := 8) dX1_everybody_7 rfl ?_
  exact zz_iret dX1_everybody_8
abbrev rmX1_add : Room := { frames := 1, cells := 0, slots := 0, locals := 20 }
theorem iX1_add_1 : ∀ w ∈ u_ws RX1 TX1 12, w ∈ wsX1_add := fun w h => List.mem_cons_of_mem _ (List.mem_append_right _ h)
noncomputable def fX1_add (b : Nat) (x1 : Int32) (M : Mem) : Option (Int32 × Mem) := (bd (fX1_isFull b M) fun r2 M1 => (if r2 = 0 then (ck (inb (M1 b 6) 8) (wm (wr M1 (b + 1) (ix (M1 b 6)) x1) fun M3 => (ck (inb (M3 b 6) 8) (wm (wr M3 (b + 2) (ix (M3 b 6)) 0) fun M4 => (ck (inb (M4 b 6) 8) (wm (wr M4 (b + 3) (ix (M4 b 6)) 3) fun M5 => (ck (inb (M5 b 6) 8) (wm (wr M5 (b + 4) (ix (M5 b 6)) 0) fun M6 => (ck (inb (M6 b 6) 8) (wm (wr M6 (b + 5) (ix (M6 b 6)) (-1)) fun M7 => (wm (wr M7 b 6 ((M7 b 6) + 1)) fun M8 => (some ((M8 b 6) - 1, M8))))))))))))) else (some ((-1), M1))))
set_option maxHeartbeats 4000000 in
set_option maxRecDepth 100000 in
theorem mtX1_add (E : EV) (l : Launch) (b : Nat) (hb : isLd b) (x1 : Int32) (M : Mem) : CT E l yX1_add wsX1_add rmX1_add vI [.ref (eA E b), .int x1] (fX1_add b x1 M) M := by
  refine ct_of (cc := cX1_add) (nL := 2) (ret := (some .int)) (by decide +kernel) rfl (Nat.le_of_ble_eq_true rfl) ?_
  show ZZ E l RX1 cX1_add 2 (some .int) wsX1_add rmX1_add vI (fX1_add b x1 M) M [(0, .ref (eA E b)), (1, .int x1)] 0 []
  unfold fX1_add
  refine zz_aload_n (npc := 1) 0 rfl rfl dX1_add_0 rfl ?_
  refine zz_callVi (npc := 4) (n := 0) (As := []) (ld_lt0 hb) (ld_o hb) rfl gX1_add_X1_isFull rfl rfl rfl (by decide +kernel) ⟨Nat.le_of_ble_eq_true rfl, Nat.le_of_ble_eq_true rfl⟩ rfl rfl (Nat.le_of_ble_eq_true rfl) (mtX1_isFull E l b hb  M) dX1_add_1 rfl (fun r2 M1 _ => ?_)
  refine zz_if_eq (tgt := 9) (npc := 7) dX1_add_4 (by decide) rfl ?_ ?_
  · refine zz_aload_n (npc := 10) 0 rfl rfl dX1_add_9 rfl ?_
    refine zz_getR (npc := 13) (i := 0) (C0 := RX1) (T := TX1) (N := 12) (ld_lt0 hb) (ld_o hb) rfl (by decide) iX1_add_1 (List.mem_of_getElem? (i := 1) rfl) rfl dX1_add_10 rfl ?_
    refine zz_aload_n (npc := 14) 0 rfl rfl dX1_add_13 rfl ?_
    refine zz_getI (npc := 17) (i := 6) (C0 := RX1) (T := TX1) (N := 12) (ld_lt0 hb) (ld_o hb) rfl (by decide) iX1_add_1 (List.mem_of_getElem? (i := 2) rfl) rfl dX1_add_14 rfl ?_
    refine zz_iload_n (npc := 18) 1 rfl rfl dX1_add_17 rfl ?_
    refine zz_iast (npc := 19) (ld_lt1 hb) (ld_a1 hb) dX1_add_18 rfl (fun M3 => ?_)
    refine zz_aload_n (npc := 20) 0 rfl rfl dX1_add_19 rfl ?_
    refine zz_getR (npc := 23) (i := 1) (C0 := RX1) (T := TX1) (N := 12) (ld_lt0 hb) (ld_o hb) rfl (by decide) iX1_add_1 (List.mem_of_getElem? (i := 3) rfl) rfl dX1_add_20 rfl ?_
    refine zz_aload_n (npc := 24) 0 rfl rfl dX1_add_23 rfl ?_
    refine zz_getI (npc := 27) (i := 6) (C0 := RX1) (T := TX1) (N := 12) (ld_lt0 hb) (ld_o hb) rfl (by decide) iX1_add_1 (List.mem_of_getElem? (i := 2) rfl) rfl dX1_add_24 rfl ?_
    refine zz_iconst (npc := 28) 0 (by decide) dX1_add_27 rfl ?_
    refine zz_iast (npc := 29) (ld_lt2 hb) (ld_a2 hb) dX1_add_28 rfl (fun M4 => ?_)
    refine zz_aload_n (npc := 30) 0 rfl rfl dX1_add_29 rfl ?_
    refine zz_getR (npc := 33) (i := 2) (C0 := RX1) (T := TX1) (N := 12) (ld_lt0 hb) (ld_o hb) rfl (by decide) iX1_add_1 (List.mem_of_getElem? (i := 4) rfl) rfl dX1_add_30 rfl ?_
    refine zz_aload_n (npc := 34) 0 rfl rfl dX1_add_33 rfl ?_
    refine zz_getI (npc := 37) (i := 6) (C0 := RX1) (T := TX1) (N := 12) (ld_lt0 hb) (ld_o hb) rfl (by decide) iX1_add_1 (List.mem_of_getElem? (i := 2) rfl) rfl dX1_add_34 rfl ?_
    refine zz_iconst (npc := 38) 3 (by decide) dX1_add_37 rfl ?_
    refine zz_iast (npc := 39) (ld_lt3 hb) (ld_a3 hb) dX1_add_38 rfl (fun M5 => ?_)
    refine zz_aload_n (npc := 40) 0 rfl rfl dX1_add_39 rfl ?_
    refine zz_getR (npc := 43) (i := 3) (C0 := RX1) (T := TX1) (N := 12) (ld_lt0 hb) (ld_o hb) rfl (by decide) iX1_add_1 (List.mem_of_getElem? (i := 5) rfl) rfl dX1_add_40 rfl ?_
    refine zz_aload_n (npc := 44) 0 rfl rfl dX1_add_43 rfl ?_
    refine zz_getI (npc := 47) (i := 6) (C0 := RX1) (T := TX1) (N := 12) (ld_lt0 hb) (ld_o hb) rfl (by decide) iX1_add_1 (List.mem_of_getElem? (i := 2) rfl) rfl dX1_add_44 rfl ?_
    refine zz_iconst (npc := 48) 0 (by decide) dX1_add_47 rfl ?_
    refine zz_iast (npc := 49) (ld_lt4 hb) (ld_a4 hb) dX1_add_48 rfl (fun M6 => ?_)
    refine zz_aload_n (npc := 50) 0 rfl rfl dX1_add_49 rfl ?_
    refine zz_getR (npc := 53) (i := 4) (C0 := RX1) (T := TX1) (N := 12) (ld_lt0 hb) (ld_o hb) rfl (by decide) iX1_add_1 (List.mem_of_getElem? (i := 6) rfl) rfl dX1_add_50 rfl ?_
    refine zz_aload_n (npc := 54) 0 rfl rfl dX1_add_53 rfl ?_
    refine zz_getI (npc := 57) (i := 6) (C0 := RX1) (T := TX1) (N := 12) (ld_lt0 hb) (ld_o hb) rfl (by decide) iX1_add_1 (List.mem_of_getElem? (i := 2) rfl) rfl dX1_add_54 rfl ?_
    refine zz_iconst (npc := 58) (-1) (by decide) dX1_add_57 rfl ?_
    refine zz_iast (npc := 59) (ld_lt5 hb) (ld_a5 hb) dX1_add_58 rfl (fun M7 => ?_)
    refine zz_aload_n (npc := 60) 0 rfl rfl dX1_add_59 rfl ?_
    refine zz_dup (npc := 61) rfl dX1_add_60 rfl ?_
    refine zz_getI (npc := 64) (i := 6) (C0 := RX1) (T := TX1) (N := 12) (ld_lt0 hb) (ld_o hb) rfl (by decide) iX1_add_1 (List.mem_of_getElem? (i := 2) rfl) rfl dX1_add_61 rfl ?_
    refine zz_iconst (npc := 65) 1 (by decide) dX1_add_64 rfl ?_
    refine zz_iadd (npc := 66) dX1_add_65 rfl ?_
    refine zz_putI (npc := 69) (i := 6) (C0 := RX1) (T := TX1) (N := 12) (ld_lt0 hb) (ld_o hb) rfl (by decide) iX1_add_1 (List.mem_of_getElem? (i := 2) rfl) tyX1_ok nmX1 rfl rfl rfl dX1_add_66 rfl (fun M8 => ?_)
    refine zz_aload_n (npc := 70) 0 rfl rfl dX1_add_69 rfl ?_
    refine zz_getI (npc := 73) (i := 6) (C0 := RX1) (T := TX1) (N := 12) (ld_lt0 hb) (ld_o hb) rfl (by decide) iX1_add_1 (List.mem_of_getElem? (i := 2) rfl) rfl dX1_add_70 rfl ?_
    refine zz_iconst (npc := 74) 1 (by decide) dX1_add_73 rfl ?_
    refine zz_isub (npc := 75) dX1_add_74 rfl ?_
    exact zz_iret dX1_add_75
  · refine zz_iconst (npc := 8) (-1) (by decide) dX1_add_7 rfl ?_
    exact zz_iret dX1_add_8
abbrev rmX1_separate : Room := { frames := 1, cells := 0, slots := 0, locals := 21 }
theorem iX1_separate_1 : ∀ w ∈ u_ws RX1 TX1 12, w ∈ wsX1_separate := fun w h => List.mem_cons_of_mem _ (List.mem_append_right _ h)
noncomputable def fX1_separate (b : Nat) (x1 : Int32) (M : Mem) : Option (Unit × Mem) := (bd (fX1_isPerson b x1 M) fun r2 M1 => (if r2 = 0 then (some ((), M1)) else (ck (inb x1 8) (bd (fX1_isPerson b (M1 (b + 5) (ix x1)) M1) fun r4 M3 => (if r4 = 0 then (some ((), M3)) else (ck (inb x1 8) (ck (inb (M3 (b + 5) (ix x1)) 8) (wm (wr M3 (b + 5) (ix (M3 (b + 5) (ix x1))) (-1)) fun M5 => (ck (inb x1 8) (wm (wr M5 (b + 5) (ix x1) (-1)) fun M6 => (some ((), M6))))))))))))
set_option maxHeartbeats 4000000 in
set_option maxRecDepth 100000 in
theorem mtX1_separate (E : EV) (l : Launch) (b : Nat) (hb : isLd b) (x1 : Int32) (M : Mem) : CT E l yX1_separate wsX1_separate rmX1_separate vV [.ref (eA E b), .int x1] (fX1_separate b x1 M) M := by
  refine ct_of (cc := cX1_separate) (nL := 2) (ret := none) (by decide +kernel) rfl (Nat.le_of_ble_eq_true rfl) ?_
  show ZZ E l RX1 cX1_separate 2 none wsX1_separate rmX1_separate vV (fX1_separate b x1 M) M [(0, .ref (eA E b)), (1, .int x1)] 0 []
  unfold fX1_separate
  refine zz_aload_n (npc := 1) 0 rfl rfl dX1_separate_0 rfl ?_
  refine zz_iload_n (npc := 2) 1 rfl rfl dX1_separate_1 rfl ?_
  refine zz_callVi (npc := 5) (n := 1) (As := [.int x1]) (ld_lt0 hb) (ld_o hb) rfl gX1_separate_X1_isPerson rfl rfl rfl (by decide +kernel) ⟨Nat.le_of_ble_eq_true rfl, Nat.le_of_ble_eq_true rfl⟩ rfl rfl (Nat.le_of_ble_eq_true rfl) (mtX1_isPerson E l b hb x1 M) dX1_separate_2 rfl (fun r2 M1 _ => ?_)
  refine zz_if_eq (tgt := 40) (npc := 8) dX1_separate_5 (by decide) rfl ?_ ?_
  · exact zz_vret dX1_separate_40
  · refine zz_aload_n (npc := 9) 0 rfl rfl dX1_separate_8 rfl ?_
    refine zz_aload_n (npc := 10) 0 rfl rfl dX1_separate_9 rfl ?_
    refine zz_getR (npc := 13) (i := 4) (C0 := RX1) (T := TX1) (N := 12) (ld_lt0 hb) (ld_o hb) rfl (by decide) iX1_separate_1 (List.mem_of_getElem? (i := 1) rfl) rfl dX1_separate_10 rfl ?_
    refine zz_iload_n (npc := 14) 1 rfl rfl dX1_separate_13 rfl ?_
    refine zz_iald (npc := 15) (ld_lt5 hb) (ld_a5 hb) dX1_separate_14 rfl ?_
    refine zz_callVi (npc := 18) (n := 1) (As := [.int (M1 (b + 5) (ix x1))]) (ld_lt0 hb) (ld_o hb) rfl gX1_separate_X1_isPerson rfl rfl rfl (by decide +kernel) ⟨Nat.le_of_ble_eq_true rfl, Nat.le_of_ble_eq_true rfl⟩ rfl rfl (Nat.le_of_ble_eq_true rfl) (mtX1_isPerson E l b hb (M1 (b + 5) (ix x1)) M1) dX1_separate_15 rfl (fun r4 M3 _ => ?_)
    refine zz_if_eq (tgt := 40) (npc := 21) dX1_separate_18 (by decide) rfl ?_ ?_
    · exact zz_vret dX1_separate_40
    · refine zz_aload_n (npc := 22) 0 rfl rfl dX1_separate_21 rfl ?_
      refine zz_getR (npc := 25) (i := 4) (C0 := RX1) (T := TX1) (N := 12) (ld_lt0 hb) (ld_o hb) rfl (by decide) iX1_separate_1 (List.mem_of_getElem? (i := 1) rfl) rfl dX1_separate_22 rfl ?_
      refine zz_aload_n (npc := 26) 0 rfl rfl dX1_separate_25 rfl ?_
      refine zz_getR (npc := 29) (i := 4) (C0 := RX1) (T := TX1) (N := 12) (ld_lt0 hb) (ld_o hb) rfl (by decide) iX1_separate_1 (List.mem_of_getElem? (i := 1) rfl) rfl dX1_separate_26 rfl ?_
      refine zz_iload_n (npc := 30) 1 rfl rfl dX1_separate_29 rfl ?_
      refine zz_iald (npc := 31) (ld_lt5 hb) (ld_a5 hb) dX1_separate_30 rfl ?_
      refine zz_iconst (npc := 32) (-1) (by decide) dX1_separate_31 rfl ?_
      refine zz_iast (npc := 33) (ld_lt5 hb) (ld_a5 hb) dX1_separate_32 rfl (fun M5 => ?_)
      refine zz_aload_n (npc := 34) 0 rfl rfl dX1_separate_33 rfl ?_
      refine zz_getR (npc := 37) (i := 4) (C0 := RX1) (T := TX1) (N := 12) (ld_lt0 hb) (ld_o hb) rfl (by decide) iX1_separate_1 (List.mem_of_getElem? (i := 1) rfl) rfl dX1_separate_34 rfl ?_
      refine zz_iload_n (npc := 38) 1 rfl rfl dX1_separate_37 rfl ?_
      refine zz_iconst (npc := 39) (-1) (by decide) dX1_separate_38 rfl ?_
      refine zz_iast (npc := 40) (ld_lt5 hb) (ld_a5 hb) dX1_separate_39 rfl (fun M6 => ?_)
      exact zz_vret dX1_separate_40
abbrev rmX1_join : Room := { frames := 2, cells := 0, slots := 0, locals := 43 }
theorem iX1_join_1 : ∀ w ∈ u_ws RX1 TX1 12, w ∈ wsX1_join := fun w h => List.mem_cons_of_mem _ (List.mem_append_right _ h)
noncomputable def fX1_join (b : Nat) (x1 : Int32) (x2 : Int32) (M : Mem) : Option (Unit × Mem) := (bd (fX1_areTwo b x1 x2 M) fun r2 M1 => (if r2 = 0 then (some ((), M1)) else (bd (fX1_separate b x1 M1) fun _ M3 => (bd (fX1_separate b x2 M3) fun _ M4 => (ck (inb x1 8) (wm (wr M4 (b + 5) (ix x1) x2) fun M5 => (ck (inb x2 8) (wm (wr M5 (b + 5) (ix x2) x1) fun M6 => (some ((), M6))))))))))
set_option maxHeartbeats 4000000 in
set_option maxRecDepth 100000 in
theorem mtX1_join (E : EV) (l : Launch) (b : Nat) (hb : isLd b) (x1 : Int32) (x2 : Int32) (M : Mem) : CT E l yX1_join wsX1_join rmX1_join vV [.ref (eA E b), .int x1, .int x2] (fX1_join b x1 x2 M) M := by
  refine ct_of (cc := cX1_join) (nL := 3) (ret := none) (by decide +kernel) rfl (Nat.le_of_ble_eq_true rfl) ?_
  show ZZ E l RX1 cX1_join 3 none wsX1_join rmX1_join vV (fX1_join b x1 x2 M) M [(0, .ref (eA E b)), (1, .int x1), (2, .int x2)] 0 []
  unfold fX1_join
  refine zz_aload_n (npc := 1) 0 rfl rfl dX1_join_0 rfl ?_
  refine zz_iload_n (npc := 2) 1 rfl rfl dX1_join_1 rfl ?_
  refine zz_iload_n (npc := 3) 2 rfl rfl dX1_join_2 rfl ?_
  refine zz_callVi (npc := 6) (n := 2) (As := [.int x1, .int x2]) (ld_lt0 hb) (ld_o hb) rfl gX1_join_X1_areTwo rfl rfl rfl (by decide +kernel) ⟨Nat.le_of_ble_eq_true rfl, Nat.le_of_ble_eq_true rfl⟩ rfl rfl (Nat.le_of_ble_eq_true rfl) (mtX1_areTwo E l b hb x1 x2 M) dX1_join_3 rfl (fun r2 M1 _ => ?_)
  refine zz_if_eq (tgt := 33) (npc := 9) dX1_join_6 (by decide) rfl ?_ ?_
  · exact zz_vret dX1_join_33
  · refine zz_aload_n (npc := 10) 0 rfl rfl dX1_join_9 rfl ?_
    refine zz_iload_n (npc := 11) 1 rfl rfl dX1_join_10 rfl ?_
    refine zz_callVv (npc := 14) (n := 1) (As := [.int x1]) (ld_lt0 hb) (ld_o hb) rfl gX1_join_X1_separate rfl rfl rfl (by decide +kernel) ⟨Nat.le_of_ble_eq_true rfl, Nat.le_of_ble_eq_true rfl⟩ rfl rfl (Nat.le_of_ble_eq_true rfl) (mtX1_separate E l b hb x1 M1) dX1_join_11 rfl (fun _ M3 _ => ?_)
    refine zz_aload_n (npc := 15) 0 rfl rfl dX1_join_14 rfl ?_
    refine zz_iload_n (npc := 16) 2 rfl rfl dX1_join_15 rfl ?_
    refine zz_callVv (npc := 19) (n := 1) (As := [.int x2]) (ld_lt0 hb) (ld_o hb) rfl gX1_join_X1_separate rfl rfl rfl (by decide +kernel) ⟨Nat.le_of_ble_eq_true rfl, Nat.le_of_ble_eq_true rfl⟩ rfl rfl (Nat.le_of_ble_eq_true rfl) (mtX1_separate E l b hb x2 M3) dX1_join_16 rfl (fun _ M4 _ => ?_)
    refine zz_aload_n (npc := 20) 0 rfl rfl dX1_join_19 rfl ?_
    refine zz_getR (npc := 23) (i := 4) (C0 := RX1) (T := TX1) (N := 12) (ld_lt0 hb) (ld_o hb) rfl (by decide) iX1_join_1 (List.mem_of_getElem? (i := 1) rfl) rfl dX1_join_20 rfl ?_
    refine zz_iload_n (npc := 24) 1 rfl rfl dX1_join_23 rfl ?_
    refine zz_iload_n (npc := 25) 2 rfl rfl dX1_join_24 rfl ?_
    refine zz_iast (npc := 26) (ld_lt5 hb) (ld_a5 hb) dX1_join_25 rfl (fun M5 => ?_)
    refine zz_aload_n (npc := 27) 0 rfl rfl dX1_join_26 rfl ?_
    refine zz_getR (npc := 30) (i := 4) (C0 := RX1) (T := TX1) (N := 12) (ld_lt0 hb) (ld_o hb) rfl (by decide) iX1_join_1 (List.mem_of_getElem? (i := 1) rfl) rfl dX1_join_27 rfl ?_
    refine zz_iload_n (npc := 31) 2 rfl rfl dX1_join_30 rfl ?_
    refine zz_iload_n (npc := 32) 1 rfl rfl dX1_join_31 rfl ?_
    refine zz_iast (npc := 33) (ld_lt5 hb) (ld_a5 hb) dX1_join_32 rfl (fun M6 => ?_)
    exact zz_vret dX1_join_33
abbrev rmX1_isOfKind : Room := { frames := 1, cells := 0, slots := 0, locals := 21 }
theorem iX1_isOfKind_1 : ∀ w ∈ u_ws RX1 TX1 12, w ∈ wsX1_isOfKind := fun w h => List.mem_cons_of_mem _ (List.mem_append_right _ h)
noncomputable def fX1_isOfKind_L20 (b : Nat)  : Nat → Int32 → Int32 → Int32 → Mem → Option (Int32 × Mem)
  | 0, _, _, _, _ => none
  | n + 1, y2, y3, y4, M => (if 7 ≤ y4 then (ck (isb 0) (some (0, M))) else (if y3 = y2 then (ck (isb 1) (some (1, M))) else (bd (fX7_isWithin y3 6 M) fun r5 M4 => (if r5 = 0 then (ck (isb 0) (some (0, M4))) else (ck (inb y3 7) (bv (und (ix y3)) fun v6 => (bv (y4 + 1) fun v7 => (fX1_isOfKind_L20 b n y2 v6 v7 M4))))))))
set_option maxHeartbeats 4000000 in
set_option maxRecDepth 100000 in
theorem zX1_isOfKind_L20 (E : EV) (l : Launch) (b : Nat) (hb : isLd b)   : ∀ (n : Nat) (y2 : Int32) (y3 : Int32) (y4 : Int32) (M : Mem), ZZ E l RX1 cX1_isOfKind 5 (some .boolean) wsX1_isOfKind rmX1_isOfKind vI (fX1_isOfKind_L20 b n y2 y3 y4 M) M [(2, .int y2), (3, .int y3), (4, .int y4)] 20 [] := by
  intro n
  induction n with
  | zero => intros; exact zz_none
  | succ n ih =>
    intro y2 y3 y4 M
    rw [fX1_isOfKind_L20]
    refine zz_iload (npc := 22) 2 rfl dX1_isOfKind_20 rfl ?_
    refine zz_bipush (npc := 24) 7 (by decide) dX1_isOfKind_22 rfl ?_
    refine zz_icmp_ge (tgt := 57) (npc := 27) dX1_isOfKind_24 (by decide) rfl ?_ ?_
    · refine zz_iconst (npc := 58) 0 (by decide) dX1_isOfKind_57 rfl ?_
      exact zz_zret dX1_isOfKind_58
    · refine zz_iload_n (npc := 28) 1 rfl rfl dX1_isOfKind_27 rfl ?_
      refine zz_iload_n (npc := 29) 0 rfl rfl dX1_isOfKind_28 rfl ?_
      refine zz_icmp_ne (tgt := 34) (npc := 32) dX1_isOfKind_29 (by decide) rfl ?_ ?_
      · refine zz_iload_n (npc := 35) 1 rfl rfl dX1_isOfKind_34 rfl ?_
        refine zz_bipush (npc := 37) 6 (by decide) dX1_isOfKind_35 rfl ?_
        refine zz_callNi (npc := 40) (n := 2) (As := [.int y3, .int 6]) (host := "SharedShadow") gX1_isOfKind_X7_isWithin_n72 (List.mem_of_getElem? (i := 13) rfl) (List.mem_of_getElem? (i := 9) rfl) (List.mem_of_getElem? (i := 10) rfl) rfl rfl rfl (by decide +kernel) ⟨Nat.le_of_ble_eq_true rfl, Nat.le_of_ble_eq_true rfl⟩ rfl rfl (Nat.le_of_ble_eq_true rfl) (mtX7_isWithin E l  y3 6 M) dX1_isOfKind_37 rfl (fun r5 M4 _ => ?_)
        refine zz_if_ne (tgt := 45) (npc := 43) dX1_isOfKind_40 (by decide) rfl ?_ ?_
        · refine zz_under (npc := 48) (List.mem_of_getElem? (i := 2) rfl) dX1_isOfKind_45 rfl ?_
          refine zz_iload_n (npc := 49) 1 rfl rfl dX1_isOfKind_48 rfl ?_
          refine zz_ialdU (npc := 50) dX1_isOfKind_49 rfl ?_
          refine zz_istore_nB (npc := 51) (lv1 := fun v6 => [(3, .int v6), (2, .int y2), (4, .int y4)]) rfl dX1_isOfKind_50 rfl (by decide) (fun _ => rfl) (fun v6 => ?_)
          refine zz_iincB (npc := 54) (y4 + 1) (lv1 := fun v7 => [(4, .int v7), (3, .int v6), (2, .int y2)]) dX1_isOfKind_51 rfl 2 rfl rfl (by decide) (fun _ => rfl) (fun v7 => ?_)
          refine zz_goto (npc := 0) (tgt := 20) dX1_isOfKind_54 (by decide) ?_
          refine zz_sub (npc := 0) (lv1 := [(2, .int y2), (3, .int v6), (4, .int v7)]) [2, 1, 0] rfl ?_
          exact ih y2 v6 v7 M4
        · refine zz_iconst (npc := 44) 0 (by decide) dX1_isOfKind_43 rfl ?_
          exact zz_zret dX1_isOfKind_44
      · refine zz_iconst (npc := 33) 1 (by decide) dX1_isOfKind_32 rfl ?_
        exact zz_zret dX1_isOfKind_33
noncomputable def fX1_isOfKind (b : Nat) (x1 : Int32) (x2 : Int32) (M : Mem) : Option (Int32 × Mem) := (bd (fX1_isPerson b x1 M) fun r2 M1 => (if r2 = 0 then (ck (isb 0) (some (0, M1))) else (ck (inb x1 8) (bv (M1 (b + 1) (ix x1)) fun v3 => (fX1_isOfKind_L20 b fu x2 v3 0 M1)))))
set_option maxHeartbeats 4000000 in
set_option maxRecDepth 100000 in
theorem mtX1_isOfKind (E : EV) (l : Launch) (b : Nat) (hb : isLd b) (x1 : Int32) (x2 : Int32) (M : Mem) : CT E l yX1_isOfKind wsX1_isOfKind rmX1_isOfKind vI [.ref (eA E b), .int x1, .int x2] (fX1_isOfKind b x1 x2 M) M := by
  refine ct_of (cc := cX1_isOfKind) (nL := 5) (ret := (some .boolean)) (by decide +kernel) rfl (Nat.le_of_ble_eq_true rfl) ?_
  show ZZ E l RX1 cX1_isOfKind 5 (some .boolean) wsX1_isOfKind rmX1_isOfKind vI (fX1_isOfKind b x1 x2 M) M [(0, .ref (eA E b)), (1, .int x1), (2, .int x2)] 0 []
  unfold fX1_isOfKind
  refine zz_aload_n (npc := 1) 0 rfl rfl dX1_isOfKind_0 rfl ?_
  refine zz_iload_n (npc := 2) 1 rfl rfl dX1_isOfKind_1 rfl ?_
  refine zz_callVi (npc := 5) (n := 1) (As := [.int x1]) (ld_lt0 hb) (ld_o hb) rfl gX1_isOfKind_X1_isPerson rfl rfl rfl (by decide +kernel) ⟨Nat.le_of_ble_eq_true rfl, Nat.le_of_ble_eq_true rfl⟩ rfl rfl (Nat.le_of_ble_eq_true rfl) (mtX1_isPerson E l b hb x1 M) dX1_isOfKind_2 rfl (fun r2 M1 _ => ?_)
  refine zz_if_ne (tgt := 10) (npc := 8) dX1_isOfKind_5 (by decide) rfl ?_ ?_
  · refine zz_aload_n (npc := 11) 0 rfl rfl dX1_isOfKind_10 rfl ?_
    refine zz_getR (npc := 14) (i := 0) (C0 := RX1) (T := TX1) (N := 12) (ld_lt0 hb) (ld_o hb) rfl (by decide) iX1_isOfKind_1 (List.mem_of_getElem? (i := 1) rfl) rfl dX1_isOfKind_11 rfl ?_
    refine zz_iload_n (npc := 15) 1 rfl rfl dX1_isOfKind_14 rfl ?_
    refine zz_iald (npc := 16) (ld_lt1 hb) (ld_a1 hb) dX1_isOfKind_15 rfl ?_
    refine zz_istore_nB (npc := 17) (lv1 := fun v3 => [(3, .int v3), (0, .ref (eA E b)), (1, .int x1), (2, .int x2)]) rfl dX1_isOfKind_16 rfl (by decide) (fun _ => rfl) (fun v3 => ?_)
    refine zz_iconst (npc := 18) 0 (by decide) dX1_isOfKind_17 rfl ?_
    refine zz_istore (npc := 20) (lv1 := [(4, .int 0), (3, .int v3), (0, .ref (eA E b)), (1, .int x1), (2, .int x2)]) dX1_isOfKind_18 rfl (by decide) rfl ?_
    refine zz_sub (npc := 0) (lv1 := [(2, .int x2), (3, .int v3), (4, .int 0)]) [4, 1, 0] rfl ?_
    exact zX1_isOfKind_L20 E l b hb fu x2 v3 0 M1
  · refine zz_iconst (npc := 9) 0 (by decide) dX1_isOfKind_8 rfl ?_
    exact zz_zret dX1_isOfKind_9
abbrev rmX1_claimOf : Room := { frames := 0, cells := 0, slots := 0, locals := 0 }
theorem iX1_claimOf_1 : ∀ w ∈ u_ws RX1 TX1 12, w ∈ wsX1_claimOf := fun w h => List.mem_cons_of_mem _ (List.mem_append_right _ h)
noncomputable def fX1_claimOf_L134 (b : Nat)  (w0 : Int32) (w1 : Int32) (M : Mem) : Option (Int32 × Mem) := (if w1 = w0 then (some (50, M)) else (some (0, M)))
set_option maxHeartbeats 4000000 in
set_option maxRecDepth 100000 in
theorem zX1_claimOf_L134 (E : EV) (l : Launch) (b : Nat) (hb : isLd b)   : ∀ (w0 : Int32) (w1 : Int32) (M : Mem), ZZ E l RX1 cX1_claimOf 5 (some .int) wsX1_claimOf rmX1_claimOf vI (fX1_claimOf_L134 b w0 w1 M) M [] 134 [.int w0, .int w1] := by
  intro w0 w1 M
  unfold fX1_claimOf_L134
  refine zz_icmp_ne (tgt := 142) (npc := 137) dX1_claimOf_134 (by decide) rfl ?_ ?_
  · refine zz_iconst (npc := 143) 0 (by decide) dX1_claimOf_142 rfl ?_
    exact zz_iret dX1_claimOf_143
  · refine zz_bipush (npc := 139) 50 (by decide) dX1_claimOf_137 rfl ?_
    refine zz_goto (npc := 0) (tgt := 143) dX1_claimOf_139 (by decide) ?_
    exact zz_iret dX1_claimOf_143
noncomputable def fX1_claimOf_L25 (b : Nat)  (y1 : Int32) (y2 : Int32) (w0 : Int32) (M : Mem) : Option (Int32 × Mem) := (ck (inb y1 8) (bv (M (b + 2) (ix y1)) fun v1 => (ck (inb y1 8) (if (M (b + 1) (ix y1)) = 1 then (ck (inb y1 8) (some (v1 + (2 * (M (b + 3) (ix y1))), M))) else (if (M (b + 1) (ix y1)) = 2 then (some (v1 + 10, M)) else (if (M (b + 1) (ix y1)) = 3 then (some ((v1 + 10) / 2, M)) else (if (M (b + 1) (ix y1)) = 4 then (if w0 = 0 then (some (0, M)) else (some ((v1 + 10) / 2, M))) else (if (M (b + 1) (ix y1)) = 5 then (if (irm y1 2) = 0 then (fX1_claimOf_L134 b 1 w0 M) else (fX1_claimOf_L134 b 0 w0 M)) else (if (M (b + 1) (ix y1)) = 6 then (if y2 = 8 then (some (99, M)) else (ck (inb y1 8) (some (v1 + (2 * (M (b + 3) (ix y1))), M)))) else (some (v1, M)))))))))))
set_option maxHeartbeats 4000000 in
set_option maxRecDepth 100000 in
theorem zX1_claimOf_L25 (E : EV) (l : Launch) (b : Nat) (hb : isLd b)   : ∀ (y1 : Int32) (y2 : Int32) (w0 : Int32) (M : Mem), ZZ E l RX1 cX1_claimOf 5 (some .int) wsX1_claimOf rmX1_claimOf vI (fX1_claimOf_L25 b y1 y2 w0 M) M [(0, .ref (eA E b)), (1, .int y1), (2, .int y2)] 25 [.int w0] := by
  intro y1 y2 w0 M
  unfold fX1_claimOf_L25
  refine zz_istore_n (npc := 26) (lv1 := [(3, .int w0), (0, .ref (eA E b)), (1, .int y1), (2, .int y2)]) rfl dX1_claimOf_25 rfl (by decide) rfl ?_
  refine zz_aload_n (npc := 27) 1 rfl rfl dX1_claimOf_26 rfl ?_
  refine zz_getR (npc := 30) (i := 1) (C0 := RX1) (T := TX1) (N := 12) (ld_lt0 hb) (ld_o hb) rfl (by decide) iX1_claimOf_1 (List.mem_of_getElem? (i := 2) rfl) rfl dX1_claimOf_27 rfl ?_
  refine zz_iload_n (npc := 31) 2 rfl rfl dX1_claimOf_30 rfl ?_
  refine zz_iald (npc := 32) (ld_lt2 hb) (ld_a2 hb) dX1_claimOf_31 rfl ?_
  refine zz_istoreB (npc := 34) (lv1 := fun v1 => [(4, .int v1), (3, .int w0), (0, .ref (eA E b)), (1, .int y1), (2, .int y2)]) dX1_claimOf_32 rfl (by decide) (fun _ => rfl) (fun v1 => ?_)
  refine zz_aload_n (npc := 35) 2 rfl rfl dX1_claimOf_34 rfl ?_
  refine zz_getR (npc := 38) (i := 0) (C0 := RX1) (T := TX1) (N := 12) (ld_lt0 hb) (ld_o hb) rfl (by decide) iX1_claimOf_1 (List.mem_of_getElem? (i := 3) rfl) rfl dX1_claimOf_35 rfl ?_
  refine zz_iload_n (npc := 39) 3 rfl rfl dX1_claimOf_38 rfl ?_
  refine zz_iald (npc := 40) (ld_lt1 hb) (ld_a1 hb) dX1_claimOf_39 rfl ?_
  refine zz_tcase (npc := 0) (off := 40) (tgt := 80) 1 dX1_claimOf_40 (by decide) (by decide) (by decide) (by decide) (fun _ => ?_) (fun q40_0 => ?_)
  · refine zz_iload (npc := 82) 0 rfl dX1_claimOf_80 rfl ?_
    refine zz_iconst (npc := 83) 2 (by decide) dX1_claimOf_82 rfl ?_
    refine zz_aload_n (npc := 84) 2 rfl rfl dX1_claimOf_83 rfl ?_
    refine zz_getR (npc := 87) (i := 2) (C0 := RX1) (T := TX1) (N := 12) (ld_lt0 hb) (ld_o hb) rfl (by decide) iX1_claimOf_1 (List.mem_of_getElem? (i := 4) rfl) rfl dX1_claimOf_84 rfl ?_
    refine zz_iload_n (npc := 88) 3 rfl rfl dX1_claimOf_87 rfl ?_
    refine zz_iald (npc := 89) (ld_lt3 hb) (ld_a3 hb) dX1_claimOf_88 rfl ?_
    refine zz_imul (npc := 90) dX1_claimOf_89 rfl ?_
    refine zz_iadd (npc := 91) dX1_claimOf_90 rfl ?_
    exact zz_iret dX1_claimOf_91
  refine zz_tcase (npc := 0) (off := 52) (tgt := 92) 2 dX1_claimOf_40 (by decide) (by decide) (by decide) (by decide) (fun _ => ?_) (fun q40_1 => ?_)
  · refine zz_iload (npc := 94) 0 rfl dX1_claimOf_92 rfl ?_
    refine zz_bipush (npc := 96) 10 (by decide) dX1_claimOf_94 rfl ?_
    refine zz_iadd (npc := 97) dX1_claimOf_96 rfl ?_
    exact zz_iret dX1_claimOf_97
  refine zz_tcase (npc := 0) (off := 58) (tgt := 98) 3 dX1_claimOf_40 (by decide) (by decide) (by decide) (by decide) (fun _ => ?_) (fun q40_2 => ?_)
  · refine zz_iload (npc := 100) 0 rfl dX1_claimOf_98 rfl ?_
    refine zz_bipush (npc := 102) 10 (by decide) dX1_claimOf_100 rfl ?_
    refine zz_iadd (npc := 103) dX1_claimOf_102 rfl ?_
    refine zz_iconst (npc := 104) 2 (by decide) dX1_claimOf_103 rfl ?_
    refine zz_idiv (npc := 105) (by decide) dX1_claimOf_104 rfl ?_
    exact zz_iret dX1_claimOf_105
  refine zz_tcase (npc := 0) (off := 66) (tgt := 106) 4 dX1_claimOf_40 (by decide) (by decide) (by decide) (by decide) (fun _ => ?_) (fun q40_3 => ?_)
  · refine zz_iload_n (npc := 107) 1 rfl rfl dX1_claimOf_106 rfl ?_
    refine zz_if_eq (tgt := 120) (npc := 110) dX1_claimOf_107 (by decide) rfl ?_ ?_
    · refine zz_iconst (npc := 121) 0 (by decide) dX1_claimOf_120 rfl ?_
      exact zz_iret dX1_claimOf_121
    · refine zz_iload (npc := 112) 0 rfl dX1_claimOf_110 rfl ?_
      refine zz_bipush (npc := 114) 10 (by decide) dX1_claimOf_112 rfl ?_
      refine zz_iadd (npc := 115) dX1_claimOf_114 rfl ?_
      refine zz_iconst (npc := 116) 2 (by decide) dX1_claimOf_115 rfl ?_
      refine zz_idiv (npc := 117) (by decide) dX1_claimOf_116 rfl ?_
      refine zz_goto (npc := 0) (tgt := 121) dX1_claimOf_117 (by decide) ?_
      exact zz_iret dX1_claimOf_121
  refine zz_tcase (npc := 0) (off := 82) (tgt := 122) 5 dX1_claimOf_40 (by decide) (by decide) (by decide) (by decide) (fun _ => ?_) (fun q40_4 => ?_)
  · refine zz_iload_n (npc := 123) 1 rfl rfl dX1_claimOf_122 rfl ?_
    refine zz_iload_n (npc := 124) 3 rfl rfl dX1_claimOf_123 rfl ?_
    refine zz_iconst (npc := 125) 2 (by decide) dX1_claimOf_124 rfl ?_
    refine zz_irem (npc := 126) (by decide) dX1_claimOf_125 rfl ?_
    refine zz_if_ne (tgt := 133) (npc := 129) dX1_claimOf_126 (by decide) rfl ?_ ?_
    · refine zz_iconst (npc := 134) 0 (by decide) dX1_claimOf_133 rfl ?_
      refine zz_sub (npc := 0) (lv1 := []) [] rfl ?_
      exact zX1_claimOf_L134 E l b hb 0 w0 M
    · refine zz_iconst (npc := 130) 1 (by decide) dX1_claimOf_129 rfl ?_
      refine zz_goto (npc := 0) (tgt := 134) dX1_claimOf_130 (by decide) ?_
      refine zz_sub (npc := 0) (lv1 := []) [] rfl ?_
      exact zX1_claimOf_L134 E l b hb 1 w0 M
  refine zz_tcase (npc := 0) (off := 104) (tgt := 144) 6 dX1_claimOf_40 (by decide) (by decide) (by decide) (by decide) (fun _ => ?_) (fun q40_5 => ?_)
  · refine zz_iload_n (npc := 145) 4 rfl rfl dX1_claimOf_144 rfl ?_
    refine zz_bipush (npc := 147) 8 (by decide) dX1_claimOf_145 rfl ?_
    refine zz_icmp_ne (tgt := 155) (npc := 150) dX1_claimOf_147 (by decide) rfl ?_ ?_
    · refine zz_iload (npc := 157) 0 rfl dX1_claimOf_155 rfl ?_
      refine zz_iconst (npc := 158) 2 (by decide) dX1_claimOf_157 rfl ?_
      refine zz_aload_n (npc := 159) 2 rfl rfl dX1_claimOf_158 rfl ?_
      refine zz_getR (npc := 162) (i := 2) (C0 := RX1) (T := TX1) (N := 12) (ld_lt0 hb) (ld_o hb) rfl (by decide) iX1_claimOf_1 (List.mem_of_getElem? (i := 4) rfl) rfl dX1_claimOf_159 rfl ?_
      refine zz_iload_n (npc := 163) 3 rfl rfl dX1_claimOf_162 rfl ?_
      refine zz_iald (npc := 164) (ld_lt3 hb) (ld_a3 hb) dX1_claimOf_163 rfl ?_
      refine zz_imul (npc := 165) dX1_claimOf_164 rfl ?_
      refine zz_iadd (npc := 166) dX1_claimOf_165 rfl ?_
      exact zz_iret dX1_claimOf_166
    · refine zz_bipush (npc := 152) 99 (by decide) dX1_claimOf_150 rfl ?_
      refine zz_goto (npc := 0) (tgt := 166) dX1_claimOf_152 (by decide) ?_
      exact zz_iret dX1_claimOf_166
  refine zz_tdef (npc := 0) (tgt := 167) dX1_claimOf_40 (td_r _ 1 6 (by decide) (by intro k h1 h2; rcases (show k = 1 ∨ k = 2 ∨ k = 3 ∨ k = 4 ∨ k = 5 ∨ k = 6 by omega) with rfl | rfl | rfl | rfl | rfl | rfl <;> first | exact q40_0 | exact q40_1 | exact q40_2 | exact q40_3 | exact q40_4 | exact q40_5)) (by decide) ?_
  refine zz_iload (npc := 169) 0 rfl dX1_claimOf_167 rfl ?_
  exact zz_iret dX1_claimOf_169
noncomputable def fX1_claimOf (b : Nat) (x1 : Int32) (x2 : Int32) (M : Mem) : Option (Int32 × Mem) := (if x1 < 0 then (some (0, M)) else (if x1 < (M b 6) then (if (irm x2 2) = 0 then (fX1_claimOf_L25 b x1 x2 1 M) else (fX1_claimOf_L25 b x1 x2 0 M)) else (some (0, M))))
set_option maxHeartbeats 4000000 in
set_option maxRecDepth 100000 in
theorem mtX1_claimOf (E : EV) (l : Launch) (b : Nat) (hb : isLd b) (x1 : Int32) (x2 : Int32) (M : Mem) : CT E l yX1_claimOf wsX1_claimOf rmX1_claimOf vI [.ref (eA E b), .int x1, .int x2] (fX1_claimOf b x1 x2 M) M := by
  refine ct_of (cc := cX1_claimOf) (nL := 5) (ret := (some .int)) (by decide +kernel) rfl (Nat.le_of_ble_eq_true rfl) ?_
  show ZZ E l RX1 cX1_claimOf 5 (some .int) wsX1_claimOf rmX1_claimOf vI (fX1_claimOf b x1 x2 M) M [(0, .ref (eA E b)), (1, .int x1), (2, .int x2)] 0 []
  unfold fX1_claimOf
  refine zz_iload_n (npc := 1) 1 rfl rfl dX1_claimOf_0 rfl ?_
  refine zz_if_lt (tgt := 12) (npc := 4) dX1_claimOf_1 (by decide) rfl ?_ ?_
  · refine zz_iconst (npc := 13) 0 (by decide) dX1_claimOf_12 rfl ?_
    exact zz_iret dX1_claimOf_13
  · refine zz_iload_n (npc := 5) 1 rfl rfl dX1_claimOf_4 rfl ?_
    refine zz_aload_n (npc := 6) 0 rfl rfl dX1_claimOf_5 rfl ?_
    refine zz_getI (npc := 9) (i := 6) (C0 := RX1) (T := TX1) (N := 12) (ld_lt0 hb) (ld_o hb) rfl (by decide) iX1_claimOf_1 (List.mem_of_getElem? (i := 1) rfl) rfl dX1_claimOf_6 rfl ?_
    refine zz_icmp_lt (tgt := 14) (npc := 12) dX1_claimOf_9 (by decide) rfl ?_ ?_
    · refine zz_iload_n (npc := 15) 2 rfl rfl dX1_claimOf_14 rfl ?_
      refine zz_iconst (npc := 16) 2 (by decide) dX1_claimOf_15 rfl ?_
      refine zz_irem (npc := 17) (by decide) dX1_claimOf_16 rfl ?_
      refine zz_if_ne (tgt := 24) (npc := 20) dX1_claimOf_17 (by decide) rfl ?_ ?_
      · refine zz_iconst (npc := 25) 0 (by decide) dX1_claimOf_24 rfl ?_
        exact zX1_claimOf_L25 E l b hb x1 x2 0 M
      · refine zz_iconst (npc := 21) 1 (by decide) dX1_claimOf_20 rfl ?_
        refine zz_goto (npc := 0) (tgt := 25) dX1_claimOf_21 (by decide) ?_
        exact zX1_claimOf_L25 E l b hb x1 x2 1 M
    · refine zz_iconst (npc := 13) 0 (by decide) dX1_claimOf_12 rfl ?_
      exact zz_iret dX1_claimOf_13
abbrev rmX1_stronger : Room := { frames := 1, cells := 0, slots := 0, locals := 24 }
noncomputable def fX1_stronger (b : Nat) (x1 : Int32) (x2 : Int32) (x3 : Int32) (M : Mem) : Option (Int32 × Mem) := (bv (imin x1 x2) fun v1 => (bv (imax x1 x2) fun v2 => (bd (fX1_claimOf b v2 x3 M) fun r4 M3 => (bd (fX1_claimOf b v1 x3 M3) fun r6 M5 => (if r4 ≤ r6 then (some (v1, M5)) else (some (v2, M5)))))))
set_option maxHeartbeats 4000000 in
set_option maxRecDepth 100000 in
theorem mtX1_stronger (E : EV) (l : Launch) (b : Nat) (hb : isLd b) (x1 : Int32) (x2 : Int32) (x3 : Int32) (M : Mem) : CT E l yX1_stronger wsX1_stronger rmX1_stronger vI [.ref (eA E b), .int x1, .int x2, .int x3] (fX1_stronger b x1 x2 x3 M) M := by
  refine ct_of (cc := cX1_stronger) (nL := 6) (ret := (some .int)) (by decide +kernel) rfl (Nat.le_of_ble_eq_true rfl) ?_
  show ZZ E l RX1 cX1_stronger 6 (some .int) wsX1_stronger rmX1_stronger vI (fX1_stronger b x1 x2 x3 M) M [(0, .ref (eA E b)), (1, .int x1), (2, .int x2), (3, .int x3)] 0 []
  unfold fX1_stronger
  refine zz_iload_n (npc := 1) 1 rfl rfl dX1_stronger_0 rfl ?_
  refine zz_iload_n (npc := 2) 2 rfl rfl dX1_stronger_1 rfl ?_
  refine zz_mmin (npc := 5) (List.mem_of_getElem? (i := 1) rfl) (List.mem_of_getElem? (i := 2) rfl) (List.mem_of_getElem? (i := 3) rfl) (List.mem_of_getElem? (i := 4) rfl) (Nat.le_of_ble_eq_true rfl) (Nat.le_of_ble_eq_true rfl) dX1_stronger_2 rfl ?_
  refine zz_istoreB (npc := 7) (lv1 := fun v1 => [(4, .int v1), (0, .ref (eA E b)), (1, .int x1), (2, .int x2), (3, .int x3)]) dX1_stronger_5 rfl (by decide) (fun _ => rfl) (fun v1 => ?_)
  refine zz_iload_n (npc := 8) 2 rfl rfl dX1_stronger_7 rfl ?_
  refine zz_iload_n (npc := 9) 3 rfl rfl dX1_stronger_8 rfl ?_
  refine zz_mmax (npc := 12) (List.mem_of_getElem? (i := 5) rfl) (List.mem_of_getElem? (i := 6) rfl) (List.mem_of_getElem? (i := 3) rfl) (List.mem_of_getElem? (i := 7) rfl) (Nat.le_of_ble_eq_true rfl) (Nat.le_of_ble_eq_true rfl) dX1_stronger_9 rfl ?_
  refine zz_istoreB (npc := 14) (lv1 := fun v2 => [(5, .int v2), (4, .int v1), (0, .ref (eA E b)), (1, .int x1), (2, .int x2), (3, .int x3)]) dX1_stronger_12 rfl (by decide) (fun _ => rfl) (fun v2 => ?_)
  refine zz_aload_n (npc := 15) 2 rfl rfl dX1_stronger_14 rfl ?_
  refine zz_iload (npc := 17) 0 rfl dX1_stronger_15 rfl ?_
  refine zz_iload_n (npc := 18) 5 rfl rfl dX1_stronger_17 rfl ?_
  refine zz_callVi (npc := 21) (n := 2) (As := [.int v2, .int x3]) (ld_lt0 hb) (ld_o hb) rfl gX1_stronger_X1_claimOf rfl rfl rfl (by decide +kernel) ⟨Nat.le_of_ble_eq_true rfl, Nat.le_of_ble_eq_true rfl⟩ rfl rfl (Nat.le_of_ble_eq_true rfl) (mtX1_claimOf E l b hb v2 x3 M) dX1_stronger_18 rfl (fun r4 M3 _ => ?_)
  refine zz_aload_n (npc := 22) 2 rfl rfl dX1_stronger_21 rfl ?_
  refine zz_iload (npc := 24) 1 rfl dX1_stronger_22 rfl ?_
  refine zz_iload_n (npc := 25) 5 rfl rfl dX1_stronger_24 rfl ?_
  refine zz_callVi (npc := 28) (n := 2) (As := [.int v1, .int x3]) (ld_lt0 hb) (ld_o hb) rfl gX1_stronger_X1_claimOf rfl rfl rfl (by decide +kernel) ⟨Nat.le_of_ble_eq_true rfl, Nat.le_of_ble_eq_true rfl⟩ rfl rfl (Nat.le_of_ble_eq_true rfl) (mtX1_claimOf E l b hb v1 x3 M3) dX1_stronger_25 rfl (fun r6 M5 _ => ?_)
  refine zz_icmp_le (tgt := 36) (npc := 31) dX1_stronger_28 (by decide) rfl ?_ ?_
  · refine zz_iload (npc := 38) 1 rfl dX1_stronger_36 rfl ?_
    exact zz_iret dX1_stronger_38
  · refine zz_iload (npc := 33) 0 rfl dX1_stronger_31 rfl ?_
    refine zz_goto (npc := 0) (tgt := 38) dX1_stronger_33 (by decide) ?_
    exact zz_iret dX1_stronger_38
abbrev rmX1_havers : Room := { frames := 2, cells := 0, slots := 0, locals := 49 }
theorem iX1_havers_1 : ∀ w ∈ u_ws RX1 TX1 12, w ∈ wsX1_havers := fun w h => List.mem_cons_of_mem _ (List.mem_append_right _ h)
noncomputable def fX1_havers_L72 (b : Nat) (k29 : Int32 → Int32 → Mem → Option (Int32 × Mem)) (y1 : Int32) (y2 : Int32) (M : Mem) : Option (Int32 × Mem) := (bv (y2 + 1) fun v6 => (k29 y1 v6 M))
set_option maxHeartbeats 4000000 in
set_option maxRecDepth 100000 in
theorem zX1_havers_L72 (E : EV) (l : Launch) (b : Nat) (hb : isLd b) (k29 : Int32 → Int32 → Mem → Option (Int32 × Mem)) (hk29 : ∀ (y1_ : Int32) (y2_ : Int32) (M_ : Mem), ZZ E l RX1 cX1_havers 3 (some .int) wsX1_havers rmX1_havers vI (k29 y1_ y2_ M_) M_ [(0, .ref (eA E b)), (1, .int y1_), (2, .int y2_)] 29 []) : ∀ (y1 : Int32) (y2 : Int32) (M : Mem), ZZ E l RX1 cX1_havers 3 (some .int) wsX1_havers rmX1_havers vI (fX1_havers_L72 b k29 y1 y2 M) M [(0, .ref (eA E b)), (1, .int y1), (2, .int y2)] 72 [] := by
  intro y1 y2 M
  unfold fX1_havers_L72
  refine zz_iincB (npc := 75) (y2 + 1) (lv1 := fun v6 => [(2, .int v6), (0, .ref (eA E b)), (1, .int y1)]) dX1_havers_72 rfl 2 rfl rfl (by decide) (fun _ => rfl) (fun v6 => ?_)
  refine zz_goto (npc := 0) (tgt := 29) dX1_havers_75 (by decide) ?_
  refine zz_sub (npc := 0) (lv1 := [(0, .ref (eA E b)), (1, .int y1), (2, .int v6)]) [1, 2, 0] rfl ?_
  exact hk29 y1 v6 M
noncomputable def fX1_havers_L66 (b : Nat) (k29 : Int32 → Int32 → Mem → Option (Int32 × Mem)) (y1 : Int32) (y2 : Int32) (M : Mem) : Option (Int32 × Mem) := (bv (y1 ||| (shl 1 y2)) fun v5 => (fX1_havers_L72 b k29 v5 y2 M))
set_option maxHeartbeats 4000000 in
set_option maxRecDepth 100000 in
theorem zX1_havers_L66 (E : EV) (l : Launch) (b : Nat) (hb : isLd b) (k29 : Int32 → Int32 → Mem → Option (Int32 × Mem)) (hk29 : ∀ (y1_ : Int32) (y2_ : Int32) (M_ : Mem), ZZ E l RX1 cX1_havers 3 (some .int) wsX1_havers rmX1_havers vI (k29 y1_ y2_ M_) M_ [(0, .ref (eA E b)), (1, .int y1_), (2, .int y2_)] 29 []) : ∀ (y1 : Int32) (y2 : Int32) (M : Mem), ZZ E l RX1 cX1_havers 3 (some .int) wsX1_havers rmX1_havers vI (fX1_havers_L66 b k29 y1 y2 M) M [(0, .ref (eA E b)), (1, .int y1), (2, .int y2)] 66 [] := by
  intro y1 y2 M
  unfold fX1_havers_L66
  refine zz_iload_n (npc := 67) 1 rfl rfl dX1_havers_66 rfl ?_
  refine zz_iconst (npc := 68) 1 (by decide) dX1_havers_67 rfl ?_
  refine zz_iload_n (npc := 69) 2 rfl rfl dX1_havers_68 rfl ?_
  refine zz_ishl (npc := 70) dX1_havers_69 rfl ?_
  refine zz_ior (npc := 71) dX1_havers_70 rfl ?_
  refine zz_istore_nB (npc := 72) (lv1 := fun v5 => [(1, .int v5), (0, .ref (eA E b)), (2, .int y2)]) rfl dX1_havers_71 rfl (by decide) (fun _ => rfl) (fun v5 => ?_)
  refine zz_sub (npc := 0) (lv1 := [(0, .ref (eA E b)), (1, .int v5), (2, .int y2)]) [1, 0, 2] rfl ?_
  exact zX1_havers_L72 E l b hb k29 hk29 v5 y2 M
noncomputable def fX1_havers_L29 (b : Nat)  : Nat → Int32 → Int32 → Mem → Option (Int32 × Mem)
  | 0, _, _, _ => none
  | n + 1, y1, y2, M => (if (M b 6) ≤ y2 then (some (y1, M)) else (ck (inb y2 8) (if (M (b + 5) (ix y2)) = (-1) then (fX1_havers_L66 b (fX1_havers_L29 b n) y1 y2 M) else (ck (inb y2 8) (bd (fX1_stronger b y2 (M (b + 5) (ix y2)) (M b 8) M) fun r4 M3 => (if r4 = y2 then (fX1_havers_L66 b (fX1_havers_L29 b n) y1 y2 M3) else (fX1_havers_L72 b (fX1_havers_L29 b n) y1 y2 M3)))))))
set_option maxHeartbeats 4000000 in
set_option maxRecDepth 100000 in
theorem zX1_havers_L29 (E : EV) (l : Launch) (b : Nat) (hb : isLd b)   : ∀ (n : Nat) (y1 : Int32) (y2 : Int32) (M : Mem), ZZ E l RX1 cX1_havers 3 (some .int) wsX1_havers rmX1_havers vI (fX1_havers_L29 b n y1 y2 M) M [(0, .ref (eA E b)), (1, .int y1), (2, .int y2)] 29 [] := by
  intro n
  induction n with
  | zero => intros; exact zz_none
  | succ n ih =>
    intro y1 y2 M
    rw [fX1_havers_L29]
    refine zz_iload_n (npc := 30) 2 rfl rfl dX1_havers_29 rfl ?_
    refine zz_aload_n (npc := 31) 0 rfl rfl dX1_havers_30 rfl ?_
    refine zz_getI (npc := 34) (i := 6) (C0 := RX1) (T := TX1) (N := 12) (ld_lt0 hb) (ld_o hb) rfl (by decide) iX1_havers_1 (List.mem_of_getElem? (i := 3) rfl) rfl dX1_havers_31 rfl ?_
    refine zz_icmp_ge (tgt := 78) (npc := 37) dX1_havers_34 (by decide) rfl ?_ ?_
    · refine zz_iload_n (npc := 79) 1 rfl rfl dX1_havers_78 rfl ?_
      exact zz_iret dX1_havers_79
    · refine zz_aload_n (npc := 38) 0 rfl rfl dX1_havers_37 rfl ?_
      refine zz_getR (npc := 41) (i := 4) (C0 := RX1) (T := TX1) (N := 12) (ld_lt0 hb) (ld_o hb) rfl (by decide) iX1_havers_1 (List.mem_of_getElem? (i := 4) rfl) rfl dX1_havers_38 rfl ?_
      refine zz_iload_n (npc := 42) 2 rfl rfl dX1_havers_41 rfl ?_
      refine zz_iald (npc := 43) (ld_lt5 hb) (ld_a5 hb) dX1_havers_42 rfl ?_
      refine zz_iconst (npc := 44) (-1) (by decide) dX1_havers_43 rfl ?_
      refine zz_icmp_eq (tgt := 66) (npc := 47) dX1_havers_44 (by decide) rfl ?_ ?_
      · exact zX1_havers_L66 E l b hb (fX1_havers_L29 b n) ih y1 y2 M
      · refine zz_aload_n (npc := 48) 0 rfl rfl dX1_havers_47 rfl ?_
        refine zz_iload_n (npc := 49) 2 rfl rfl dX1_havers_48 rfl ?_
        refine zz_aload_n (npc := 50) 0 rfl rfl dX1_havers_49 rfl ?_
        refine zz_getR (npc := 53) (i := 4) (C0 := RX1) (T := TX1) (N := 12) (ld_lt0 hb) (ld_o hb) rfl (by decide) iX1_havers_1 (List.mem_of_getElem? (i := 4) rfl) rfl dX1_havers_50 rfl ?_
        refine zz_iload_n (npc := 54) 2 rfl rfl dX1_havers_53 rfl ?_
        refine zz_iald (npc := 55) (ld_lt5 hb) (ld_a5 hb) dX1_havers_54 rfl ?_
        refine zz_aload_n (npc := 56) 0 rfl rfl dX1_havers_55 rfl ?_
        refine zz_getI (npc := 59) (i := 8) (C0 := RX1) (T := TX1) (N := 12) (ld_lt0 hb) (ld_o hb) rfl (by decide) iX1_havers_1 (List.mem_of_getElem? (i := 1) rfl) rfl dX1_havers_56 rfl ?_
        refine zz_callVi (npc := 62) (n := 3) (As := [.int y2, .int (M (b + 5) (ix y2)), .int (M b 8)]) (ld_lt0 hb) (ld_o hb) rfl gX1_havers_X1_stronger rfl rfl rfl (by decide +kernel) ⟨Nat.le_of_ble_eq_true rfl, Nat.le_of_ble_eq_true rfl⟩ rfl rfl (Nat.le_of_ble_eq_true rfl) (mtX1_stronger E l b hb y2 (M (b + 5) (ix y2)) (M b 8) M) dX1_havers_59 rfl (fun r4 M3 _ => ?_)
        refine zz_iload_n (npc := 63) 2 rfl rfl dX1_havers_62 rfl ?_
        refine zz_icmp_ne (tgt := 72) (npc := 66) dX1_havers_63 (by decide) rfl ?_ ?_
        · exact zX1_havers_L72 E l b hb (fX1_havers_L29 b n) ih y1 y2 M3
        · exact zX1_havers_L66 E l b hb (fX1_havers_L29 b n) ih y1 y2 M3
noncomputable def fX1_havers (b : Nat)  (M : Mem) : Option (Int32 × Mem) := (if 16 ≤ (M b 8) then (some (0, M)) else (bd (fX7_bit (M b 7) (M b 8) M) fun r2 M1 => (if r2 = 0 then (some (0, M1)) else (fX1_havers_L29 b fu 0 0 M1))))
set_option maxHeartbeats 4000000 in
set_option maxRecDepth 100000 in
theorem mtX1_havers (E : EV) (l : Launch) (b : Nat) (hb : isLd b)  (M : Mem) : CT E l yX1_havers wsX1_havers rmX1_havers vI [.ref (eA E b)] (fX1_havers b M) M := by
  refine ct_of (cc := cX1_havers) (nL := 3) (ret := (some .int)) (by decide +kernel) rfl (Nat.le_of_ble_eq_true rfl) ?_
  show ZZ E l RX1 cX1_havers 3 (some .int) wsX1_havers rmX1_havers vI (fX1_havers b M) M [(0, .ref (eA E b))] 0 []
  unfold fX1_havers
  refine zz_aload_n (npc := 1) 0 rfl rfl dX1_havers_0 rfl ?_
  refine zz_getI (npc := 4) (i := 8) (C0 := RX1) (T := TX1) (N := 12) (ld_lt0 hb) (ld_o hb) rfl (by decide) iX1_havers_1 (List.mem_of_getElem? (i := 1) rfl) rfl dX1_havers_1 rfl ?_
  refine zz_bipush (npc := 6) 16 (by decide) dX1_havers_4 rfl ?_
  refine zz_icmp_ge (tgt := 23) (npc := 9) dX1_havers_6 (by decide) rfl ?_ ?_
  · refine zz_iconst (npc := 24) 0 (by decide) dX1_havers_23 rfl ?_
    exact zz_iret dX1_havers_24
  · refine zz_aload_n (npc := 10) 0 rfl rfl dX1_havers_9 rfl ?_
    refine zz_getI (npc := 13) (i := 7) (C0 := RX1) (T := TX1) (N := 12) (ld_lt0 hb) (ld_o hb) rfl (by decide) iX1_havers_1 (List.mem_of_getElem? (i := 2) rfl) rfl dX1_havers_10 rfl ?_
    refine zz_aload_n (npc := 14) 0 rfl rfl dX1_havers_13 rfl ?_
    refine zz_getI (npc := 17) (i := 8) (C0 := RX1) (T := TX1) (N := 12) (ld_lt0 hb) (ld_o hb) rfl (by decide) iX1_havers_1 (List.mem_of_getElem? (i := 1) rfl) rfl dX1_havers_14 rfl ?_
    refine zz_callNi (npc := 20) (n := 2) (As := [.int (M b 7), .int (M b 8)]) (host := "SharedShadow") gX1_havers_X7_bit_n90 (List.mem_of_getElem? (i := 6) rfl) (List.mem_of_getElem? (i := 5) rfl) (List.mem_of_getElem? (i := 6) rfl) rfl rfl rfl (by decide +kernel) ⟨Nat.le_of_ble_eq_true rfl, Nat.le_of_ble_eq_true rfl⟩ rfl rfl (Nat.le_of_ble_eq_true rfl) (mtX7_bit E l  (M b 7) (M b 8) M) dX1_havers_17 rfl (fun r2 M1 _ => ?_)
    refine zz_if_ne (tgt := 25) (npc := 23) dX1_havers_20 (by decide) rfl ?_ ?_
    · refine zz_iconst (npc := 26) 0 (by decide) dX1_havers_25 rfl ?_
      refine zz_istore_n (npc := 27) (lv1 := [(1, .int 0), (0, .ref (eA E b))]) rfl dX1_havers_26 rfl (by decide) rfl ?_
      refine zz_iconst (npc := 28) 0 (by decide) dX1_havers_27 rfl ?_
      refine zz_istore_n (npc := 29) (lv1 := [(2, .int 0), (1, .int 0), (0, .ref (eA E b))]) rfl dX1_havers_28 rfl (by decide) rfl ?_
      refine zz_sub (npc := 0) (lv1 := [(0, .ref (eA E b)), (1, .int 0), (2, .int 0)]) [2, 1, 0] rfl ?_
      exact zX1_havers_L29 E l b hb fu 0 0 M1
    · refine zz_iconst (npc := 24) 0 (by decide) dX1_havers_23 rfl ?_
      exact zz_iret dX1_havers_24
abbrev rmX1_tally : Room := { frames := 0, cells := 0, slots := 0, locals := 0 }
theorem iX1_tally_1 : ∀ w ∈ u_ws RX1 TX1 12, w ∈ wsX1_tally := fun w h => List.mem_cons_of_mem _ (List.mem_append_right _ h)
noncomputable def fX1_tally (b : Nat) (x1 : Int32) (M : Mem) : Option (Unit × Mem) := (if x1 = 0 then (wm (wr M b 10 ((M b 10) + 1)) fun M1 => (some ((), M1))) else (wm (wr M b 9 ((M b 9) + 1)) fun M2 => (some ((), M2))))
set_option maxHeartbeats 4000000 in
set_option maxRecDepth 100000 in
theorem mtX1_tally (E : EV) (l : Launch) (b : Nat) (hb : isLd b) (x1 : Int32) (M : Mem) : CT E l yX1_tally wsX1_tally rmX1_tally vV [.ref (eA E b), .int x1] (fX1_tally b x1 M) M := by
  refine ct_of (cc := cX1_tally) (nL := 2) (ret := none) (by decide +kernel) rfl (Nat.le_of_ble_eq_true rfl) ?_
  show ZZ E l RX1 cX1_tally 2 none wsX1_tally rmX1_tally vV (fX1_tally b x1 M) M [(0, .ref (eA E b)), (1, .int x1)] 0 []
  unfold fX1_tally
  refine zz_iload_n (npc := 1) 1 rfl rfl dX1_tally_0 rfl ?_
  refine zz_if_eq (tgt := 17) (npc := 4) dX1_tally_1 (by decide) rfl ?_ ?_
  · refine zz_aload_n (npc := 18) 0 rfl rfl dX1_tally_17 rfl ?_
    refine zz_dup (npc := 19) rfl dX1_tally_18 rfl ?_
    refine zz_getI (npc := 22) (i := 10) (C0 := RX1) (T := TX1) (N := 12) (ld_lt0 hb) (ld_o hb) rfl (by decide) iX1_tally_1 (List.mem_of_getElem? (i := 2) rfl) rfl dX1_tally_19 rfl ?_
    refine zz_iconst (npc := 23) 1 (by decide) dX1_tally_22 rfl ?_
    refine zz_iadd (npc := 24) dX1_tally_23 rfl ?_
    refine zz_putI (npc := 27) (i := 10) (C0 := RX1) (T := TX1) (N := 12) (ld_lt0 hb) (ld_o hb) rfl (by decide) iX1_tally_1 (List.mem_of_getElem? (i := 2) rfl) tyX1_ok nmX1 rfl rfl rfl dX1_tally_24 rfl (fun M1 => ?_)
    exact zz_vret dX1_tally_27
  · refine zz_aload_n (npc := 5) 0 rfl rfl dX1_tally_4 rfl ?_
    refine zz_dup (npc := 6) rfl dX1_tally_5 rfl ?_
    refine zz_getI (npc := 9) (i := 9) (C0 := RX1) (T := TX1) (N := 12) (ld_lt0 hb) (ld_o hb) rfl (by decide) iX1_tally_1 (List.mem_of_getElem? (i := 1) rfl) rfl dX1_tally_6 rfl ?_
    refine zz_iconst (npc := 10) 1 (by decide) dX1_tally_9 rfl ?_
    refine zz_iadd (npc := 11) dX1_tally_10 rfl ?_
    refine zz_putI (npc := 14) (i := 9) (C0 := RX1) (T := TX1) (N := 12) (ld_lt0 hb) (ld_o hb) rfl (by decide) iX1_tally_1 (List.mem_of_getElem? (i := 1) rfl) tyX1_ok nmX1 rfl rfl rfl dX1_tally_11 rfl (fun M2 => ?_)
    refine zz_goto (npc := 0) (tgt := 27) dX1_tally_14 (by decide) ?_
    exact zz_vret dX1_tally_27
abbrev rmX1_passHour : Room := { frames := 1, cells := 0, slots := 0, locals := 24 }
theorem iX1_passHour_1 : ∀ w ∈ u_ws RX1 TX1 12, w ∈ wsX1_passHour := fun w h => List.mem_cons_of_mem _ (List.mem_append_right _ h)
noncomputable def fX1_passHour_L125 (b : Nat) (k23 : Int32 → Int32 → Int32 → Mem → Option (Unit × Mem)) (y1 : Int32) (y2 : Int32) (y3 : Int32) (M : Mem) : Option (Unit × Mem) := (bv (y3 + 1) fun v9 => (k23 y1 y2 v9 M))
set_option maxHeartbeats 4000000 in
set_option maxRecDepth 100000 in
theorem zX1_passHour_L125 (E : EV) (l : Launch) (b : Nat) (hb : isLd b) (k23 : Int32 → Int32 → Int32 → Mem → Option (Unit × Mem)) (hk23 : ∀ (y1_ : Int32) (y2_ : Int32) (y3_ : Int32) (M_ : Mem), ZZ E l RX1 cX1_passHour 5 none wsX1_passHour rmX1_passHour vV (k23 y1_ y2_ y3_ M_) M_ [(0, .ref (eA E b)), (1, .int y1_), (2, .int y2_), (3, .int y3_)] 23 []) : ∀ (y1 : Int32) (y2 : Int32) (y3 : Int32) (M : Mem), ZZ E l RX1 cX1_passHour 5 none wsX1_passHour rmX1_passHour vV (fX1_passHour_L125 b k23 y1 y2 y3 M) M [(0, .ref (eA E b)), (1, .int y1), (2, .int y2), (3, .int y3)] 125 [] := by
  intro y1 y2 y3 M
  unfold fX1_passHour_L125
  refine zz_iincB (npc := 128) (y3 + 1) (lv1 := fun v9 => [(3, .int v9), (0, .ref (eA E b)), (1, .int y1), (2, .int y2)]) dX1_passHour_125 rfl 3 rfl rfl (by decide) (fun _ => rfl) (fun v9 => ?_)
  refine zz_goto (npc := 0) (tgt := 23) dX1_passHour_128 (by decide) ?_
  refine zz_sub (npc := 0) (lv1 := [(0, .ref (eA E b)), (1, .int y1), (2, .int y2), (3, .int v9)]) [1, 2, 3, 0] rfl ?_
  exact hk23 y1 y2 v9 M
noncomputable def fX1_passHour_L124 (b : Nat) (k23 : Int32 → Int32 → Int32 → Mem → Option (Unit × Mem)) (y1 : Int32) (y2 : Int32) (y3 : Int32) (w0 : Int32) (w1 : Int32) (M : Mem) : Option (Unit × Mem) := (ck (inb w1 8) (wm (wr M (b + 2) (ix w1) w0) fun M10 => (fX1_passHour_L125 b k23 y1 y2 y3 M10)))
set_option maxHeartbeats 4000000 in
set_option maxRecDepth 100000 in
theorem zX1_passHour_L124 (E : EV) (l : Launch) (b : Nat) (hb : isLd b) (k23 : Int32 → Int32 → Int32 → Mem → Option (Unit × Mem)) (hk23 : ∀ (y1_ : Int32) (y2_ : Int32) (y3_ : Int32) (M_ : Mem), ZZ E l RX1 cX1_passHour 5 none wsX1_passHour rmX1_passHour vV (k23 y1_ y2_ y3_ M_) M_ [(0, .ref (eA E b)), (1, .int y1_), (2, .int y2_), (3, .int y3_)] 23 []) : ∀ (y1 : Int32) (y2 : Int32) (y3 : Int32) (w0 : Int32) (w1 : Int32) (M : Mem), ZZ E l RX1 cX1_passHour 5 none wsX1_passHour rmX1_passHour vV (fX1_passHour_L124 b k23 y1 y2 y3 w0 w1 M) M [(0, .ref (eA E b)), (1, .int y1), (2, .int y2), (3, .int y3)] 124 [.int w0, .int w1, .ref (eA E (b + 2))] := by
  intro y1 y2 y3 w0 w1 M
  unfold fX1_passHour_L124
  refine zz_iast (npc := 125) (ld_lt2 hb) (ld_a2 hb) dX1_passHour_124 rfl (fun M10 => ?_)
  exact zX1_passHour_L125 E l b hb k23 hk23 y1 y2 y3 M10
noncomputable def fX1_passHour_L82 (b : Nat) (k23 : Int32 → Int32 → Int32 → Mem → Option (Unit × Mem)) (y1 : Int32) (y2 : Int32) (y3 : Int32) (y4 : Int32) (M : Mem) : Option (Unit × Mem) := (if y2 = 0 then (fX1_passHour_L125 b k23 y1 y2 y3 M) else (if y4 = 0 then (ck (inb y3 8) (fX1_passHour_L124 b k23 y1 y2 y3 (imin ((M (b + 2) (ix y3)) + 1) 99) y3 M)) else (ck (inb y3 8) (fX1_passHour_L124 b k23 y1 y2 y3 (imax ((M (b + 2) (ix y3)) - 1) 0) y3 M))))
set_option maxHeartbeats 4000000 in
set_option maxRecDepth 100000 in
theorem zX1_passHour_L82 (E : EV) (l : Launch) (b : Nat) (hb : isLd b) (k23 : Int32 → Int32 → Int32 → Mem → Option (Unit × Mem)) (hk23 : ∀ (y1_ : Int32) (y2_ : Int32) (y3_ : Int32) (M_ : Mem), ZZ E l RX1 cX1_passHour 5 none wsX1_passHour rmX1_passHour vV (k23 y1_ y2_ y3_ M_) M_ [(0, .ref (eA E b)), (1, .int y1_), (2, .int y2_), (3, .int y3_)] 23 []) : ∀ (y1 : Int32) (y2 : Int32) (y3 : Int32) (y4 : Int32) (M : Mem), ZZ E l RX1 cX1_passHour 5 none wsX1_passHour rmX1_passHour vV (fX1_passHour_L82 b k23 y1 y2 y3 y4 M) M [(0, .ref (eA E b)), (1, .int y1), (2, .int y2), (3, .int y3), (4, .int y4)] 82 [] := by
  intro y1 y2 y3 y4 M
  unfold fX1_passHour_L82
  refine zz_iload_n (npc := 83) 2 rfl rfl dX1_passHour_82 rfl ?_
  refine zz_if_eq (tgt := 125) (npc := 86) dX1_passHour_83 (by decide) rfl ?_ ?_
  · refine zz_sub (npc := 0) (lv1 := [(0, .ref (eA E b)), (1, .int y1), (2, .int y2), (3, .int y3)]) [0, 1, 2, 3] rfl ?_
    exact zX1_passHour_L125 E l b hb k23 hk23 y1 y2 y3 M
  · refine zz_aload_n (npc := 87) 0 rfl rfl dX1_passHour_86 rfl ?_
    refine zz_getR (npc := 90) (i := 1) (C0 := RX1) (T := TX1) (N := 12) (ld_lt0 hb) (ld_o hb) rfl (by decide) iX1_passHour_1 (List.mem_of_getElem? (i := 5) rfl) rfl dX1_passHour_87 rfl ?_
    refine zz_iload_n (npc := 91) 3 rfl rfl dX1_passHour_90 rfl ?_
    refine zz_iload (npc := 93) 4 rfl dX1_passHour_91 rfl ?_
    refine zz_if_eq (tgt := 111) (npc := 96) dX1_passHour_93 (by decide) rfl ?_ ?_
    · refine zz_aload_n (npc := 112) 0 rfl rfl dX1_passHour_111 rfl ?_
      refine zz_getR (npc := 115) (i := 1) (C0 := RX1) (T := TX1) (N := 12) (ld_lt0 hb) (ld_o hb) rfl (by decide) iX1_passHour_1 (List.mem_of_getElem? (i := 5) rfl) rfl dX1_passHour_112 rfl ?_
      refine zz_iload_n (npc := 116) 3 rfl rfl dX1_passHour_115 rfl ?_
      refine zz_iald (npc := 117) (ld_lt2 hb) (ld_a2 hb) dX1_passHour_116 rfl ?_
      refine zz_iconst (npc := 118) 1 (by decide) dX1_passHour_117 rfl ?_
      refine zz_iadd (npc := 119) dX1_passHour_118 rfl ?_
      refine zz_bipush (npc := 121) 99 (by decide) dX1_passHour_119 rfl ?_
      refine zz_mmin (npc := 124) (List.mem_of_getElem? (i := 10) rfl) (List.mem_of_getElem? (i := 11) rfl) (List.mem_of_getElem? (i := 8) rfl) (List.mem_of_getElem? (i := 12) rfl) (Nat.le_of_ble_eq_true rfl) (Nat.le_of_ble_eq_true rfl) dX1_passHour_121 rfl ?_
      refine zz_sub (npc := 0) (lv1 := [(0, .ref (eA E b)), (1, .int y1), (2, .int y2), (3, .int y3)]) [0, 1, 2, 3] rfl ?_
      exact zX1_passHour_L124 E l b hb k23 hk23 y1 y2 y3 (imin ((M (b + 2) (ix y3)) + 1) 99) y3 M
    · refine zz_aload_n (npc := 97) 0 rfl rfl dX1_passHour_96 rfl ?_
      refine zz_getR (npc := 100) (i := 1) (C0 := RX1) (T := TX1) (N := 12) (ld_lt0 hb) (ld_o hb) rfl (by decide) iX1_passHour_1 (List.mem_of_getElem? (i := 5) rfl) rfl dX1_passHour_97 rfl ?_
      refine zz_iload_n (npc := 101) 3 rfl rfl dX1_passHour_100 rfl ?_
      refine zz_iald (npc := 102) (ld_lt2 hb) (ld_a2 hb) dX1_passHour_101 rfl ?_
      refine zz_iconst (npc := 103) 1 (by decide) dX1_passHour_102 rfl ?_
      refine zz_isub (npc := 104) dX1_passHour_103 rfl ?_
      refine zz_iconst (npc := 105) 0 (by decide) dX1_passHour_104 rfl ?_
      refine zz_mmax (npc := 108) (List.mem_of_getElem? (i := 6) rfl) (List.mem_of_getElem? (i := 7) rfl) (List.mem_of_getElem? (i := 8) rfl) (List.mem_of_getElem? (i := 9) rfl) (Nat.le_of_ble_eq_true rfl) (Nat.le_of_ble_eq_true rfl) dX1_passHour_105 rfl ?_
      refine zz_goto (npc := 0) (tgt := 124) dX1_passHour_108 (by decide) ?_
      refine zz_sub (npc := 0) (lv1 := [(0, .ref (eA E b)), (1, .int y1), (2, .int y2), (3, .int y3)]) [0, 1, 2, 3] rfl ?_
      exact zX1_passHour_L124 E l b hb k23 hk23 y1 y2 y3 (imax ((M (b + 2) (ix y3)) - 1) 0) y3 M
noncomputable def fX1_passHour_L79 (b : Nat) (k23 : Int32 → Int32 → Int32 → Mem → Option (Unit × Mem)) (y1 : Int32) (y2 : Int32) (y3 : Int32) (y4 : Int32) (w0 : Int32) (M : Mem) : Option (Unit × Mem) := (bd (fX1_tally b w0 M) fun _ M8 => (fX1_passHour_L82 b k23 y1 y2 y3 y4 M8))
set_option maxHeartbeats 4000000 in
set_option maxRecDepth 100000 in
theorem zX1_passHour_L79 (E : EV) (l : Launch) (b : Nat) (hb : isLd b) (k23 : Int32 → Int32 → Int32 → Mem → Option (Unit × Mem)) (hk23 : ∀ (y1_ : Int32) (y2_ : Int32) (y3_ : Int32) (M_ : Mem), ZZ E l RX1 cX1_passHour 5 none wsX1_passHour rmX1_passHour vV (k23 y1_ y2_ y3_ M_) M_ [(0, .ref (eA E b)), (1, .int y1_), (2, .int y2_), (3, .int y3_)] 23 []) : ∀ (y1 : Int32) (y2 : Int32) (y3 : Int32) (y4 : Int32) (w0 : Int32) (M : Mem), ZZ E l RX1 cX1_passHour 5 none wsX1_passHour rmX1_passHour vV (fX1_passHour_L79 b k23 y1 y2 y3 y4 w0 M) M [(0, .ref (eA E b)), (1, .int y1), (2, .int y2), (3, .int y3), (4, .int y4)] 79 [.int w0, .ref (eA E b)] := by
  intro y1 y2 y3 y4 w0 M
  unfold fX1_passHour_L79
  refine zz_callVv (npc := 82) (n := 1) (As := [.int w0]) (ld_lt0 hb) (ld_o hb) rfl gX1_passHour_X1_tally rfl rfl rfl (by decide +kernel) ⟨Nat.le_of_ble_eq_true rfl, Nat.le_of_ble_eq_true rfl⟩ rfl rfl (Nat.le_of_ble_eq_true rfl) (mtX1_tally E l b hb w0 M) dX1_passHour_79 rfl (fun _ M8 _ => ?_)
  exact zX1_passHour_L82 E l b hb k23 hk23 y1 y2 y3 y4 M8
noncomputable def fX1_passHour_L74 (b : Nat) (k23 : Int32 → Int32 → Int32 → Mem → Option (Unit × Mem)) (y1 : Int32) (y2 : Int32) (y3 : Int32) (y4 : Int32) (M : Mem) : Option (Unit × Mem) := (fX1_passHour_L79 b k23 y1 y2 y3 y4 1 M)
set_option maxHeartbeats 4000000 in
set_option maxRecDepth 100000 in
theorem zX1_passHour_L74 (E : EV) (l : Launch) (b : Nat) (hb : isLd b) (k23 : Int32 → Int32 → Int32 → Mem → Option (Unit × Mem)) (hk23 : ∀ (y1_ : Int32) (y2_ : Int32) (y3_ : Int32) (M_ : Mem), ZZ E l RX1 cX1_passHour 5 none wsX1_passHour rmX1_passHour vV (k23 y1_ y2_ y3_ M_) M_ [(0, .ref (eA E b)), (1, .int y1_), (2, .int y2_), (3, .int y3_)] 23 []) : ∀ (y1 : Int32) (y2 : Int32) (y3 : Int32) (y4 : Int32) (M : Mem), ZZ E l RX1 cX1_passHour 5 none wsX1_passHour rmX1_passHour vV (fX1_passHour_L74 b k23 y1 y2 y3 y4 M) M [(0, .ref (eA E b)), (1, .int y1), (2, .int y2), (3, .int y3), (4, .int y4)] 74 [.ref (eA E b)] := by
  intro y1 y2 y3 y4 M
  unfold fX1_passHour_L74
  refine zz_iconst (npc := 75) 1 (by decide) dX1_passHour_74 rfl ?_
  refine zz_goto (npc := 0) (tgt := 79) dX1_passHour_75 (by decide) ?_
  exact zX1_passHour_L79 E l b hb k23 hk23 y1 y2 y3 y4 1 M
noncomputable def fX1_passHour_L45 (b : Nat) (k23 : Int32 → Int32 → Int32 → Mem → Option (Unit × Mem)) (y1 : Int32) (y2 : Int32) (y3 : Int32) (w0 : Int32) (M : Mem) : Option (Unit × Mem) := (ck (inb y3 8) (bd (fX7_bit (M (b + 4) (ix y3)) (M b 8) M) fun r7 M6 => (if r7 = 1 then (if w0 = 0 then (if y2 = 0 then (fX1_passHour_L74 b k23 y1 y2 y3 w0 M6) else (fX1_passHour_L79 b k23 y1 y2 y3 w0 0 M6)) else (fX1_passHour_L74 b k23 y1 y2 y3 w0 M6)) else (fX1_passHour_L82 b k23 y1 y2 y3 w0 M6))))
set_option maxHeartbeats 4000000 in
set_option maxRecDepth 100000 in
theorem zX1_passHour_L45 (E : EV) (l : Launch) (b : Nat) (hb : isLd b) (k23 : Int32 → Int32 → Int32 → Mem → Option (Unit × Mem)) (hk23 : ∀ (y1_ : Int32) (y2_ : Int32) (y3_ : Int32) (M_ : Mem), ZZ E l RX1 cX1_passHour 5 none wsX1_passHour rmX1_passHour vV (k23 y1_ y2_ y3_ M_) M_ [(0, .ref (eA E b)), (1, .int y1_), (2, .int y2_), (3, .int y3_)] 23 []) : ∀ (y1 : Int32) (y2 : Int32) (y3 : Int32) (w0 : Int32) (M : Mem), ZZ E l RX1 cX1_passHour 5 none wsX1_passHour rmX1_passHour vV (fX1_passHour_L45 b k23 y1 y2 y3 w0 M) M [(0, .ref (eA E b)), (1, .int y1), (2, .int y2), (3, .int y3)] 45 [.int w0] := by
  intro y1 y2 y3 w0 M
  unfold fX1_passHour_L45
  refine zz_istore (npc := 47) (lv1 := [(4, .int w0), (0, .ref (eA E b)), (1, .int y1), (2, .int y2), (3, .int y3)]) dX1_passHour_45 rfl (by decide) rfl ?_
  refine zz_aload_n (npc := 48) 1 rfl rfl dX1_passHour_47 rfl ?_
  refine zz_getR (npc := 51) (i := 3) (C0 := RX1) (T := TX1) (N := 12) (ld_lt0 hb) (ld_o hb) rfl (by decide) iX1_passHour_1 (List.mem_of_getElem? (i := 4) rfl) rfl dX1_passHour_48 rfl ?_
  refine zz_iload_n (npc := 52) 4 rfl rfl dX1_passHour_51 rfl ?_
  refine zz_iald (npc := 53) (ld_lt4 hb) (ld_a4 hb) dX1_passHour_52 rfl ?_
  refine zz_aload_n (npc := 54) 1 rfl rfl dX1_passHour_53 rfl ?_
  refine zz_getI (npc := 57) (i := 8) (C0 := RX1) (T := TX1) (N := 12) (ld_lt0 hb) (ld_o hb) rfl (by decide) iX1_passHour_1 (List.mem_of_getElem? (i := 2) rfl) rfl dX1_passHour_54 rfl ?_
  refine zz_callNi (npc := 60) (n := 2) (As := [.int (M (b + 4) (ix y3)), .int (M b 8)]) (host := "SharedShadow") gX1_passHour_X7_bit_n90 (List.mem_of_getElem? (i := 6) rfl) (List.mem_of_getElem? (i := 13) rfl) (List.mem_of_getElem? (i := 14) rfl) rfl rfl rfl (by decide +kernel) ⟨Nat.le_of_ble_eq_true rfl, Nat.le_of_ble_eq_true rfl⟩ rfl rfl (Nat.le_of_ble_eq_true rfl) (mtX7_bit E l  (M (b + 4) (ix y3)) (M b 8) M) dX1_passHour_57 rfl (fun r7 M6 _ => ?_)
  refine zz_iconst (npc := 61) 1 (by decide) dX1_passHour_60 rfl ?_
  refine zz_icmp_ne (tgt := 82) (npc := 64) dX1_passHour_61 (by decide) rfl ?_ ?_
  · refine zz_sub (npc := 0) (lv1 := [(0, .ref (eA E b)), (1, .int y1), (2, .int y2), (3, .int y3), (4, .int w0)]) [1, 2, 3, 4, 0] rfl ?_
    exact zX1_passHour_L82 E l b hb k23 hk23 y1 y2 y3 w0 M6
  · refine zz_aload_n (npc := 65) 1 rfl rfl dX1_passHour_64 rfl ?_
    refine zz_iload (npc := 67) 0 rfl dX1_passHour_65 rfl ?_
    refine zz_if_ne (tgt := 74) (npc := 70) dX1_passHour_67 (by decide) rfl ?_ ?_
    · refine zz_sub (npc := 0) (lv1 := [(0, .ref (eA E b)), (1, .int y1), (2, .int y2), (3, .int y3), (4, .int w0)]) [1, 2, 3, 4, 0] rfl ?_
      exact zX1_passHour_L74 E l b hb k23 hk23 y1 y2 y3 w0 M6
    · refine zz_iload_n (npc := 71) 3 rfl rfl dX1_passHour_70 rfl ?_
      refine zz_if_ne (tgt := 78) (npc := 74) dX1_passHour_71 (by decide) rfl ?_ ?_
      · refine zz_iconst (npc := 79) 0 (by decide) dX1_passHour_78 rfl ?_
        refine zz_sub (npc := 0) (lv1 := [(0, .ref (eA E b)), (1, .int y1), (2, .int y2), (3, .int y3), (4, .int w0)]) [1, 2, 3, 4, 0] rfl ?_
        exact zX1_passHour_L79 E l b hb k23 hk23 y1 y2 y3 w0 0 M6
      · refine zz_sub (npc := 0) (lv1 := [(0, .ref (eA E b)), (1, .int y1), (2, .int y2), (3, .int y3), (4, .int w0)]) [1, 2, 3, 4, 0] rfl ?_
        exact zX1_passHour_L74 E l b hb k23 hk23 y1 y2 y3 w0 M6
noncomputable def fX1_passHour_L23 (b : Nat)  : Nat → Int32 → Int32 → Int32 → Mem → Option (Unit × Mem)
  | 0, _, _, _, _ => none
  | n + 1, y1, y2, y3, M => (if (M b 6) ≤ y3 then (wm (wr M b 8 ((M b 8) + 1)) fun M3 => (some ((), M3))) else (bd (fX7_bit y1 y3 M) fun r5 M4 => (if r5 = 1 then (fX1_passHour_L45 b (fX1_passHour_L23 b n) y1 y2 y3 1 M4) else (fX1_passHour_L45 b (fX1_passHour_L23 b n) y1 y2 y3 0 M4))))
set_option maxHeartbeats 4000000 in
set_option maxRecDepth 100000 in
theorem zX1_passHour_L23 (E : EV) (l : Launch) (b : Nat) (hb : isLd b)   : ∀ (n : Nat) (y1 : Int32) (y2 : Int32) (y3 : Int32) (M : Mem), ZZ E l RX1 cX1_passHour 5 none wsX1_passHour rmX1_passHour vV (fX1_passHour_L23 b n y1 y2 y3 M) M [(0, .ref (eA E b)), (1, .int y1), (2, .int y2), (3, .int y3)] 23 [] := by
  intro n
  induction n with
  | zero => intros; exact zz_none
  | succ n ih =>
    intro y1 y2 y3 M
    rw [fX1_passHour_L23]
    refine zz_iload_n (npc := 24) 3 rfl rfl dX1_passHour_23 rfl ?_
    refine zz_aload_n (npc := 25) 0 rfl rfl dX1_passHour_24 rfl ?_
    refine zz_getI (npc := 28) (i := 6) (C0 := RX1) (T := TX1) (N := 12) (ld_lt0 hb) (ld_o hb) rfl (by decide) iX1_passHour_1 (List.mem_of_getElem? (i := 3) rfl) rfl dX1_passHour_25 rfl ?_
    refine zz_icmp_ge (tgt := 131) (npc := 31) dX1_passHour_28 (by decide) rfl ?_ ?_
    · refine zz_aload_n (npc := 132) 0 rfl rfl dX1_passHour_131 rfl ?_
      refine zz_dup (npc := 133) rfl dX1_passHour_132 rfl ?_
      refine zz_getI (npc := 136) (i := 8) (C0 := RX1) (T := TX1) (N := 12) (ld_lt0 hb) (ld_o hb) rfl (by decide) iX1_passHour_1 (List.mem_of_getElem? (i := 2) rfl) rfl dX1_passHour_133 rfl ?_
      refine zz_iconst (npc := 137) 1 (by decide) dX1_passHour_136 rfl ?_
      refine zz_iadd (npc := 138) dX1_passHour_137 rfl ?_
      refine zz_putI (npc := 141) (i := 8) (C0 := RX1) (T := TX1) (N := 12) (ld_lt0 hb) (ld_o hb) rfl (by decide) iX1_passHour_1 (List.mem_of_getElem? (i := 2) rfl) tyX1_ok nmX1 rfl rfl rfl dX1_passHour_138 rfl (fun M3 => ?_)
      exact zz_vret dX1_passHour_141
    · refine zz_iload_n (npc := 32) 1 rfl rfl dX1_passHour_31 rfl ?_
      refine zz_iload_n (npc := 33) 3 rfl rfl dX1_passHour_32 rfl ?_
      refine zz_callNi (npc := 36) (n := 2) (As := [.int y1, .int y3]) (host := "SharedShadow") gX1_passHour_X7_bit_n90 (List.mem_of_getElem? (i := 6) rfl) (List.mem_of_getElem? (i := 13) rfl) (List.mem_of_getElem? (i := 14) rfl) rfl rfl rfl (by decide +kernel) ⟨Nat.le_of_ble_eq_true rfl, Nat.le_of_ble_eq_true rfl⟩ rfl rfl (Nat.le_of_ble_eq_true rfl) (mtX7_bit E l  y1 y3 M) dX1_passHour_33 rfl (fun r5 M4 _ => ?_)
      refine zz_iconst (npc := 37) 1 (by decide) dX1_passHour_36 rfl ?_
      refine zz_icmp_ne (tgt := 44) (npc := 40) dX1_passHour_37 (by decide) rfl ?_ ?_
      · refine zz_iconst (npc := 45) 0 (by decide) dX1_passHour_44 rfl ?_
        exact zX1_passHour_L45 E l b hb (fX1_passHour_L23 b n) ih y1 y2 y3 0 M4
      · refine zz_iconst (npc := 41) 1 (by decide) dX1_passHour_40 rfl ?_
        refine zz_goto (npc := 0) (tgt := 45) dX1_passHour_41 (by decide) ?_
        exact zX1_passHour_L45 E l b hb (fX1_passHour_L23 b n) ih y1 y2 y3 1 M4
noncomputable def fX1_passHour_L20 (b : Nat)  (y1 : Int32) (w0 : Int32) (M : Mem) : Option (Unit × Mem) := (fX1_passHour_L23 b fu y1 w0 0 M)
set_option maxHeartbeats 4000000 in
set_option maxRecDepth 100000 in
theorem zX1_passHour_L20 (E : EV) (l : Launch) (b : Nat) (hb : isLd b)   : ∀ (y1 : Int32) (w0 : Int32) (M : Mem), ZZ E l RX1 cX1_passHour 5 none wsX1_passHour rmX1_passHour vV (fX1_passHour_L20 b y1 w0 M) M [(0, .ref (eA E b)), (1, .int y1)] 20 [.int w0] := by
  intro y1 w0 M
  unfold fX1_passHour_L20
  refine zz_istore_n (npc := 21) (lv1 := [(2, .int w0), (0, .ref (eA E b)), (1, .int y1)]) rfl dX1_passHour_20 rfl (by decide) rfl ?_
  refine zz_iconst (npc := 22) 0 (by decide) dX1_passHour_21 rfl ?_
  refine zz_istore_n (npc := 23) (lv1 := [(3, .int 0), (2, .int w0), (0, .ref (eA E b)), (1, .int y1)]) rfl dX1_passHour_22 rfl (by decide) rfl ?_
  refine zz_sub (npc := 0) (lv1 := [(0, .ref (eA E b)), (1, .int y1), (2, .int w0), (3, .int 0)]) [2, 3, 1, 0] rfl ?_
  exact zX1_passHour_L23 E l b hb fu y1 w0 0 M
noncomputable def fX1_passHour (b : Nat) (x1 : Int32) (M : Mem) : Option (Unit × Mem) := (bd (fX7_bit (M b 7) (M b 8) M) fun r2 M1 => (if r2 = 1 then (fX1_passHour_L20 b x1 1 M1) else (fX1_passHour_L20 b x1 0 M1)))
set_option maxHeartbeats 4000000 in
set_option maxRecDepth 100000 in
theorem mtX1_passHour (E : EV) (l : Launch) (b : Nat) (hb : isLd b) (x1 : Int32) (M : Mem) : CT E l yX1_passHour wsX1_passHour rmX1_passHour vV [.ref (eA E b), .int x1] (fX1_passHour b x1 M) M := by
  refine ct_of (cc := cX1_passHour) (nL := 5) (ret := none) (by decide +kernel) rfl (Nat.le_of_ble_eq_true rfl) ?_
  show ZZ E l RX1 cX1_passHour 5 none wsX1_passHour rmX1_passHour vV (fX1_passHour b x1 M) M [(0, .ref (eA E b)), (1, .int x1)] 0 []
  unfold fX1_passHour
  refine zz_aload_n (npc := 1) 0 rfl rfl dX1_passHour_0 rfl ?_
  refine zz_getI (npc := 4) (i := 7) (C0 := RX1) (T := TX1) (N := 12) (ld_lt0 hb) (ld_o hb) rfl (by decide) iX1_passHour_1 (List.mem_of_getElem? (i := 1) rfl) rfl dX1_passHour_1 rfl ?_
  refine zz_aload_n (npc := 5) 0 rfl rfl dX1_passHour_4 rfl ?_
  refine zz_getI (npc := 8) (i := 8) (C0 := RX1) (T := TX1) (N := 12) (ld_lt0 hb) (ld_o hb) rfl (by decide) iX1_passHour_1 (List.mem_of_getElem? (i := 2) rfl) rfl dX1_passHour_5 rfl ?_
  refine zz_callNi (npc := 11) (n := 2) (As := [.int (M b 7), .int (M b 8)]) (host := "SharedShadow") gX1_passHour_X7_bit_n90 (List.mem_of_getElem? (i := 6) rfl) (List.mem_of_getElem? (i := 13) rfl) (List.mem_of_getElem? (i := 14) rfl) rfl rfl rfl (by decide +kernel) ⟨Nat.le_of_ble_eq_true rfl, Nat.le_of_ble_eq_true rfl⟩ rfl rfl (Nat.le_of_ble_eq_true rfl) (mtX7_bit E l  (M b 7) (M b 8) M) dX1_passHour_8 rfl (fun r2 M1 _ => ?_)
  refine zz_iconst (npc := 12) 1 (by decide) dX1_passHour_11 rfl ?_
  refine zz_icmp_ne (tgt := 19) (npc := 15) dX1_passHour_12 (by decide) rfl ?_ ?_
  · refine zz_iconst (npc := 20) 0 (by decide) dX1_passHour_19 rfl ?_
    exact zX1_passHour_L20 E l b hb x1 0 M1
  · refine zz_iconst (npc := 16) 1 (by decide) dX1_passHour_15 rfl ?_
    refine zz_goto (npc := 0) (tgt := 20) dX1_passHour_16 (by decide) ?_
    exact zX1_passHour_L20 E l b hb x1 1 M1
abbrev rmX1_passHours : Room := { frames := 3, cells := 0, slots := 0, locals := 71 }
theorem iX1_passHours_1 : ∀ w ∈ u_ws RX1 TX1 12, w ∈ wsX1_passHours := fun w h => List.mem_cons_of_mem _ (List.mem_append_right _ h)
noncomputable def fX1_passHours_L2 (b : Nat)  : Nat → Int32 → Int32 → Mem → Option (Unit × Mem)
  | 0, _, _, _ => none
  | n + 1, y1, y2, M => (if y1 ≤ y2 then (some ((), M)) else (if 16 ≤ (M b 8) then (some ((), M)) else (bd (fX1_havers b M) fun r2 M1 => (bd (fX1_passHour b r2 M1) fun _ M3 => (bv (y2 + 1) fun v4 => (fX1_passHours_L2 b n y1 v4 M3))))))
set_option maxHeartbeats 4000000 in
set_option maxRecDepth 100000 in
theorem zX1_passHours_L2 (E : EV) (l : Launch) (b : Nat) (hb : isLd b)   : ∀ (n : Nat) (y1 : Int32) (y2 : Int32) (M : Mem), ZZ E l RX1 cX1_passHours 3 none wsX1_passHours rmX1_passHours vV (fX1_passHours_L2 b n y1 y2 M) M [(0, .ref (eA E b)), (1, .int y1), (2, .int y2)] 2 [] := by
  intro n
  induction n with
  | zero => intros; exact zz_none
  | succ n ih =>
    intro y1 y2 M
    rw [fX1_passHours_L2]
    refine zz_iload_n (npc := 3) 2 rfl rfl dX1_passHours_2 rfl ?_
    refine zz_iload_n (npc := 4) 1 rfl rfl dX1_passHours_3 rfl ?_
    refine zz_icmp_ge (tgt := 30) (npc := 7) dX1_passHours_4 (by decide) rfl ?_ ?_
    · exact zz_vret dX1_passHours_30
    · refine zz_aload_n (npc := 8) 0 rfl rfl dX1_passHours_7 rfl ?_
      refine zz_getI (npc := 11) (i := 8) (C0 := RX1) (T := TX1) (N := 12) (ld_lt0 hb) (ld_o hb) rfl (by decide) iX1_passHours_1 (List.mem_of_getElem? (i := 1) rfl) rfl dX1_passHours_8 rfl ?_
      refine zz_bipush (npc := 13) 16 (by decide) dX1_passHours_11 rfl ?_
      refine zz_icmp_ge (tgt := 30) (npc := 16) dX1_passHours_13 (by decide) rfl ?_ ?_
      · exact zz_vret dX1_passHours_30
      · refine zz_aload_n (npc := 17) 0 rfl rfl dX1_passHours_16 rfl ?_
        refine zz_aload_n (npc := 18) 0 rfl rfl dX1_passHours_17 rfl ?_
        refine zz_callVi (npc := 21) (n := 0) (As := []) (ld_lt0 hb) (ld_o hb) rfl gX1_passHours_X1_havers rfl rfl rfl (by decide +kernel) ⟨Nat.le_of_ble_eq_true rfl, Nat.le_of_ble_eq_true rfl⟩ rfl rfl (Nat.le_of_ble_eq_true rfl) (mtX1_havers E l b hb  M) dX1_passHours_18 rfl (fun r2 M1 _ => ?_)
        refine zz_callVv (npc := 24) (n := 1) (As := [.int r2]) (ld_lt0 hb) (ld_o hb) rfl gX1_passHours_X1_passHour rfl rfl rfl (by decide +kernel) ⟨Nat.le_of_ble_eq_true rfl, Nat.le_of_ble_eq_true rfl⟩ rfl rfl (Nat.le_of_ble_eq_true rfl) (mtX1_passHour E l b hb r2 M1) dX1_passHours_21 rfl (fun _ M3 _ => ?_)
        refine zz_iincB (npc := 27) (y2 + 1) (lv1 := fun v4 => [(2, .int v4), (0, .ref (eA E b)), (1, .int y1)]) dX1_passHours_24 rfl 2 rfl rfl (by decide) (fun _ => rfl) (fun v4 => ?_)
        refine zz_goto (npc := 0) (tgt := 2) dX1_passHours_27 (by decide) ?_
        refine zz_sub (npc := 0) (lv1 := [(0, .ref (eA E b)), (1, .int y1), (2, .int v4)]) [1, 2, 0] rfl ?_
        exact ih y1 v4 M3
noncomputable def fX1_passHours (b : Nat) (x1 : Int32) (M : Mem) : Option (Unit × Mem) := (fX1_passHours_L2 b fu x1 0 M)
set_option maxHeartbeats 4000000 in
set_option maxRecDepth 100000 in
theorem mtX1_passHours (E : EV) (l : Launch) (b : Nat) (hb : isLd b) (x1 : Int32) (M : Mem) : CT E l yX1_passHours wsX1_passHours rmX1_passHours vV [.ref (eA E b), .int x1] (fX1_passHours b x1 M) M := by
  refine ct_of (cc := cX1_passHours) (nL := 3) (ret := none) (by decide +kernel) rfl (Nat.le_of_ble_eq_true rfl) ?_
  show ZZ E l RX1 cX1_passHours 3 none wsX1_passHours rmX1_passHours vV (fX1_passHours b x1 M) M [(0, .ref (eA E b)), (1, .int x1)] 0 []
  unfold fX1_passHours
  refine zz_iconst (npc := 1) 0 (by decide) dX1_passHours_0 rfl ?_
  refine zz_istore_n (npc := 2) (lv1 := [(2, .int 0), (0, .ref (eA E b)), (1, .int x1)]) rfl dX1_passHours_1 rfl (by decide) rfl ?_
  refine zz_sub (npc := 0) (lv1 := [(0, .ref (eA E b)), (1, .int x1), (2, .int 0)]) [1, 2, 0] rfl ?_
  exact zX1_passHours_L2 E l b hb fu x1 0 M
abbrev rmX1_draw : Room := { frames := 0, cells := 0, slots := 0, locals := 0 }
theorem iX1_draw_1 : ∀ w ∈ u_ws RX1 TX1 12, w ∈ wsX1_draw := fun w h => List.mem_cons_of_mem _ (List.mem_append_right _ h)
noncomputable def fX1_draw (b : Nat)  (M : Mem) : Option (Int32 × Mem) := (wm (wr M b 11 (((M b 11) * 1103515245) + 12345)) fun M1 => (some (ush (M1 b 11) 8, M1)))
set_option maxHeartbeats 4000000 in
set_option maxRecDepth 100000 in
theorem mtX1_draw (E : EV) (l : Launch) (b : Nat) (hb : isLd b)  (M : Mem) : CT E l yX1_draw wsX1_draw rmX1_draw vI [.ref (eA E b)] (fX1_draw b M) M := by
  refine ct_of (cc := cX1_draw) (nL := 1) (ret := (some .int)) (by decide +kernel) rfl (Nat.le_of_ble_eq_true rfl) ?_
  show ZZ E l RX1 cX1_draw 1 (some .int) wsX1_draw rmX1_draw vI (fX1_draw b M) M [(0, .ref (eA E b))] 0 []
  unfold fX1_draw
  refine zz_aload_n (npc := 1) 0 rfl rfl dX1_draw_0 rfl ?_
  refine zz_aload_n (npc := 2) 0 rfl rfl dX1_draw_1 rfl ?_
  refine zz_getI (npc := 5) (i := 11) (C0 := RX1) (T := TX1) (N := 12) (ld_lt0 hb) (ld_o hb) rfl (by decide) iX1_draw_1 (List.mem_of_getElem? (i := 1) rfl) rfl dX1_draw_2 rfl ?_
  refine zz_ldc (npc := 7) 1103515245 (List.mem_of_getElem? (i := 2) rfl) dX1_draw_5 rfl ?_
  refine zz_imul (npc := 8) dX1_draw_7 rfl ?_
  refine zz_sipush (npc := 11) 12345 (by decide) dX1_draw_8 rfl ?_
  refine zz_iadd (npc := 12) dX1_draw_11 rfl ?_
  refine zz_putI (npc := 15) (i := 11) (C0 := RX1) (T := TX1) (N := 12) (ld_lt0 hb) (ld_o hb) rfl (by decide) iX1_draw_1 (List.mem_of_getElem? (i := 1) rfl) tyX1_ok nmX1 rfl rfl rfl dX1_draw_12 rfl (fun M1 => ?_)
  refine zz_aload_n (npc := 16) 0 rfl rfl dX1_draw_15 rfl ?_
  refine zz_getI (npc := 19) (i := 11) (C0 := RX1) (T := TX1) (N := 12) (ld_lt0 hb) (ld_o hb) rfl (by decide) iX1_draw_1 (List.mem_of_getElem? (i := 1) rfl) rfl dX1_draw_16 rfl ?_
  refine zz_bipush (npc := 21) 8 (by decide) dX1_draw_19 rfl ?_
  refine zz_iushr (npc := 22) dX1_draw_21 rfl ?_
  exact zz_iret dX1_draw_22
abbrev rmX1_countMated : Room := { frames := 0, cells := 0, slots := 0, locals := 0 }
theorem iX1_countMated_1 : ∀ w ∈ u_ws RX1 TX1 12, w ∈ wsX1_countMated := fun w h => List.mem_cons_of_mem _ (List.mem_append_right _ h)
noncomputable def fX1_countMated_L28 (b : Nat) (k4 : Int32 → Int32 → Mem → Option (Int32 × Mem)) (y2 : Int32) (w0 : Int32) (w1 : Int32) (M : Mem) : Option (Int32 × Mem) := (bv (w1 + w0) fun v1 => (bv (y2 + 1) fun v2 => (k4 v1 v2 M)))
set_option maxHeartbeats 4000000 in
set_option maxRecDepth 100000 in
theorem zX1_countMated_L28 (E : EV) (l : Launch) (b : Nat) (hb : isLd b) (k4 : Int32 → Int32 → Mem → Option (Int32 × Mem)) (hk4 : ∀ (y1_ : Int32) (y2_ : Int32) (M_ : Mem), ZZ E l RX1 cX1_countMated 3 (some .int) wsX1_countMated rmX1_countMated vI (k4 y1_ y2_ M_) M_ [(0, .ref (eA E b)), (1, .int y1_), (2, .int y2_)] 4 []) : ∀ (y2 : Int32) (w0 : Int32) (w1 : Int32) (M : Mem), ZZ E l RX1 cX1_countMated 3 (some .int) wsX1_countMated rmX1_countMated vI (fX1_countMated_L28 b k4 y2 w0 w1 M) M [(0, .ref (eA E b)), (2, .int y2)] 28 [.int w0, .int w1] := by
  intro y2 w0 w1 M
  unfold fX1_countMated_L28
  refine zz_iadd (npc := 29) dX1_countMated_28 rfl ?_
  refine zz_istore_nB (npc := 30) (lv1 := fun v1 => [(1, .int v1), (0, .ref (eA E b)), (2, .int y2)]) rfl dX1_countMated_29 rfl (by decide) (fun _ => rfl) (fun v1 => ?_)
  refine zz_iincB (npc := 33) (y2 + 1) (lv1 := fun v2 => [(2, .int v2), (1, .int v1), (0, .ref (eA E b))]) dX1_countMated_30 rfl 2 rfl rfl (by decide) (fun _ => rfl) (fun v2 => ?_)
  refine zz_goto (npc := 0) (tgt := 4) dX1_countMated_33 (by decide) ?_
  refine zz_sub (npc := 0) (lv1 := [(0, .ref (eA E b)), (1, .int v1), (2, .int v2)]) [2, 1, 0] rfl ?_
  exact hk4 v1 v2 M
noncomputable def fX1_countMated_L4 (b : Nat)  : Nat → Int32 → Int32 → Mem → Option (Int32 × Mem)
  | 0, _, _, _ => none
  | n + 1, y1, y2, M => (if (M b 6) ≤ y2 then (some (y1, M)) else (ck (inb y2 8) (if (M (b + 5) (ix y2)) = (-1) then (fX1_countMated_L28 b (fX1_countMated_L4 b n) y2 0 y1 M) else (fX1_countMated_L28 b (fX1_countMated_L4 b n) y2 1 y1 M))))
set_option maxHeartbeats 4000000 in
set_option maxRecDepth 100000 in
theorem zX1_countMated_L4 (E : EV) (l : Launch) (b : Nat) (hb : isLd b)   : ∀ (n : Nat) (y1 : Int32) (y2 : Int32) (M : Mem), ZZ E l RX1 cX1_countMated 3 (some .int) wsX1_countMated rmX1_countMated vI (fX1_countMated_L4 b n y1 y2 M) M [(0, .ref (eA E b)), (1, .int y1), (2, .int y2)] 4 [] := by
  intro n
  induction n with
  | zero => intros; exact zz_none
  | succ n ih =>
    intro y1 y2 M
    rw [fX1_countMated_L4]
    refine zz_iload_n (npc := 5) 2 rfl rfl dX1_countMated_4 rfl ?_
    refine zz_aload_n (npc := 6) 0 rfl rfl dX1_countMated_5 rfl ?_
    refine zz_getI (npc := 9) (i := 6) (C0 := RX1) (T := TX1) (N := 12) (ld_lt0 hb) (ld_o hb) rfl (by decide) iX1_countMated_1 (List.mem_of_getElem? (i := 1) rfl) rfl dX1_countMated_6 rfl ?_
    refine zz_icmp_ge (tgt := 36) (npc := 12) dX1_countMated_9 (by decide) rfl ?_ ?_
    · refine zz_iload_n (npc := 37) 1 rfl rfl dX1_countMated_36 rfl ?_
      exact zz_iret dX1_countMated_37
    · refine zz_iload_n (npc := 13) 1 rfl rfl dX1_countMated_12 rfl ?_
      refine zz_aload_n (npc := 14) 0 rfl rfl dX1_countMated_13 rfl ?_
      refine zz_getR (npc := 17) (i := 4) (C0 := RX1) (T := TX1) (N := 12) (ld_lt0 hb) (ld_o hb) rfl (by decide) iX1_countMated_1 (List.mem_of_getElem? (i := 2) rfl) rfl dX1_countMated_14 rfl ?_
      refine zz_iload_n (npc := 18) 2 rfl rfl dX1_countMated_17 rfl ?_
      refine zz_iald (npc := 19) (ld_lt5 hb) (ld_a5 hb) dX1_countMated_18 rfl ?_
      refine zz_iconst (npc := 20) (-1) (by decide) dX1_countMated_19 rfl ?_
      refine zz_icmp_ne (tgt := 27) (npc := 23) dX1_countMated_20 (by decide) rfl ?_ ?_
      · refine zz_iconst (npc := 28) 1 (by decide) dX1_countMated_27 rfl ?_
        refine zz_sub (npc := 0) (lv1 := [(0, .ref (eA E b)), (2, .int y2)]) [0, 2] rfl ?_
        exact zX1_countMated_L28 E l b hb (fX1_countMated_L4 b n) ih y2 1 y1 M
      · refine zz_iconst (npc := 24) 0 (by decide) dX1_countMated_23 rfl ?_
        refine zz_goto (npc := 0) (tgt := 28) dX1_countMated_24 (by decide) ?_
        refine zz_sub (npc := 0) (lv1 := [(0, .ref (eA E b)), (2, .int y2)]) [0, 2] rfl ?_
        exact zX1_countMated_L28 E l b hb (fX1_countMated_L4 b n) ih y2 0 y1 M
noncomputable def fX1_countMated (b : Nat)  (M : Mem) : Option (Int32 × Mem) := (fX1_countMated_L4 b fu 0 0 M)
set_option maxHeartbeats 4000000 in
set_option maxRecDepth 100000 in
theorem mtX1_countMated (E : EV) (l : Launch) (b : Nat) (hb : isLd b)  (M : Mem) : CT E l yX1_countMated wsX1_countMated rmX1_countMated vI [.ref (eA E b)] (fX1_countMated b M) M := by
  refine ct_of (cc := cX1_countMated) (nL := 3) (ret := (some .int)) (by decide +kernel) rfl (Nat.le_of_ble_eq_true rfl) ?_
  show ZZ E l RX1 cX1_countMated 3 (some .int) wsX1_countMated rmX1_countMated vI (fX1_countMated b M) M [(0, .ref (eA E b))] 0 []
  unfold fX1_countMated
  refine zz_iconst (npc := 1) 0 (by decide) dX1_countMated_0 rfl ?_
  refine zz_istore_n (npc := 2) (lv1 := [(1, .int 0), (0, .ref (eA E b))]) rfl dX1_countMated_1 rfl (by decide) rfl ?_
  refine zz_iconst (npc := 3) 0 (by decide) dX1_countMated_2 rfl ?_
  refine zz_istore_n (npc := 4) (lv1 := [(2, .int 0), (1, .int 0), (0, .ref (eA E b))]) rfl dX1_countMated_3 rfl (by decide) rfl ?_
  refine zz_sub (npc := 0) (lv1 := [(0, .ref (eA E b)), (1, .int 0), (2, .int 0)]) [2, 1, 0] rfl ?_
  exact zX1_countMated_L4 E l b hb fu 0 0 M
abbrev rmX1_sunOfAll : Room := { frames := 0, cells := 0, slots := 0, locals := 0 }
theorem iX1_sunOfAll_1 : ∀ w ∈ u_ws RX1 TX1 12, w ∈ wsX1_sunOfAll := fun w h => List.mem_cons_of_mem _ (List.mem_append_right _ h)
noncomputable def fX1_sunOfAll_L4 (b : Nat)  : Nat → Int32 → Int32 → Mem → Option (Int32 × Mem)
  | 0, _, _, _ => none
  | n + 1, y1, y2, M => (if (M b 6) ≤ y2 then (some (y1, M)) else (ck (inb y2 8) (bv (y1 + (M (b + 2) (ix y2))) fun v1 => (bv (y2 + 1) fun v2 => (fX1_sunOfAll_L4 b n v1 v2 M)))))
set_option maxHeartbeats 4000000 in
set_option maxRecDepth 100000 in
theorem zX1_sunOfAll_L4 (E : EV) (l : Launch) (b : Nat) (hb : isLd b)   : ∀ (n : Nat) (y1 : Int32) (y2 : Int32) (M : Mem), ZZ E l RX1 cX1_sunOfAll 3 (some .int) wsX1_sunOfAll rmX1_sunOfAll vI (fX1_sunOfAll_L4 b n y1 y2 M) M [(0, .ref (eA E b)), (1, .int y1), (2, .int y2)] 4 [] := by
  intro n
  induction n with
  | zero => intros; exact zz_none
  | succ n ih =>
    intro y1 y2 M
    rw [fX1_sunOfAll_L4]
    refine zz_iload_n (npc := 5) 2 rfl rfl dX1_sunOfAll_4 rfl ?_
    refine zz_aload_n (npc := 6) 0 rfl rfl dX1_sunOfAll_5 rfl ?_
    refine zz_getI (npc := 9) (i := 6) (C0 := RX1) (T := TX1) (N := 12) (ld_lt0 hb) (ld_o hb) rfl (by decide) iX1_sunOfAll_1 (List.mem_of_getElem? (i := 1) rfl) rfl dX1_sunOfAll_6 rfl ?_
    refine zz_icmp_ge (tgt := 27) (npc := 12) dX1_sunOfAll_9 (by decide) rfl ?_ ?_
    · refine zz_iload_n (npc := 28) 1 rfl rfl dX1_sunOfAll_27 rfl ?_
      exact zz_iret dX1_sunOfAll_28
    · refine zz_iload_n (npc := 13) 1 rfl rfl dX1_sunOfAll_12 rfl ?_
      refine zz_aload_n (npc := 14) 0 rfl rfl dX1_sunOfAll_13 rfl ?_
      refine zz_getR (npc := 17) (i := 1) (C0 := RX1) (T := TX1) (N := 12) (ld_lt0 hb) (ld_o hb) rfl (by decide) iX1_sunOfAll_1 (List.mem_of_getElem? (i := 2) rfl) rfl dX1_sunOfAll_14 rfl ?_
      refine zz_iload_n (npc := 18) 2 rfl rfl dX1_sunOfAll_17 rfl ?_
      refine zz_iald (npc := 19) (ld_lt2 hb) (ld_a2 hb) dX1_sunOfAll_18 rfl ?_
      refine zz_iadd (npc := 20) dX1_sunOfAll_19 rfl ?_
      refine zz_istore_nB (npc := 21) (lv1 := fun v1 => [(1, .int v1), (0, .ref (eA E b)), (2, .int y2)]) rfl dX1_sunOfAll_20 rfl (by decide) (fun _ => rfl) (fun v1 => ?_)
      refine zz_iincB (npc := 24) (y2 + 1) (lv1 := fun v2 => [(2, .int v2), (1, .int v1), (0, .ref (eA E b))]) dX1_sunOfAll_21 rfl 2 rfl rfl (by decide) (fun _ => rfl) (fun v2 => ?_)
      refine zz_goto (npc := 0) (tgt := 4) dX1_sunOfAll_24 (by decide) ?_
      refine zz_sub (npc := 0) (lv1 := [(0, .ref (eA E b)), (1, .int v1), (2, .int v2)]) [2, 1, 0] rfl ?_
      exact ih v1 v2 M
noncomputable def fX1_sunOfAll (b : Nat)  (M : Mem) : Option (Int32 × Mem) := (fX1_sunOfAll_L4 b fu 0 0 M)
set_option maxHeartbeats 4000000 in
set_option maxRecDepth 100000 in
theorem mtX1_sunOfAll (E : EV) (l : Launch) (b : Nat) (hb : isLd b)  (M : Mem) : CT E l yX1_sunOfAll wsX1_sunOfAll rmX1_sunOfAll vI [.ref (eA E b)] (fX1_sunOfAll b M) M := by
  refine ct_of (cc := cX1_sunOfAll) (nL := 3) (ret := (some .int)) (by decide +kernel) rfl (Nat.le_of_ble_eq_true rfl) ?_
  show ZZ E l RX1 cX1_sunOfAll 3 (some .int) wsX1_sunOfAll rmX1_sunOfAll vI (fX1_sunOfAll b M) M [(0, .ref (eA E b))] 0 []
  unfold fX1_sunOfAll
  refine zz_iconst (npc := 1) 0 (by decide) dX1_sunOfAll_0 rfl ?_
  refine zz_istore_n (npc := 2) (lv1 := [(1, .int 0), (0, .ref (eA E b))]) rfl dX1_sunOfAll_1 rfl (by decide) rfl ?_
  refine zz_iconst (npc := 3) 0 (by decide) dX1_sunOfAll_2 rfl ?_
  refine zz_istore_n (npc := 4) (lv1 := [(2, .int 0), (1, .int 0), (0, .ref (eA E b))]) rfl dX1_sunOfAll_3 rfl (by decide) rfl ?_
  refine zz_sub (npc := 0) (lv1 := [(0, .ref (eA E b)), (1, .int 0), (2, .int 0)]) [2, 1, 0] rfl ?_
  exact zX1_sunOfAll_L4 E l b hb fu 0 0 M
abbrev rmX1_countHeld : Room := { frames := 0, cells := 0, slots := 0, locals := 0 }
theorem iX1_countHeld_1 : ∀ w ∈ u_ws RX1 TX1 12, w ∈ wsX1_countHeld := fun w h => List.mem_cons_of_mem _ (List.mem_append_right _ h)
noncomputable def fX1_countHeld_L37 (b : Nat) (k13 : Int32 → Int32 → Int32 → Mem → Option (Int32 × Mem)) (y3 : Int32) (y4 : Int32) (w0 : Int32) (w1 : Int32) (M : Mem) : Option (Int32 × Mem) := (bv (w1 + w0) fun v2 => (bv (y4 + 1) fun v3 => (k13 v2 y3 v3 M)))
set_option maxHeartbeats 4000000 in
set_option maxRecDepth 100000 in
theorem zX1_countHeld_L37 (E : EV) (l : Launch) (b : Nat) (hb : isLd b) (k13 : Int32 → Int32 → Int32 → Mem → Option (Int32 × Mem)) (hk13 : ∀ (y1_ : Int32) (y3_ : Int32) (y4_ : Int32) (M_ : Mem), ZZ E l RX1 cX1_countHeld 6 (some .int) wsX1_countHeld rmX1_countHeld vI (k13 y1_ y3_ y4_ M_) M_ [(1, .int y1_), (2, .ref (eA E (b + 6))), (3, .int y3_), (4, .int y4_)] 13 []) : ∀ (y3 : Int32) (y4 : Int32) (w0 : Int32) (w1 : Int32) (M : Mem), ZZ E l RX1 cX1_countHeld 6 (some .int) wsX1_countHeld rmX1_countHeld vI (fX1_countHeld_L37 b k13 y3 y4 w0 w1 M) M [(2, .ref (eA E (b + 6))), (3, .int y3), (4, .int y4)] 37 [.int w0, .int w1] := by
  intro y3 y4 w0 w1 M
  unfold fX1_countHeld_L37
  refine zz_iadd (npc := 38) dX1_countHeld_37 rfl ?_
  refine zz_istore_nB (npc := 39) (lv1 := fun v2 => [(1, .int v2), (2, .ref (eA E (b + 6))), (3, .int y3), (4, .int y4)]) rfl dX1_countHeld_38 rfl (by decide) (fun _ => rfl) (fun v2 => ?_)
  refine zz_iincB (npc := 42) (y4 + 1) (lv1 := fun v3 => [(4, .int v3), (1, .int v2), (2, .ref (eA E (b + 6))), (3, .int y3)]) dX1_countHeld_39 rfl 3 rfl rfl (by decide) (fun _ => rfl) (fun v3 => ?_)
  refine zz_goto (npc := 0) (tgt := 13) dX1_countHeld_42 (by decide) ?_
  refine zz_sub (npc := 0) (lv1 := [(1, .int v2), (2, .ref (eA E (b + 6))), (3, .int y3), (4, .int v3)]) [1, 2, 3, 0] rfl ?_
  exact hk13 v2 y3 v3 M
noncomputable def fX1_countHeld_L13 (b : Nat)  : Nat → Int32 → Int32 → Int32 → Mem → Option (Int32 × Mem)
  | 0, _, _, _, _ => none
  | n + 1, y1, y3, y4, M => (if y3 ≤ y4 then (some (y1, M)) else (ck (inb y4 10) (bv (M (b + 6) (ix y4)) fun v1 => (if v1 = (-1) then (fX1_countHeld_L37 b (fX1_countHeld_L13 b n) y3 y4 0 y1 M) else (fX1_countHeld_L37 b (fX1_countHeld_L13 b n) y3 y4 1 y1 M)))))
set_option maxHeartbeats 4000000 in
set_option maxRecDepth 100000 in
theorem zX1_countHeld_L13 (E : EV) (l : Launch) (b : Nat) (hb : isLd b)   : ∀ (n : Nat) (y1 : Int32) (y3 : Int32) (y4 : Int32) (M : Mem), ZZ E l RX1 cX1_countHeld 6 (some .int) wsX1_countHeld rmX1_countHeld vI (fX1_countHeld_L13 b n y1 y3 y4 M) M [(1, .int y1), (2, .ref (eA E (b + 6))), (3, .int y3), (4, .int y4)] 13 [] := by
  intro n
  induction n with
  | zero => intros; exact zz_none
  | succ n ih =>
    intro y1 y3 y4 M
    rw [fX1_countHeld_L13]
    refine zz_iload (npc := 15) 3 rfl dX1_countHeld_13 rfl ?_
    refine zz_iload_n (npc := 16) 2 rfl rfl dX1_countHeld_15 rfl ?_
    refine zz_icmp_ge (tgt := 45) (npc := 19) dX1_countHeld_16 (by decide) rfl ?_ ?_
    · refine zz_iload_n (npc := 46) 0 rfl rfl dX1_countHeld_45 rfl ?_
      exact zz_iret dX1_countHeld_46
    · refine zz_aload_n (npc := 20) 1 rfl rfl dX1_countHeld_19 rfl ?_
      refine zz_iload (npc := 22) 3 rfl dX1_countHeld_20 rfl ?_
      refine zz_iald (npc := 23) (ld_lt6 hb) (ld_a6 hb) dX1_countHeld_22 rfl ?_
      refine zz_istoreB (npc := 25) (lv1 := fun v1 => [(5, .int v1), (1, .int y1), (2, .ref (eA E (b + 6))), (3, .int y3), (4, .int y4)]) dX1_countHeld_23 rfl (by decide) (fun _ => rfl) (fun v1 => ?_)
      refine zz_iload_n (npc := 26) 1 rfl rfl dX1_countHeld_25 rfl ?_
      refine zz_iload (npc := 28) 0 rfl dX1_countHeld_26 rfl ?_
      refine zz_iconst (npc := 29) (-1) (by decide) dX1_countHeld_28 rfl ?_
      refine zz_icmp_ne (tgt := 36) (npc := 32) dX1_countHeld_29 (by decide) rfl ?_ ?_
      · refine zz_iconst (npc := 37) 1 (by decide) dX1_countHeld_36 rfl ?_
        refine zz_sub (npc := 0) (lv1 := [(2, .ref (eA E (b + 6))), (3, .int y3), (4, .int y4)]) [2, 3, 4] rfl ?_
        exact zX1_countHeld_L37 E l b hb (fX1_countHeld_L13 b n) ih y3 y4 1 y1 M
      · refine zz_iconst (npc := 33) 0 (by decide) dX1_countHeld_32 rfl ?_
        refine zz_goto (npc := 0) (tgt := 37) dX1_countHeld_33 (by decide) ?_
        refine zz_sub (npc := 0) (lv1 := [(2, .ref (eA E (b + 6))), (3, .int y3), (4, .int y4)]) [2, 3, 4] rfl ?_
        exact zX1_countHeld_L37 E l b hb (fX1_countHeld_L13 b n) ih y3 y4 0 y1 M
noncomputable def fX1_countHeld (b : Nat)  (M : Mem) : Option (Int32 × Mem) := (fX1_countHeld_L13 b fu 0 10 0 M)
set_option maxHeartbeats 4000000 in
set_option maxRecDepth 100000 in
theorem mtX1_countHeld (E : EV) (l : Launch) (b : Nat) (hb : isLd b)  (M : Mem) : CT E l yX1_countHeld wsX1_countHeld rmX1_countHeld vI [.ref (eA E b)] (fX1_countHeld b M) M := by
  refine ct_of (cc := cX1_countHeld) (nL := 6) (ret := (some .int)) (by decide +kernel) rfl (Nat.le_of_ble_eq_true rfl) ?_
  show ZZ E l RX1 cX1_countHeld 6 (some .int) wsX1_countHeld rmX1_countHeld vI (fX1_countHeld b M) M [(0, .ref (eA E b))] 0 []
  unfold fX1_countHeld
  refine zz_iconst (npc := 1) 0 (by decide) dX1_countHeld_0 rfl ?_
  refine zz_istore_n (npc := 2) (lv1 := [(1, .int 0), (0, .ref (eA E b))]) rfl dX1_countHeld_1 rfl (by decide) rfl ?_
  refine zz_aload_n (npc := 3) 1 rfl rfl dX1_countHeld_2 rfl ?_
  refine zz_getR (npc := 6) (i := 5) (C0 := RX1) (T := TX1) (N := 12) (ld_lt0 hb) (ld_o hb) rfl (by decide) iX1_countHeld_1 (List.mem_of_getElem? (i := 1) rfl) rfl dX1_countHeld_3 rfl ?_
  refine zz_astore_n (npc := 7) (lv1 := [(2, .ref (eA E (b + 6))), (1, .int 0), (0, .ref (eA E b))]) rfl dX1_countHeld_6 rfl (by decide) rfl ?_
  refine zz_aload_n (npc := 8) 0 rfl rfl dX1_countHeld_7 rfl ?_
  refine zz_alen (npc := 9) 10 (ld_lt6 hb) (ld_a6 hb) (by decide) dX1_countHeld_8 rfl ?_
  refine zz_istore_n (npc := 10) (lv1 := [(3, .int 10), (2, .ref (eA E (b + 6))), (1, .int 0), (0, .ref (eA E b))]) rfl dX1_countHeld_9 rfl (by decide) rfl ?_
  refine zz_iconst (npc := 11) 0 (by decide) dX1_countHeld_10 rfl ?_
  refine zz_istore (npc := 13) (lv1 := [(4, .int 0), (3, .int 10), (2, .ref (eA E (b + 6))), (1, .int 0), (0, .ref (eA E b))]) dX1_countHeld_11 rfl (by decide) rfl ?_
  refine zz_sub (npc := 0) (lv1 := [(1, .int 0), (2, .ref (eA E (b + 6))), (3, .int 10), (4, .int 0)]) [3, 2, 1, 0] rfl ?_
  exact zX1_countHeld_L13 E l b hb fu 0 10 0 M
